/-! THE LAW'S PAD: numbers, entries, the whole tape -/
def digL (w : Nat) : List Int32 := if w < 10 then [nI (48 + w)] else [nI (48 + w / 10), nI (48 + w % 10)]
def nx1 (w : Nat) : Int32 := (Int32.toUInt32 0 >>> (Int32.toUInt32 8 &&& Int32.toUInt32 31)).toInt32 ||| ((48 + (nI w - nI w / 10 * 10)) <<< (24 &&& 31))
def nx2 (w : Nat) : Int32 := (Int32.toUInt32 (nx1 w) >>> (Int32.toUInt32 8 &&& Int32.toUInt32 31)).toInt32 ||| ((48 + (nI w / 10 - nI w / 10 / 10 * 10)) <<< (24 &&& 31))
theorem nx1_b : ∀ w, w < 10 → (bt4 (nx1 w)).take 1 = digL w := by decide +kernel
theorem nx2_b : ∀ w, w < 90 → 10 ≤ w → (bt4 (nx2 w)).take 2 = digL w := by decide +kernel
theorem cl_number {d : Nat} (hd : 9 ≤ d) {B : pM} {I : pIm} {p n w : Nat} {sc : Nat → Int32} {s : wS} {K : pM → Prop} (h : lawJ B I p n sc s) (hN : pN B + 11 ≤ pBIG) (hl : s.1.length ≤ 1700) (hw : w < 90) (hK : ∀ (B' : pM) (I' : pIm), lawJ B' I' p n sc ((s.1 ++ sB 13) ++ digL w, s.2) → pN B' ≤ pN B + 11 → K (pset B' I')) : pCall_v d mL_number (11, 66) [.ref p, .int (nI w)] (pset B I) K := by
  refine CP_go (by omega) okL_number (Nat.le_of_ble_eq_true rfl) (bL_number_0 ⟨(8, 48), by decide, by decide, ?_⟩)
  refine cl_say (by omega) h (by omega) (by omega) (by decide) (fun B1 I1 j1 b1 => ?_)
  rw [h.keep j1]
  refine ⟨j1.kb, (1, 6), by decide, by decide, ?_⟩
  refine J_count (by omega) j1 (by omega) (fun M2 B2 I2 e2 j2 a2 b2 => ?_)
  rw [e2]
  have l13 : (sB 13).length = 1 := by decide
  have hl2 : (s.1 ++ sB 13).length = s.1.length + 1 := by rw [List.length_append, l13]
  have fin : ∀ (x : Int32) (k : Nat), 1 ≤ k → k ≤ 4 → (bt4 x).take k = digL w → Go (d - 1) mL_number (fun r M => r = .inl none ∧ K M) 21 ([some (.ref p), none, some (.int (nI (s.1 ++ sB 13).length)), some (.int x), some (.int (nI k)), some (.int 0)], [], 2, 12) (pset B2 I2) := by
    intro x k h1 h4 hx
    refine bL_number_21 ⟨fun e => absurd e (nI_ne0 (by omega) (by omega)), fun _ => ⟨fun _ => ⟨j2.kb, (1, 6), by decide, by decide, ?_⟩, fun g => absurd (by decide : (0 : Int32) ≤ 0) g⟩⟩
    refine J_feed (by omega) j2 (by omega) (by dsimp only; omega) (fun M3 B3 I3 e3 j3 a3 b3 => ?_)
    rw [e3]
    refine ⟨j3.kb, (1, 6), by decide, by decide, ?_⟩
    rw [nI_add]
    refine J_trim (by omega) j3 (by omega) (by simp only [List.length_append, bt4_len]; omega) (fun M4 B4 I4 e4 j4 a4 b4 => ?_)
    rw [e4]
    refine ⟨rfl, hK B4 I4 ?_ (by omega)⟩
    have e : (s.1 ++ sB 13 ++ bt4 x ++ bt4 0 ++ bt4 0 ++ bt4 0 ++ bt4 0).take ((s.1 ++ sB 13).length + k) = (s.1 ++ sB 13) ++ digL w := by
      rw [show s.1 ++ sB 13 ++ bt4 x ++ bt4 0 ++ bt4 0 ++ bt4 0 ++ bt4 0 = (s.1 ++ sB 13) ++ (bt4 x ++ (bt4 0 ++ bt4 0 ++ bt4 0 ++ bt4 0)) from by simp only [List.append_assoc], List.take_length_add_append, List.take_append_of_le_length (by rw [bt4_len]; exact h4), hx]
    dsimp only at j4
    rw [e] at j4
    exact j4
  have e10 : nI w / 10 = nI (w / 10) := nI_div (b := 10) (by omega) (by decide)
  refine bL_number_21 ⟨fun _ => bL_number_31 ?_, fun g => absurd rfl g⟩
  by_cases hw1 : w < 10
  · have e0 : nI w / 10 = 0 := by rw [e10, Nat.div_eq_of_lt hw1]; rfl
    have f := fin (nx1 w) 1 (by decide) (by decide) (nx1_b w hw1)
    rw [e0]
    unfold nx1 at f
    rw [e0] at f
    exact f
  · have f := fin (nx2 w) 2 (by decide) (by decide) (nx2_b w hw (by omega))
    refine bL_number_21 ⟨fun e => absurd e (by decide), fun _ => ⟨fun g => ?_, fun _ => bL_number_31 ?_⟩⟩
    · rw [e10] at g
      exact absurd g (nI_nle (by omega) (by omega))
    · have e00 : nI w / 10 / 10 = 0 := by
        rw [e10, show nI (w / 10) / 10 = nI (w / 10 / 10) from nI_div (b := 10) (by omega) (by decide), Nat.div_eq_of_lt (by omega)]
        rfl
      unfold nx2 nx1 at f
      rw [e00] at f ⊢
      exact f
/-- letters of a word, and its place in the tape -/
def sizN (sc : Nat → Int32) (n w : Nat) : Nat := (sizI sc n w).toNatClampNeg
def weiN (sc : Nat → Int32) (n w : Nat) : Nat := (weiI sc n w).toNatClampNeg
theorem sizN_in {sc : Nat → Int32} {n w : Nat} : 1 ≤ sizN sc n w ∧ sizN sc n w ≤ 5 ∧ sizI sc n w = nI (sizN sc n w) := by
  obtain ⟨k, h1, h2, h3⟩ := siz_in (sc := sc) (n := n) (w := w)
  have e : sizN sc n w = k := by unfold sizN; rw [h3, nI_clamp (by omega)]
  rw [e]
  exact ⟨h1, h2, h3⟩
theorem weiN_in {sc : Nat → Int32} {n w : Nat} : weiN sc n w < 90 ∧ weiI sc n w = nI (weiN sc n w) := by
  obtain ⟨k, h1, h3⟩ := wei_in (sc := sc) (n := n) (w := w)
  have e : weiN sc n w = k := by unfold weiN; rw [h3, nI_clamp (by omega)]
  rw [e]
  exact ⟨h1, h3⟩
def namL (sc : Nat → Int32) (n w : Nat) : List Int32 := (List.range (sizN sc n w + 1)).map (letC sc n w)
theorem let_nI {sc : Nat → Int32} {n w i : Nat} (hw : w < 6) : ∃ b, b < 128 ∧ letC sc n w i = nI b := by
  by_cases g : nI i = sizI sc n w
  · refine ⟨48 + w, by omega, ?_⟩
    unfold letC
    rw [if_pos g]
    exact nI_add 48 w
  · obtain ⟨k, h1, h2, h3⟩ := let_in g
    exact ⟨k, by omega, h3⟩
theorem namL_len {sc : Nat → Int32} {n w : Nat} : (namL sc n w).length = sizN sc n w + 1 := by unfold namL; simp
def endI (w : Nat) : Nat := if w % 3 = 2 then 17 else if w % 3 = 0 then 18 else 19
def entL (sc : Nat → Int32) (n w : Nat) : List Int32 := sB 15 ++ namL sc n w ++ sB 16 ++ (sB 13 ++ digL (weiN sc n w)) ++ sB (endI w)
theorem digL_len {w : Nat} : (digL w).length ≤ 2 := by unfold digL; split <;> simp
theorem endI_len : ∀ w, w < 6 → (sB (endI w)).length ≤ 6 := by decide
theorem entL_len {sc : Nat → Int32} {n w : Nat} (hw : w < 6) : (entL sc n w).length ≤ 30 := by
  have h1 := (sizN_in (sc := sc) (n := n) (w := w)).2.1
  have h2 := digL_len (w := weiN sc n w)
  have h3 := endI_len w hw
  have l13 : (sB 13).length = 1 := by decide
  have l15 : (sB 15).length = 5 := by decide
  have l16 : (sB 16).length = 7 := by decide
  unfold entL
  simp only [List.length_append, namL_len, l13, l15, l16]
  omega
def tapL (sc : Nat → Int32) (n : Nat) : Nat → List Int32
  | 0 => sB 14
  | k + 1 => tapL sc n k ++ entL sc n k
theorem tapL_len {sc : Nat → Int32} {n : Nat} : ∀ k, k ≤ 6 → (tapL sc n k).length ≤ 30 + 30 * k := by
  intro k
  induction k with
  | zero => intro _; exact (by decide : (sB 14).length ≤ 30)
  | succ k ih =>
    intro h
    have := ih (by omega)
    have := entL_len (sc := sc) (n := n) (w := k) (by omega)
    unfold tapL
    rw [List.length_append]
    omega
def taped (sc : Nat → Int32) (n : Nat) : List Int32 := tapL sc n 6 ++ sB 20
def s0W (l : List Int32) : wS := (l, -1, bK0, [], 0, -1, 4)
/-- one entry's letters -/
theorem cl_names {d : Nat} (hd : 9 ≤ d) {Q : pR → pM → Prop} {p n w : Nat} {sc : Nat → Int32} {l : List Int32} (hw : w < 6) (hl : l.length ≤ 400) : ∀ (m i : Nat) (B : pM) (I : pIm) (c t : Nat), i + m = sizN sc n w + 1 → lawJ B I p n sc (s0W (l ++ (List.range i).map (letC sc n w))) → pN B + 3 * m + 100 ≤ pBIG → 3 * m ≤ c → 18 * m ≤ t →
    (∀ (B' : pM) (I' : pIm), lawJ B' I' p n sc (s0W (l ++ namL sc n w)) → pN B' ≤ pN B + 3 * m → Go d mL_pad Q 30 ([some (.ref pSCR), some (.ref p), some (.int (nI w)), some (.int (nI (sizN sc n w + 1)))], [], c - 3 * m, t - 18 * m) (pset B' I')) →
    Go d mL_pad Q 30 ([some (.ref pSCR), some (.ref p), some (.int (nI w)), some (.int (nI i))], [], c, t) (pset B I) := by
  intro m
  induction m with
  | zero =>
    intro i B I c t hi hj hN hc ht h
    have e : i = sizN sc n w + 1 := by omega
    subst e
    exact h B I hj (by omega)
  | succ m ih =>
    intro i B I c t hi hj hN hc ht h
    obtain ⟨z1, z2, z3⟩ := sizN_in (sc := sc) (n := n) (w := w)
    refine bL_pad_30 (cl_size (by omega) hj.scr (by omega) ⟨fun g => ?_, fun _ => ?_⟩)
    · rw [z3] at g
      have := (nI_ltI (by omega) (by omega)).mp g
      omega
    · rw [keep_self]
      refine cl_letter_ (by omega) hj.scr (by omega) ?_
      rw [keep_self]
      obtain ⟨b, b1, b2⟩ := let_nI (sc := sc) (n := n) (w := w) (i := i) hw
      rw [b2]
      refine ⟨(3, 18), by show 3 ≤ c; omega, by show 18 ≤ t; omega, ?_⟩
      refine cl_put (by omega) hj (by omega) (by simp [s0W]; omega) (by omega) (fun B1 I1 j1 n1 => ?_)
      rw [hj.keep j1, nI_1]
      refine ih (i + 1) B1 I1 (c - 3) (t - 18) (by omega) ?_ (by omega) (by omega) (by omega) (fun B2 I2 j2 n2 => ?_)
      · rw [List.range_succ, List.map_append, ← List.append_assoc]
        show lawJ B1 I1 p n sc (s0W (l ++ (List.range i).map (letC sc n w) ++ [letC sc n w i]))
        rw [b2]
        exact j1
      · have e1 : c - 3 * (m + 1) = c - 3 - 3 * m := by omega
        have e2 : t - 18 * (m + 1) = t - 18 - 18 * m := by omega
        have := h B2 I2 j2 (by omega)
        rw [e1, e2] at this
        exact this
theorem mod3 : ∀ w, w < 6 → nI w - nI w / 3 * 3 = nI (w % 3) := by decide +kernel
/-- one entry -/
theorem cl_entry {d : Nat} (hd : 10 ≤ d) {Q : pR → pM → Prop} {p n w : Nat} {sc : Nat → Int32} {l : List Int32} {B : pM} {I : pIm} {c t : Nat} (hw : w < 6) (hl : l.length ≤ 300) (hj : lawJ B I p n sc (s0W l)) (hN : pN B + 200 ≤ pBIG) (hc : 60 ≤ c) (ht : 360 ≤ t)
    (h : ∀ (B' : pM) (I' : pIm) (c' t' : Nat), lawJ B' I' p n sc (s0W (l ++ entL sc n w)) → pN B' ≤ pN B + 60 → c ≤ c' + 60 → t ≤ t' + 360 → Go d mL_pad Q 16 ([some (.ref pSCR), some (.ref p), some (.int (nI (w + 1))), none], [], c', t') (pset B' I')) :
    Go d mL_pad Q 16 ([some (.ref pSCR), some (.ref p), some (.int (nI w)), none], [], c, t) (pset B I) := by
  refine bL_pad_16 ⟨fun g => ?_, fun _ => ⟨(8, 48), by show 8 ≤ c; omega, by show 48 ≤ t; omega, ?_⟩⟩
  · have := (nI_leI (a := 6) (by omega) (by omega)).mp g
    omega
  have l15 : (sB 15).length = 5 := by decide
  have l16 : (sB 16).length = 7 := by decide
  have l13 : (sB 13).length = 1 := by decide
  obtain ⟨z1, z2, z3⟩ := sizN_in (sc := sc) (n := n) (w := w)
  obtain ⟨w1, w2⟩ := weiN_in (sc := sc) (n := n) (w := w)
  have d1 := digL_len (w := weiN sc n w)
  have ll : l.length = (s0W l).1.length := rfl
  refine cl_say (by omega) hj (by omega) (by rw [← ll]; omega) (by decide) (fun B1 I1 j1 n1 => ?_)
  rw [hj.keep j1]
  refine cl_names (sc := sc) (n := n) (by omega) (l := l ++ sB 15) hw (by rw [List.length_append, l15]; omega) (sizN sc n w + 1) 0 B1 I1 _ _ (by omega) (by rw [List.range_zero, List.map_nil, List.append_nil]; exact j1) (by omega) (by show _ ≤ c - 8; omega) (by show _ ≤ t - 48; omega) (fun B2 I2 j2 n2 => ?_)
  refine bL_pad_30 (cl_size (by omega) j2.scr (by omega) ⟨fun _ => ?_, fun g => ?_⟩)
  rotate_left
  · rw [z3] at g
    exact absurd (nI_lt (by omega) (by omega)) g
  rw [keep_self]
  refine ⟨(8, 48), by show 8 ≤ c - 8 - _; omega, by show 48 ≤ t - 48 - _; omega, ?_⟩
  refine cl_say (by omega) j2 (by omega) (by simp only [s0W, List.length_append, namL_len, l15]; omega) (by decide) (fun B3 I3 j3 n3 => ?_)
  rw [j2.keep j3]
  refine cl_weight (by omega) j3.scr hw ?_
  rw [keep_self, w2]
  refine ⟨(11, 66), by show 11 ≤ c - 8 - _ - 8; omega, by show 66 ≤ t - 48 - _ - 48; omega, ?_⟩
  refine cl_number (by omega) j3 (by omega) (by simp only [s0W, List.length_append, namL_len, l15, l16]; omega) w1 (fun B4 I4 j4 n4 => ?_)
  rw [j3.keep j4, mod3 w hw, nI_1]
  have hlen4 : (s0W (l ++ sB 15 ++ namL sc n w)).1.length ≤ 320 := by simp only [s0W, List.length_append, namL_len, l15]; omega
  have fin : ∀ i, i = endI w → i < 21 → pCall_v d mL_say (8, 48) [.ref p, .ref (pBIG + i)] (pset B4 I4) (fun M5 => Go d mL_pad Q 16 ([some (.ref pSCR), some (.ref p), some (.int (nI (w + 1))), none], [], (((c - 8 - 3 * (sizN sc n w + 1)) - 8) - 11) - 8, (((t - 48 - 18 * (sizN sc n w + 1)) - 48) - 66) - 48) (keepM (pset B4 I4) M5)) := by
    intro i hi h21
    refine cl_say (by omega) j4 (by omega) (by simp only [s0W, List.length_append, namL_len, l15, l16, l13]; omega) h21 (fun B5 I5 j5 n5 => ?_)
    rw [j4.keep j5]
    refine h B5 I5 _ _ ?_ (by omega) (by omega) (by omega)
    rw [hi] at j5
    unfold entL
    simp only [s0W, List.append_assoc] at j5 ⊢
    exact j5
  refine ⟨fun g => ⟨(8, 48), by show 8 ≤ c - 8 - _ - 8 - 11; omega, by show 48 ≤ t - 48 - _ - 48 - 66; omega, fin 17 ?_ (by decide)⟩, fun g => ⟨fun g2 => ⟨(8, 48), by show 8 ≤ c - 8 - _ - 8 - 11; omega, by show 48 ≤ t - 48 - _ - 48 - 66; omega, fin 18 ?_ (by decide)⟩, fun g2 => ⟨(8, 48), by show 8 ≤ c - 8 - _ - 8 - 11; omega, by show 48 ≤ t - 48 - _ - 48 - 66; omega, fin 19 ?_ (by decide)⟩⟩⟩
  · have := (nI_eq (a := w % 3) (b := 2) (by omega) (by omega)).mp g
    unfold endI; rw [if_pos this]
  · have h2 : ¬ w % 3 = 2 := fun z => g (by rw [z]; rfl)
    have := (nI_eq (a := w % 3) (b := 0) (by omega) (by omega)).mp g2
    unfold endI; rw [if_neg h2, if_pos this]
  · have h2 : ¬ w % 3 = 2 := fun z => g (by rw [z]; rfl)
    have h3 : ¬ w % 3 = 0 := fun z => g2 (by rw [z]; rfl)
    unfold endI; rw [if_neg h2, if_neg h3]
theorem teach_l {l : List Int32} (h : (rdOut l).1 = 0) : teachO (l, -1, bK0, [], 0, -1, 4) = (rI 0, ([], (rdOut l).2.1, (rdOut l).2.2, [], 0, -1, 4)) := if_pos h
/-- all entries, the boost, teach -/
theorem cl_ents {d : Nat} (hd : 121 ≤ d) {Q : pR → pM → Prop} {p n : Nat} {sc : Nat → Int32} (hT : (rdOut (taped sc n)).1 = 0) : ∀ (m w : Nat) (B : pM) (I : pIm) (c t : Nat), w + m = 6 → lawJ B I p n sc (s0W (tapL sc n w)) → pN B + 60 * m + 300 ≤ pBIG → 60 * m + 10 ≤ c → 360 * m + 60 ≤ t →
    (∀ (B' : pM) (I' : pIm), lawJ B' I' p n sc ([], (rdOut (taped sc n)).2.1, (rdOut (taped sc n)).2.2, [], 0, -1, 4) → pN B' ≤ pN B + 60 * m + 10 → Q (.inl (some (.ref p))) (pset B' I')) →
    Go d mL_pad Q 16 ([some (.ref pSCR), some (.ref p), some (.int (nI w)), none], [], c, t) (pset B I) := by
  intro m
  induction m with
  | zero =>
    intro w B I c t hw hj hN hc ht h
    have e : w = 6 := by omega
    subst e
    have hl := tapL_len (sc := sc) (n := n) 6 (by omega)
    refine bL_pad_16 ⟨fun _ => ⟨(8, 48), by show 8 ≤ c; omega, by show 48 ≤ t; omega, ?_⟩, fun g => absurd (by decide : (6 : Int32) ≤ nI 6) g⟩
    refine cl_say (by omega) hj (by omega) (by show (tapL sc n 6).length ≤ 1800; omega) (by decide) (fun B1 I1 j1 n1 => ?_)
    rw [hj.keep j1]
    refine ⟨j1.kb, (1, 6), by show 1 ≤ c - 8; omega, by show 6 ≤ t - 48; omega, ?_⟩
    have j2 : lawJ B1 I1 p n sc (taped sc n, -1, bK0, [], 0, -1, 4) := j1
    refine j2.i (by omega) (fun _ _ _ ps pd ho => o_teach hd ps pd (by omega) (by rw [teach_l hT]; exact ho)) (fun M2 B2 I2 e2 j3 a2 b2 => ⟨fun _ => ?_, fun z => absurd rfl z⟩)
    rw [e2]
    exact h B2 I2 j3 (by omega)
  | succ m ih =>
    intro w B I c t hw hj hN hc ht h
    have hl := tapL_len (sc := sc) (n := n) w (by omega)
    refine cl_entry (by omega) (by omega) (l := tapL sc n w) (by omega) hj (by omega) (by omega) (by omega) (fun B1 I1 c1 t1 j1 n1 k1 k2 => ?_)
    exact ih (w + 1) B1 I1 c1 t1 (by omega) j1 (by omega) (by omega) (by omega) (fun B2 I2 j2 n2 => h B2 I2 j2 (by omega))
