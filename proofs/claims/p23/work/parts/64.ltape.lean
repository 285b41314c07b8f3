/-! THE LAW'S HAND AT THE TAPE: say, number, put -/
theorem bt4_four {a b c d : Nat} (ha : a < 256) (hb : b < 256) (hc : c < 256) (hd : d < 256) : bt4 ((((nI a <<< (24 &&& 31)) ||| (nI b <<< (16 &&& 31))) ||| (nI c <<< (8 &&& 31))) ||| nI d) = [nI a, nI b, nI c, nI d] := by
  obtain ⟨a1, a2, a3, a4⟩ := bt_0 a ha
  obtain ⟨b1, b2, b3, b4⟩ := bt_1 b hb
  obtain ⟨c1, c2, c3, c4⟩ := bt_2 c hc
  obtain ⟨d1, d2, d3, d4⟩ := bt_3 d hd
  unfold bt4
  simp only [bt_or]
  rw [a1, a2, a3, a4, b1, b2, b3, b4, c1, c2, c3, c4, d1, d2, d3, d4]
  simp only [Int32.or_zero, Int32.zero_or]
theorem ch_byte {i j : Nat} (hi : i < 21) : ∃ n, n < 128 ∧ chI i j = nI n := by
  unfold chI
  split
  · exact ⟨32, by decide, rfl⟩
  · rename_i g
    have hl : j < (sB i).length := by rw [← sN_len i hi]; omega
    have key := sAsc0
    rw [List.all_eq_true] at key
    have hm : sB i ∈ pSByt := by
      unfold sB
      have h21 : i < pSByt.length := by
        have : pSByt.length = 21 := by decide
        omega
      rw [List.getD_eq_getElem?_getD, List.getElem?_eq_getElem h21]
      exact List.getElem_mem h21
    have k2 := key _ hm
    rw [List.all_eq_true] at k2
    have hm2 : (sB i).getD j 0 ∈ sB i := by
      rw [List.getD_eq_getElem?_getD, List.getElem?_eq_getElem hl]
      exact List.getElem_mem hl
    have k3 := k2 _ hm2
    rw [Bool.and_eq_true, Bool.and_eq_true, decide_eq_true_eq, decide_eq_true_eq] at k3
    obtain ⟨j2, h1, h2⟩ := nI_of2 (M := 127) (n := 127) rfl (Int32.not_lt.mpr k3.1.1) k3.1.2
    exact ⟨j2, by omega, h2⟩
theorem bt4_fou {i j : Nat} (hi : i < 21) : bt4 (fouI i j) = [chI i j, chI i (j + 1), chI i (j + 2), chI i (j + 3)] := by
  obtain ⟨a, ha, ea⟩ := ch_byte (j := j) hi
  obtain ⟨b, hb, eb⟩ := ch_byte (j := j + 1) hi
  obtain ⟨c, hc, ec⟩ := ch_byte (j := j + 2) hi
  obtain ⟨d, hd, ed⟩ := ch_byte (j := j + 3) hi
  unfold fouI
  rw [ea, eb, ec, ed]
  exact bt4_four (by omega) (by omega) (by omega) (by omega)
/-- a pad at p, and the script -/
def lawJ (B : pM) (I : pIm) (p n : Nat) (sc : Nat → Int32) (s : wS) : Prop := (∃ td dr, padS B p td dr ∧ padD I p td dr s) ∧ (pK B pSCR = (5, n) ∧ n ≤ 260 ∧ ∀ j, I pSCR j = sc j) ∧ p + 1145 ≤ pN B ∧ pN B ≤ pBIG
theorem lawJ.scr {B : pM} {I : pIm} {p n : Nat} {sc : Nat → Int32} {s : wS} (h : lawJ B I p n sc s) : Scr (pset B I) n sc := h.2.1
theorem lawJ.kb {B : pM} {I : pIm} {p n : Nat} {sc : Nat → Int32} {s : wS} (h : lawJ B I p n sc s) : pK (pset B I) p = (1, 11) := by
  obtain ⟨⟨td, dr, h1, -⟩, -⟩ := h
  exact h1.1
theorem lawJ.keep {B C : pM} {I J : pIm} {p n : Nat} {sc : Nat → Int32} {s s' : wS} (h : lawJ B I p n sc s) (g : lawJ C J p n sc s') : keepM (pset B I) (pset C J) = pset C J := by
  obtain ⟨-, ⟨h1, -, h2⟩, -⟩ := h
  obtain ⟨-, ⟨g1, -, g2⟩, -⟩ := g
  rw [keep_pset (by rw [h1])]
  have e1 : kpB B C = C := by
    refine Prod.ext (funext (fun x => ?_)) rfl
    show (if x = pSCR then B.1 x else C.1 x) = C.1 x
    by_cases c : x = pSCR
    · rw [if_pos c, c]; exact h1.trans g1.symm
    · rw [if_neg c]
  have e2 : kpI I J = J := by
    funext x
    by_cases c : x = pSCR
    · rw [c, kpI_s]; funext j; rw [h2, g2]
    · exact kpI_o c
  rw [e1, e2]
theorem lawJ.go {d : Nat} {y : pMI} {rs : Nat × Nat} {as : List Value} {B : pM} {I : pIm} {p n : Nat} {sc : Nat → Int32} {s s' : wS} {w : pR} {Q : pR → pM → Prop} (h : lawJ B I p n sc s) (hb : pN B < pBIG) (hO : ∀ (td dr : Nat) (Q : pR → pM → Prop), padS B p td dr → padD I p td dr s → padO B I p (w, s') Q → CP d y rs as (pset B I) Q) (hK : ∀ (C : pM) (J : pIm) (B' : pM) (I' : pIm), keepM (pset B I) (pset C J) = pset B' I' → lawJ B' I' p n sc s' → pN B ≤ pN B' → pN B' ≤ pN B + 1 → Q w (pset C J)) : CP d y rs as (pset B I) Q := by
  obtain ⟨⟨td, dr, ps, pd⟩, hs, h1, h2⟩ := h
  refine hO td dr Q ps pd (fun C J td2 dr2 hx hn ps2 pd2 hf => ?_)
  have hC : pN C ≤ pBIG := by clear ps pd ps2 pd2; omega
  have hp : p + 1145 ≤ pSCR := by
    have e : pBIG + 1000 = pSCR := by decide
    clear ps pd ps2 pd2
    omega
  have hle := hx.1
  refine hK C J (kpB B C) (kpI I J) (keep_pset (by rw [hs.1])) ⟨⟨td2, dr2, ps2.ex (kpB_ex hC), pd2.f ps2.lay kpI_fr (Or.inr hp)⟩, ⟨by rw [kpB_s]; exact hs.1, hs.2.1, fun j => by rw [kpI_s]; exact hs.2.2 j⟩, ?_, hC⟩ hle hn
  show p + 1145 ≤ pN C
  clear ps pd ps2 pd2
  omega
theorem lawJ.i {d : Nat} {y : pMI} {rs : Nat × Nat} {as : List Value} {B : pM} {I : pIm} {p n : Nat} {sc : Nat → Int32} {s s' : wS} {v : Int32} {K : Int32 → pM → Prop} (h : lawJ B I p n sc s) (hb : pN B < pBIG) (hO : ∀ (td dr : Nat) (Q : pR → pM → Prop), padS B p td dr → padD I p td dr s → padO B I p (rI v, s') Q → CP d y rs as (pset B I) Q) (hK : ∀ (M1 B' : pM) (I' : pIm), keepM (pset B I) M1 = pset B' I' → lawJ B' I' p n sc s' → pN B ≤ pN B' → pN B' ≤ pN B + 1 → K v M1) : pCall_i d y rs as (pset B I) K := h.go hb hO (fun C J B' I' e k a b => ⟨v, rfl, hK _ B' I' e k a b⟩)
theorem cnt12 {s : wS} : countO s 12 = (rI (nI s.1.length), s) := by
  unfold countO figI
  rw [if_neg (by decide), if_pos (by decide), if_neg (by decide), if_neg (by decide), if_neg (by decide), if_neg (by decide), if_neg (by decide), if_neg (by decide), if_neg (by decide), if_neg (by decide), if_neg (by decide), if_neg (by decide), if_neg (by decide), if_neg (by decide)]
theorem feed_ok {s : wS} {a b c d e : Int32} (h : s.1.length ≤ 1980) : feedO s a b c d e = (rI (nI (s.1.length + 20)), (s.1 ++ bt4 a ++ bt4 b ++ bt4 c ++ bt4 d ++ bt4 e, s.2)) := if_pos h
theorem trim_ok {s : wS} {n : Nat} (h : n ≤ s.1.length) (h2 : s.1.length ≤ 2000) : trimO s (nI n) = (rI (nI n), (s.1.take n, s.2)) := by
  unfold trimO
  rw [if_neg (nI_pos (by omega)), if_pos (nI_le h (by omega)), nI_clamp (by omega)]
theorem J_count {d : Nat} (hd : 7 ≤ d) {B : pM} {I : pIm} {p n : Nat} {sc : Nat → Int32} {s : wS} {K : Int32 → pM → Prop} (h : lawJ B I p n sc s) (hb : pN B < pBIG) (hK : ∀ (M1 B' : pM) (I' : pIm), keepM (pset B I) M1 = pset B' I' → lawJ B' I' p n sc s → pN B ≤ pN B' → pN B' ≤ pN B + 1 → K (nI s.1.length) M1) : pCall_i d mX11_count (1, 6) [.ref p, .int 12] (pset B I) K :=
  h.i hb (fun _ _ _ ps pd ho => o_count hd ps pd hb (by rw [cnt12]; exact ho)) hK
theorem J_feed {d : Nat} (hd : 3 ≤ d) {B : pM} {I : pIm} {p n : Nat} {sc : Nat → Int32} {s : wS} {a b c e f : Int32} {K : Int32 → pM → Prop} (h : lawJ B I p n sc s) (hb : pN B < pBIG) (hl : s.1.length ≤ 1980) (hK : ∀ (M1 B' : pM) (I' : pIm), keepM (pset B I) M1 = pset B' I' → lawJ B' I' p n sc (s.1 ++ bt4 a ++ bt4 b ++ bt4 c ++ bt4 e ++ bt4 f, s.2) → pN B ≤ pN B' → pN B' ≤ pN B + 1 → K (nI (s.1.length + 20)) M1) : pCall_i d mX11_feed (1, 6) [.ref p, .int a, .int b, .int c, .int e, .int f] (pset B I) K :=
  h.i hb (fun _ _ _ ps pd ho => o_feed hd ps pd hb (by rw [feed_ok hl]; exact ho)) hK
theorem J_trim {d : Nat} (hd : 2 ≤ d) {B : pM} {I : pIm} {p n k : Nat} {sc : Nat → Int32} {s : wS} {K : Int32 → pM → Prop} (h : lawJ B I p n sc s) (hb : pN B < pBIG) (hk : k ≤ s.1.length) (hK : ∀ (M1 B' : pM) (I' : pIm), keepM (pset B I) M1 = pset B' I' → lawJ B' I' p n sc (s.1.take k, s.2) → pN B ≤ pN B' → pN B' ≤ pN B + 1 → K (nI k) M1) : pCall_i d mX11_trim (1, 6) [.ref p, .int (nI k)] (pset B I) K := by
  have h2 : s.1.length ≤ 2000 := by
    obtain ⟨⟨td, dr, -, pd⟩, -⟩ := h
    exact pd.2.1
  exact h.i hb (fun _ _ _ ps pd ho => o_trim hd ps pd hb (by rw [trim_ok hk h2]; exact ho)) hK
theorem cl_put {d : Nat} (hd : 8 ≤ d) {B : pM} {I : pIm} {p n b : Nat} {sc : Nat → Int32} {s : wS} {K : pM → Prop} (h : lawJ B I p n sc s) (hN : pN B + 3 ≤ pBIG) (hl : s.1.length ≤ 1900) (hb : b < 256) (hK : ∀ (B' : pM) (I' : pIm), lawJ B' I' p n sc (s.1 ++ [nI b], s.2) → pN B' ≤ pN B + 3 → K (pset B' I')) : pCall_v d mL_put (3, 18) [.ref p, .int (nI b)] (pset B I) K := by
  refine CP_go (by omega) okL_put (Nat.le_of_ble_eq_true rfl) (bL_put_0 ⟨h.kb, (1, 6), by decide, by decide, ?_⟩)
  refine J_count (by omega) h (by omega) (fun M1 B1 I1 e1 j1 a1 b1 => ?_)
  rw [e1]
  refine ⟨j1.kb, (1, 6), by decide, by decide, ?_⟩
  refine J_feed (by omega) j1 (by omega) (by omega) (fun M2 B2 I2 e2 j2 a2 b2 => ?_)
  rw [e2]
  refine ⟨j2.kb, (1, 6), by decide, by decide, ?_⟩
  rw [nI_1]
  have hlen : (s.1 ++ bt4 (nI b <<< (24 &&& 31)) ++ bt4 0 ++ bt4 0 ++ bt4 0 ++ bt4 0).length = s.1.length + 20 := by
    simp only [List.length_append, bt4_len]
  refine J_trim (by omega) j2 (by omega) (k := s.1.length + 1) (by dsimp only; omega) (fun M3 B3 I3 e3 j3 a3 b3 => ?_)
  rw [e3]
  refine ⟨rfl, hK B3 I3 ?_ (by omega)⟩
  have e : (s.1 ++ bt4 (nI b <<< (24 &&& 31)) ++ bt4 0 ++ bt4 0 ++ bt4 0 ++ bt4 0).take (s.1.length + 1) = s.1 ++ [nI b] := by
    have eb : bt4 (nI b <<< (24 &&& 31)) = [nI b] ++ [bt (nI b <<< (24 &&& 31)) 16, bt (nI b <<< (24 &&& 31)) 8, bt (nI b <<< (24 &&& 31)) 0] := by
      show [bt (nI b <<< (24 &&& 31)) 24, bt (nI b <<< (24 &&& 31)) 16, bt (nI b <<< (24 &&& 31)) 8, bt (nI b <<< (24 &&& 31)) 0] = _
      rw [(bt_0 b hb).1]
      rfl
    rw [eb]
    simp only [List.append_assoc]
    rw [← List.append_assoc s.1 [nI b]]
    exact List.take_left' (by simp)
  dsimp only at j3
  rw [e] at j3
  exact j3
theorem ch_take {i j : Nat} (hi : i < 21) (h : sN i ≤ j) : ((List.range j).map (chI i)).take (sN i) = sB i := by
  refine List.ext_getElem? (fun k => ?_)
  rw [List.getElem?_take]
  by_cases hk : k < sN i
  · rw [if_pos hk, List.getElem?_map, List.getElem?_range (by omega)]
    have hl : k < (sB i).length := by rw [← sN_len i hi]; exact hk
    show some (chI i k) = _
    unfold chI
    rw [if_neg (by omega), List.getD_eq_getElem?_getD, List.getElem?_eq_getElem hl]
    rfl
  · rw [if_neg hk, List.getElem?_eq_none (by rw [← sN_len i hi]; omega)]
theorem ch_20 {i j : Nat} : (List.range (j + 20)).map (chI i) = (List.range j).map (chI i) ++ [chI i j, chI i (j + 1), chI i (j + 2), chI i (j + 3)] ++ [chI i (j + 4), chI i (j + 5), chI i (j + 6), chI i (j + 7)] ++ [chI i (j + 8), chI i (j + 9), chI i (j + 10), chI i (j + 11)] ++ [chI i (j + 12), chI i (j + 13), chI i (j + 14), chI i (j + 15)] ++ [chI i (j + 16), chI i (j + 17), chI i (j + 18), chI i (j + 19)] := by
  rw [List.range_add, List.map_append]
  simp only [List.append_assoc]
  rfl
theorem cl_say {d : Nat} (hd : 8 ≤ d) {B : pM} {I : pIm} {p n i : Nat} {sc : Nat → Int32} {s : wS} {K : pM → Prop} (h : lawJ B I p n sc s) (hN : pN B + 8 ≤ pBIG) (hl : s.1.length ≤ 1800) (hi : i < 21) (hK : ∀ (B' : pM) (I' : pIm), lawJ B' I' p n sc (s.1 ++ sB i, s.2) → pN B' ≤ pN B + 8 → K (pset B' I')) : pCall_v d mL_say (8, 48) [.ref p, .ref (pBIG + i)] (pset B I) K := by
  refine CP_go (by omega) okL_say (Nat.le_of_ble_eq_true rfl) (bL_say_0 ⟨h.kb, (1, 6), by decide, by decide, ?_⟩)
  refine J_count (by omega) h (by omega) (fun M1 B1 I1 e1 j1 a1 b1 => ?_)
  rw [e1]
  have h100 := sN_lt i hi
  have key : ∀ (m k : Nat) (C : pM) (J : pIm) (c r : Nat), k + m = 5 → lawJ C J p n sc (s.1 ++ (List.range (20 * k)).map (chI i), s.2) → pN C ≤ pN B + 1 + k → m + 2 ≤ c → 6 * (m + 2) ≤ r → Go (d - 1) mL_say (fun r M => r = .inl none ∧ K M) 9 ([some (.ref p), some (.ref (pBIG + i)), some (.int (nI s.1.length)), some (.int (nI (20 * k)))], [], c, r) (pset C J) := by
    intro m
    induction m with
    | zero =>
      intro k C J c r hk hj hn hc hr
      have hk5 : k = 5 := by omega
      subst hk5
      refine bL_say_9 ⟨i, rfl, hi, c_slength (by omega) hi ⟨fun g => ?_, fun g => absurd (nI_le (by omega) (by omega)) g⟩⟩
      rw [keep_self]
      refine bL_say_64 ⟨i, rfl, hi, c_slength (by omega) hi ?_⟩
      rw [keep_self, nI_add]
      refine ⟨hj.kb, (1, 6), by show 1 ≤ c; omega, by show 6 ≤ r; omega, ?_⟩
      refine J_trim (by omega) hj (by omega) (by simp; omega) (fun M3 B3 I3 e3 j3 a3 b3 => ?_)
      rw [e3]
      refine ⟨rfl, hK B3 I3 ?_ (by omega)⟩
      dsimp only at j3
      rw [List.take_length_add_append, ch_take hi (by omega)] at j3
      exact j3
    | succ m ih =>
      intro k C J c r hk hj hn hc hr
      have hlen : (s.1 ++ (List.range (20 * k)).map (chI i)).length = s.1.length + 20 * k := by simp
      refine bL_say_9 ⟨i, rfl, hi, c_slength (by omega) hi ⟨fun g => ?_, fun g => ?_⟩⟩
      · have g2 := (nI_leI (by omega) (by omega)).mp g
        rw [keep_self]
        refine bL_say_64 ⟨i, rfl, hi, c_slength (by omega) hi ?_⟩
        rw [keep_self, nI_add]
        refine ⟨hj.kb, (1, 6), by show 1 ≤ c; omega, by show 6 ≤ r; omega, ?_⟩
        refine J_trim (by omega) hj (by omega) (by dsimp only; omega) (fun M3 B3 I3 e3 j3 a3 b3 => ?_)
        rw [e3]
        refine ⟨rfl, hK B3 I3 ?_ (by omega)⟩
        dsimp only at j3
        rw [List.take_length_add_append, ch_take hi g2] at j3
        exact j3
      · have e4 : nI (20 * k) + 4 = nI (20 * k + 4) := nI_add _ 4
        have e8 : nI (20 * k) + 8 = nI (20 * k + 8) := nI_add _ 8
        have e12 : nI (20 * k) + 12 = nI (20 * k + 12) := nI_add _ 12
        have e16 : nI (20 * k) + 16 = nI (20 * k + 16) := nI_add _ 16
        have e20 : nI (20 * k) + 20 = nI (20 * (k + 1)) := (nI_add _ 20).trans (congrArg nI (by omega))
        rw [keep_self]
        refine cl_four (by omega) hi (by omega) ?_
        rw [keep_self, e4]
        refine cl_four (by omega) hi (by omega) ?_
        rw [keep_self, e8]
        refine cl_four (by omega) hi (by omega) ?_
        rw [keep_self, e12]
        refine cl_four (by omega) hi (by omega) ?_
        rw [keep_self, e16]
        refine cl_four (by omega) hi (by omega) ?_
        rw [keep_self]
        refine ⟨hj.kb, (1, 6), by show 1 ≤ c; omega, by show 6 ≤ r; omega, ?_⟩
        refine J_feed (by omega) hj (by omega) (by dsimp only; omega) (fun M7 B7 I7 e7 j7 a7 b7 => ?_)
        rw [e7, e20]
        refine ih (k + 1) B7 I7 (c - 1) (r - 6) (by omega) ?_ (by omega) (by omega) (by omega)
        dsimp only at j7
        rw [bt4_fou hi, bt4_fou hi, bt4_fou hi, bt4_fou hi, bt4_fou hi] at j7
        have e9 : 20 * (k + 1) = 20 * k + 20 := by omega
        rw [e9, ch_20]
        simp only [List.append_assoc] at j7 ⊢
        exact j7
  exact key 5 0 B1 I1 7 42 rfl (by simpa using j1) (by omega) (by decide) (by decide)
