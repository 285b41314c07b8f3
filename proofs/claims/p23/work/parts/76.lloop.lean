/-! WHAT THE LAW DOES IN A ROUND, AND ALL ROUNDS -/
def rdyS (sc : Nat → Int32) (n m : Nat) (s : wS) : Prop := ∃ (tp : List Int32) (er : Int32) (wt ty : List Int32) (tk la : Int32) (l : Nat), s = lwS tp er sc n wt ty tk la l ∧ wOK m wt ∧ ty.length ≤ 20 ∧ l ≤ 9
theorem wOK.up {m : Nat} {wt : List Int32} (h : wOK m wt) : wOK (m + 1) wt := ⟨h.1, fun k hk => by
  obtain ⟨u, u1, u2⟩ := h.2 k hk
  exact ⟨u, by omega, u2⟩⟩
theorem rdyS.up {sc : Nat → Int32} {n m : Nat} {s : wS} (h : rdyS sc n m s) : rdyS sc n (m + 1) s := by
  obtain ⟨tp, er, wt, ty, tk, la, l, h1, h2, h3, h4⟩ := h
  exact ⟨tp, er, wt, ty, tk, la, l, h1, h2.up, h3, h4⟩
/-- what comes behind an act -/
def Ax (B : pM) (p n : Nat) (sc : Nat → Int32) (m c t k : Nat) (G : Nat → Nat → pM → Prop) : Prop := ∀ (B' : pM) (I' : pIm) (c' t' : Nat) (s' : wS), rdyS sc n m s' → lawJ B' I' p n sc s' → pN B ≤ pN B' → pN B' ≤ pN B + k → c ≤ c' + k → t ≤ t' + 6 * k → G c' t' (pset B' I')
theorem lim_ok {tp : List Int32} {er : Int32} {sc : Nat → Int32} {n : Nat} {wt ty : List Int32} {tk la : Int32} {l j : Nat} (hj : j ≤ 9) : limO (lwS tp er sc n wt ty tk la l) (nI j) = (rI (nI l), lwS tp er sc n wt ty tk la j) := by
  unfold limO
  rw [if_neg (nI_pos (by omega)), if_pos (show nI j ≤ 9 from nI_le (b := 9) hj (by decide))]
  rfl
theorem lw_125 {d : Nat} (hd : 7 ≤ d) {Q : pR → pM → Prop} {B : pM} {I : pIm} {p c t n m : Nat} {sc : Nat → Int32} {s : wS} {l2 l3 : Int32} (hj : lawJ B I p n sc s) (hr : rdyS sc n m s) (hN : pN B + 2 ≤ pBIG) (hc : 2 ≤ c) (ht : 12 ≤ t) (h : Ax B p n sc m c t 1 (fun c' t' M => Go d mL_law Q 149 ([some (.ref pSCR), some (.ref p), some (.int l2), none, none, none, none, none, none, none, none], [], c', t') M)) : Go d mL_law Q 125 ([some (.ref pSCR), some (.ref p), some (.int l2), some (.int l3), none, none, none, none, none, none, none], [], c, t) (pset B I) := by
  refine bL_law_125 (cl_below (by omega) (by decide) ?_)
  rw [keep_self]
  refine ⟨fun _ => cl_below (by omega) (by decide) ?_, fun _ => h B I c t s hr hj (by omega) (by omega) (by omega) (by omega)⟩
  rw [keep_self]
  obtain ⟨j, j1, j2⟩ := bel_in (l3 >>> ((5 : Int32) &&& 31)) (m := 10) (by decide) (by decide)
  have j3 : belI (l3 >>> ((5 : Int32) &&& 31)) 10 = nI j := j2
  obtain ⟨tp, er, wt, ty, tk, la, l, rfl, r2, r3, r4⟩ := hr
  rw [j3]
  refine ⟨hj.kb, (1, 6), by show 1 ≤ c; omega, by show 6 ≤ t; omega, J_limit (by omega) hj (by omega) (lim_ok (by omega)) (fun M1 B1 I1 e1 k1 a1 b1 => ?_)⟩
  rw [e1]
  exact h B1 I1 (c - 1) (t - 6) _ ⟨tp, er, wt, ty, tk, la, j, rfl, r2, r3, by omega⟩ k1 a1 (by omega) (by omega) (by omega)
theorem take_ok {tp : List Int32} {er : Int32} {sc : Nat → Int32} {n : Nat} {wt ty : List Int32} {tk la : Int32} {l j x : Nat} (hj : j < 5) (hx : x < 6) (ho : rat (rkB sc n wt ty tk la l).2.2.2.1 (nI j) = nI x) : takeO (lwS tp er sc n wt ty tk la l) (nI j) = (rI (nI x), lwS tp er sc n (if (tk + 1) - (tk + 1) / 8 * 8 = 0 then fadeL (rput wt (nI x) (if rat wt (nI x) + 5 < 9999 then rat wt (nI x) + 5 else 9999)) else rput wt (nI x) (if rat wt (nI x) + 5 < 9999 then rat wt (nI x) + 5 else 9999)) [] (tk + 1) (nI x) l) := by
  have e : rat (rkO (lwS tp er sc n wt ty tk la l).2.2.1 (lwS tp er sc n wt ty tk la l).2.2.2.1 (lwS tp er sc n wt ty tk la l).2.2.2.2.1 (lwS tp er sc n wt ty tk la l).2.2.2.2.2.1 (lwS tp er sc n wt ty tk la l).2.2.2.2.2.2).2.2.2.1 (nI j) = nI x := ho
  unfold takeO
  rw [if_neg (nI_pos (by omega)), if_pos (show nI j < 5 from nI_lt (b := 5) hj (by decide)), e, if_pos (nI_pos' (by omega))]
  rfl
theorem lw_95 {d : Nat} (hd : 7 ≤ d) {Q : pR → pM → Prop} {B : pM} {I : pIm} {p c t n m : Nat} {sc : Nat → Int32} {s : wS} {l2 l3 : Int32} (hj : lawJ B I p n sc s) (hr : rdyS sc n m s) (hm : m ≤ 18) (hN : pN B + 6 ≤ pBIG) (hc : 6 ≤ c) (ht : 36 ≤ t) (h : Ax B p n sc (m + 1) c t 4 (fun c' t' M => Go d mL_law Q 149 ([some (.ref pSCR), some (.ref p), some (.int l2), none, none, none, none, none, none, none, none], [], c', t') M)) : Go d mL_law Q 95 ([some (.ref pSCR), some (.ref p), some (.int l2), some (.int l3), none, none, none, none, none, none, none], [], c, t) (pset B I) := by
  obtain ⟨tp, er, wt, ty, tk, la, l, rfl, r2, r3, r4⟩ := hr
  obtain ⟨f, pl, O, hf⟩ := fg_all (sc := sc) (n := n) (wt := wt) (tk := tk) (la := la) r3 r4
  have hO1 := hf.2.2.2.2.1.1
  have hO6 := fg_len hf
  refine bL_law_95 ⟨hj.kb, (1, 6), by show 1 ≤ c; omega, by show 6 ≤ t; omega, J_cnt (by omega) hj (by omega) lc_8 (fun M1 B1 I1 e1 k1 a1 b1 => ?_)⟩
  rw [e1, hO1]
  refine ⟨fun _ => lw_125 hd k1 (m := m + 1) ⟨tp, er, wt, ty, tk, la, l, rfl, r2.up, r3, r4⟩ (by omega) (by omega) (by show 12 ≤ t - 6; omega) (fun B2 I2 c2 t2 s2 q1 q2 q3 q4 q5 q6 => ?_), fun g => ⟨k1.kb, (1, 6), by show 1 ≤ c - 1; omega, by show 6 ≤ t - 6; omega, J_cnt (by omega) k1 (by omega) lc_8 (fun M2 B2 I2 e2 k2 a2 b2 => ?_)⟩⟩
  · have q5' : c - 1 ≤ c2 + 1 := q5
    have q6' : t - 6 ≤ t2 + 6 * 1 := q6
    exact h B2 I2 c2 t2 s2 q1 q2 (by omega) (by omega) (by omega) (by omega)
  have h0 : 0 < O.length := Nat.pos_of_ne_zero (fun z => g (by rw [z]; decide))
  have em : (if nI O.length < 5 then nI O.length else 5) = nI (min O.length 5) := min_nI (b := 5) (by omega) (by decide)
  rw [e2, hO1, em]
  obtain ⟨j, j1, j2⟩ := bel_in (l3 >>> ((3 : Int32) &&& 31)) (m := min O.length 5) (by omega) (by omega)
  refine cl_below (by omega) (nI_ne0 (by omega) (by omega)) ?_
  rw [keep_self, j2]
  obtain ⟨x, hx⟩ : ∃ x, O[j]? = some x := ⟨_, List.getElem?_eq_getElem (show j < O.length by omega)⟩
  have hx6 := hf.2.2.2.2.2.1 x (List.mem_of_getElem? hx)
  have ho := hf.2.2.2.1 j (by omega)
  rw [hx] at ho
  refine ⟨k2.kb, (1, 6), by show 1 ≤ c - 1 - 1; omega, by show 6 ≤ t - 6 - 6; omega, J_take (by omega) k2 (by omega) (take_ok (by omega) hx6 ho) (fun M3 B3 I3 e3 k3 a3 b3 => ?_)⟩
  rw [e3]
  refine lw_125 hd k3 (m := m + 1) ⟨tp, er, _, [], tk + 1, nI x, l, rfl, take_w r2 hm hx6, by decide, r4⟩ (by omega) (by show 2 ≤ c - 1 - 1 - 1; omega) (by show 12 ≤ t - 6 - 6 - 6; omega) (fun B4 I4 c4 t4 s4 q1 q2 q3 q4 q5 q6 => ?_)
  have q5' : c - 1 - 1 - 1 ≤ c4 + 1 := q5
  have q6' : t - 6 - 6 - 6 ≤ t4 + 6 * 1 := q6
  exact h B4 I4 c4 t4 s4 q1 q2 (by omega) (by omega) (by omega) (by omega)
theorem back_ok {tp : List Int32} {er : Int32} {sc : Nat → Int32} {n : Nat} {wt ty : List Int32} {tk la : Int32} {l : Nat} (h : ty.length ≠ 0) : backO (lwS tp er sc n wt ty tk la l) = (rI (ty.getLastD 0), lwS tp er sc n wt ty.dropLast tk la l) := if_neg h
theorem lw_70 {d : Nat} (hd : 7 ≤ d) {Q : pR → pM → Prop} {B : pM} {I : pIm} {p c t n m : Nat} {sc : Nat → Int32} {s : wS} {l2 l3 : Int32} (hj : lawJ B I p n sc s) (hr : rdyS sc n m s) (hm : m ≤ 18) (hN : pN B + 8 ≤ pBIG) (hc : 8 ≤ c) (ht : 48 ≤ t) (h : Ax B p n sc (m + 1) c t 5 (fun c' t' M => Go d mL_law Q 149 ([some (.ref pSCR), some (.ref p), some (.int l2), none, none, none, none, none, none, none, none], [], c', t') M)) : Go d mL_law Q 70 ([some (.ref pSCR), some (.ref p), some (.int l2), some (.int l3), none, none, none, none, none, none, none], [], c, t) (pset B I) := by
  refine bL_law_70 (cl_below (by omega) (by decide) ?_)
  rw [keep_self]
  refine ⟨fun _ => ?_, fun _ => lw_95 hd hj hr hm (by omega) (by omega) (by omega) (fun B2 I2 c2 t2 s2 q1 q2 q3 q4 q5 q6 => h B2 I2 c2 t2 s2 q1 q2 (by omega) (by omega) (by omega) (by omega))⟩
  obtain ⟨tp, er, wt, ty, tk, la, l, rfl, r2, r3, r4⟩ := hr
  refine ⟨hj.kb, (1, 6), by show 1 ≤ c; omega, by show 6 ≤ t; omega, J_cnt (by omega) hj (by omega) lc_4 (fun M1 B1 I1 e1 k1 a1 b1 => ?_)⟩
  rw [e1]
  refine ⟨fun _ => lw_95 hd k1 ⟨tp, er, wt, ty, tk, la, l, rfl, r2, r3, r4⟩ hm (by omega) (by show 6 ≤ c - 1; omega) (by show 36 ≤ t - 6; omega) (fun B2 I2 c2 t2 s2 q1 q2 q3 q4 q5 q6 => ?_), fun g => ?_⟩
  · have q5' : c - 1 ≤ c2 + 4 := q5
    have q6' : t - 6 ≤ t2 + 6 * 4 := q6
    exact h B2 I2 c2 t2 s2 q1 q2 (by omega) (by omega) (by omega) (by omega)
  have h0 : ty.length ≠ 0 := fun z => g (by rw [z]; decide)
  refine ⟨k1.kb, (1, 6), by show 1 ≤ c - 1; omega, by show 6 ≤ t - 6; omega, J_back (by omega) k1 (by omega) (back_ok h0) (fun M2 B2 I2 e2 k2 a2 b2 => ?_)⟩
  rw [e2]
  refine lw_125 hd k2 (m := m + 1) ⟨tp, er, wt, ty.dropLast, tk, la, l, rfl, r2.up, by rw [List.length_dropLast]; omega, r4⟩ (by omega) (by show 2 ≤ c - 1 - 1; omega) (by show 12 ≤ t - 6 - 6; omega) (fun B4 I4 c4 t4 s4 q1 q2 q3 q4 q5 q6 => ?_)
  have q5' : c - 1 - 1 ≤ c4 + 1 := q5
  have q6' : t - 6 - 6 ≤ t4 + 6 * 1 := q6
  exact h B4 I4 c4 t4 s4 q1 q2 (by omega) (by omega) (by omega) (by omega)
theorem isLt6 : ∀ j, j < 6 → isLt (97 + nI j) ≠ 0 := by decide +kernel
theorem type_ok {tp : List Int32} {er : Int32} {sc : Nat → Int32} {n : Nat} {wt ty : List Int32} {tk la : Int32} {l j : Nat} (hj : j < 6) (h : ty.length < 20) : typeO (lwS tp er sc n wt ty tk la l) (97 + nI j) = (rI (nI (ty.length + 1)), lwS tp er sc n wt (ty ++ [97 + nI j]) tk la l) := by
  unfold typeO
  rw [if_neg (isLt6 j hj)]
  exact if_pos h
theorem lw_32 {d : Nat} (hd : 7 ≤ d) {Q : pR → pM → Prop} {B : pM} {I : pIm} {p c t n m : Nat} {sc : Nat → Int32} {s : wS} {l2 l3 : Int32} (hj : lawJ B I p n sc s) (hr : rdyS sc n m s) (hm : m ≤ 18) (hN : pN B + 10 ≤ pBIG) (hc : 10 ≤ c) (ht : 60 ≤ t) (h : Ax B p n sc (m + 1) c t 6 (fun c' t' M => Go d mL_law Q 149 ([some (.ref pSCR), some (.ref p), some (.int l2), none, none, none, none, none, none, none, none], [], c', t') M)) : Go d mL_law Q 32 ([some (.ref pSCR), some (.ref p), some (.int l2), some (.int l3), none, none, none, none, none, none, none], [], c, t) (pset B I) := by
  refine bL_law_32 (cl_below (by omega) (by decide) ?_)
  rw [keep_self]
  refine ⟨fun _ => lw_70 hd hj hr hm (by omega) (by omega) (by omega) (fun B2 I2 c2 t2 s2 q1 q2 q3 q4 q5 q6 => h B2 I2 c2 t2 s2 q1 q2 (by omega) (by omega) (by omega) (by omega)), fun _ => ?_⟩
  obtain ⟨tp, er, wt, ty, tk, la, l, rfl, r2, r3, r4⟩ := hr
  refine ⟨hj.kb, (1, 6), by show 1 ≤ c; omega, by show 6 ≤ t; omega, J_cnt (by omega) hj (by omega) lc_4 (fun M1 B1 I1 e1 k1 a1 b1 => ?_)⟩
  rw [e1]
  refine ⟨fun _ => lw_70 hd k1 ⟨tp, er, wt, ty, tk, la, l, rfl, r2, r3, r4⟩ hm (by omega) (by show 8 ≤ c - 1; omega) (by show 48 ≤ t - 6; omega) (fun B2 I2 c2 t2 s2 q1 q2 q3 q4 q5 q6 => ?_), fun g => cl_below (by omega) (by decide) ?_⟩
  · have q5' : c - 1 ≤ c2 + 5 := q5
    have q6' : t - 6 ≤ t2 + 6 * 5 := q6
    exact h B2 I2 c2 t2 s2 q1 q2 (by omega) (by omega) (by omega) (by omega)
  rw [keep_self]
  have h20 : ty.length < 20 := Nat.not_le.mp (fun z => g (nI_le (a := 20) z (by omega)))
  obtain ⟨j, j1, j2⟩ := bel_in (l3 >>> ((2 : Int32) &&& 31)) (m := 6) (by decide) (by decide)
  have j3 : belI (l3 >>> ((2 : Int32) &&& 31)) 6 = nI j := j2
  rw [j3]
  refine ⟨k1.kb, (1, 6), by show 1 ≤ c - 1; omega, by show 6 ≤ t - 6; omega, J_type (by omega) k1 (by omega) (type_ok j1 h20) (fun M2 B2 I2 e2 k2 a2 b2 => ?_)⟩
  rw [e2]
  refine lw_125 hd k2 (m := m + 1) ⟨tp, er, wt, ty ++ [97 + nI j], tk, la, l, rfl, r2.up, by rw [List.length_append, List.length_singleton]; omega, r4⟩ (by omega) (by show 2 ≤ c - 1 - 1; omega) (by show 12 ≤ t - 6 - 6; omega) (fun B4 I4 c4 t4 s4 q1 q2 q3 q4 q5 q6 => ?_)
  have q5' : c - 1 - 1 ≤ c4 + 1 := q5
  have q6' : t - 6 - 6 ≤ t4 + 6 * 1 := q6
  exact h B4 I4 c4 t4 s4 q1 q2 (by omega) (by omega) (by omega) (by omega)
theorem mod5 : ∀ w, w < 18 → (7 : Int32) + (nI w - nI w / 5 * 5) = nI (7 + w % 5) := by decide +kernel
theorem lw_loop {d : Nat} (hd : 7 ≤ d) {Q : pR → pM → Prop} (hQ : ∀ M, Q (.inl (some (.int 1))) M) {p n : Nat} {sc : Nat → Int32} : ∀ (r T : Nat) (B : pM) (I : pIm) (c t : Nat) (s : wS), T + r = 18 → rdyS sc n T s → lawJ B I p n sc s → pN B + 220 * r + 10 ≤ pBIG → 220 * r + 10 ≤ c → 1320 * r + 60 ≤ t → Go d mL_law Q 13 ([some (.ref pSCR), some (.ref p), some (.int (nI T)), none, none, none, none, none, none, none, none], [], c, t) (pset B I) := by
  intro r
  induction r with
  | zero =>
    intro T B I c t s hT hr hj hN hc ht
    have e : T = 18 := by omega
    subst e
    exact bL_law_13 ⟨fun _ => hQ _, fun g => absurd (by decide : (18 : Int32) ≤ nI 18) g⟩
  | succ r ih =>
    intro T B I c t s hT hr hj hN hc ht
    refine bL_law_13 ⟨fun g => ?_, fun _ => ?_⟩
    · have := (nI_leI (a := 18) (by omega) (by omega)).mp g
      omega
    rw [mod5 T (by omega)]
    refine cl_cell (by omega) hj.scr (by omega) ?_
    rw [keep_self]
    refine lw_32 hd hj hr (by omega) (by omega) (by omega) (by omega) (fun B1 I1 c1 t1 s1 q1 q2 q3 q4 q5 q6 => ?_)
    obtain ⟨tp, er, wt, ty, tk, la, l, rfl, r2, r3, r4⟩ := q1
    refine lw_asks hd q2 (by omega) (by omega) (by omega) r2 (by omega) r3 r4 (fun B2 I2 c2 t2 j2 a2 b2 x2 y2 => ?_)
    refine bL_law_545 ?_
    rw [nI_1]
    exact ih (T + 1) B2 I2 c2 t2 _ (by omega) ⟨tp, er, wt, ty, tk, la, l, rfl, r2, r3, r4⟩ j2 (by omega) (by omega) (by omega)
/-! from the start -/
def lwB (n : Nat) : pM := (fun x => if x = pSCR then (5, n) else (0, 0), fun _ _ => 0, fun _ _ => 0, fun _ _ => 0, 0)
def lwJ (sc : Nat → Int32) : pIm := fun x y => if x = pSCR then sc y else 0
theorem cl_pad {d : Nat} (hd : 124 ≤ d) {n : Nat} {sc : Nat → Int32} {K : Nat → pM → Prop} (hn : n ≤ 260) (h : ∀ (B' : pM) (I' : pIm) (s : wS), rdyS sc n 0 s → lawJ B' I' 0 n sc s → pN B' ≤ 2000 → K 0 (keepM (pset (lwB n) (lwJ sc)) (pset B' I'))) : pCall_r d mL_pad (1600, 17000) [.ref pSCR] (pset (lwB n) (lwJ sc)) (fun v M => K v (keepM (pset (lwB n) (lwJ sc)) M)) := by
  have hBIG : pBIG = 1073741824 := rfl
  have hs : pSCR ≠ 0 := by decide
  refine CP_go (by omega) okL_pad (Nat.le_of_ble_eq_true rfl) (bL_pad_0 ⟨by decide, by decide, by show 0 < pBIG; decide, (1144, 13916), by decide, by decide, ?_⟩)
  rw [pnew_pset]
  have h5 : pK (pnew (lwB n) (1, 11)) pSCR = (5, n) := by
    show (if pSCR = 0 then ((1, 11) : Nat × Nat) else (if pSCR = pSCR then (5, n) else (0, 0))) = (5, n)
    rw [if_neg hs, if_pos rfl]
  have h0 : pK (pnew (lwB n) (1, 11)) 0 = (1, 11) := by
    show (if 0 = 0 then ((1, 11) : Nat × Nat) else (if 0 = pSCR then (5, n) else (0, 0))) = (1, 11)
    rw [if_pos rfl]
  refine c_padInit (q := 0) (by omega) h0 rfl (by omega) (fun C J a1 a2 a3 a4 a5 => ?_)
  rw [keep_pset (by rw [h5])]
  have hCB : pN C ≤ pBIG := by omega
  have nk : pN (kpB (pnew (lwB n) (1, 11)) C) = 1145 := a2
  have hjk : ∀ j, kpI (fun x y => if x = pN (lwB n) then 0 else lwJ sc x y : pIm) J pSCR j = sc j := by
    intro j
    rw [kpI_s]
    show (if pSCR = 0 then (0 : Int32) else (if pSCR = pSCR then sc j else 0)) = sc j
    rw [if_neg hs, if_pos rfl]
  have j0 : lawJ (kpB (pnew (lwB n) (1, 11)) C) (kpI (fun x y => if x = pN (lwB n) then 0 else lwJ sc x y : pIm) J) 0 n sc (s0W []) := ⟨⟨57, 584, a3.ex (kpB_ex hCB), a4.f a3.lay (lo := pSCR) (hi := pSCR + 1) kpI_fr (Or.inr (by decide))⟩, ⟨by rw [kpB_s]; exact h5, hn, hjk⟩, by rw [nk]; omega, by rw [nk]; decide⟩
  refine ⟨(8, 48), by decide, by decide, ?_⟩
  show pCall_v (d - 1) mL_say (8, 48) [.ref 0, .ref (pBIG + 14)] _ _
  refine cl_say (by omega) j0 (by rw [nk]; omega) (by decide) (by decide) (fun B1 I1 j1 n1 => ?_)
  rw [j0.keep j1]
  have e : (rdOut (taped sc n)).1 = 0 := by rw [rd_out]
  refine cl_ents (d := d - 1) (by omega) (Q := fun r M => ∃ v, r = .inl (some (.ref v)) ∧ K v (keepM (pset (lwB n) (lwJ sc)) M)) (p := 0) (sc := sc) e 6 0 B1 I1 447 3026 (by omega) j1 (by omega) (by omega) (by omega) (fun B2 I2 j2 n2 => ⟨0, rfl, ?_⟩)
  rw [rd_out] at j2
  refine h B2 I2 _ ⟨[], -1, [nI (weiN sc n 0), nI (weiN sc n 1), nI (weiN sc n 2), nI (weiN sc n 3), nI (weiN sc n 4), nI (weiN sc n 5)], [], 0, -1, 4, rfl, ⟨rfl, fun k hk => ?_⟩, by decide, by decide⟩ j2 (by omega)
  refine ⟨weiN sc n k, by have := (weiN_in (sc := sc) (n := n) (w := k)).1; omega, ?_⟩
  match k, hk with
  | 0, _ => rfl
  | 1, _ => rfl
  | 2, _ => rfl
  | 3, _ => rfl
  | 4, _ => rfl
  | 5, _ => rfl
theorem lawJ.keep0 {C : pM} {J : pIm} {n : Nat} {sc : Nat → Int32} {s : wS} (g : lawJ C J 0 n sc s) : keepM (pset (lwB n) (lwJ sc)) (pset C J) = pset C J := by
  obtain ⟨-, ⟨g1, -, g2⟩, -⟩ := g
  have b1 : pK (lwB n) pSCR = (5, n) := by
    show (if pSCR = pSCR then ((5, n) : Nat × Nat) else (0, 0)) = (5, n)
    exact if_pos rfl
  rw [keep_pset (by rw [b1])]
  have e1 : kpB (lwB n) C = C := by
    refine Prod.ext (funext (fun x => ?_)) rfl
    show (if x = pSCR then (lwB n).1 x else C.1 x) = C.1 x
    by_cases c : x = pSCR
    · rw [if_pos c, c]; exact b1.trans g1.symm
    · rw [if_neg c]
  have e2 : kpI (lwJ sc) J = J := by
    funext x
    by_cases c : x = pSCR
    · rw [c, kpI_s]
      funext j
      rw [g2]
      exact if_pos rfl
    · exact kpI_o c
  rw [e1, e2]
theorem law_run {d : Nat} (hd : 124 ≤ d) {Q : pR → pM → Prop} (hQ : ∀ M, Q (.inl (some (.int 1))) M) {n : Nat} {sc : Nat → Int32} (hn : n ≤ 260) {c t : Nat} (hc : 8000 ≤ c) (ht : 60000 ≤ t) : Go d mL_law Q 0 ([some (.ref pSCR), none, none, none, none, none, none, none, none, none, none], [], c, t) (pset (lwB n) (lwJ sc)) := by
  have hBIG : pBIG = 1073741824 := rfl
  refine bL_law_0 ⟨(1600, 17000), by show 1600 ≤ c; omega, by show 17000 ≤ t; omega, cl_pad hd hn (K := fun v M => Go d mL_law Q 11 ([some (.ref pSCR), some (.ref v), none, none, none, none, none, none, none, none, none], [], c - 1600, t - 17000) M) (fun B' I' s hr hj hp => ?_)⟩
  rw [hj.keep0]
  refine bL_law_11 ?_
  exact lw_loop (by omega) hQ 18 0 B' I' (c - 1600) (t - 17000) s rfl hr hj (by omega) (by omega) (by omega)
