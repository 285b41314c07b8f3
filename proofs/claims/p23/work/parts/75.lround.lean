/-! A ROUND -/
theorem lw_words {d : Nat} (hd : 7 ≤ d) {Q : pR → pM → Prop} {p : Nat} {tp : List Int32} {er : Int32} {sc : Nat → Int32} {n : Nat} {wt ty : List Int32} {tk la : Int32} {l : Nat} {l2 : Int32} {l4 : Int64} {f pl : Nat → Nat} {O : List Nat} (hf : fgA sc n wt ty tk la l f pl O) {m : Nat} (hw : wOK m wt) (hm : m ≤ 18) (hty : ty.length ≤ 20) (hl : l ≤ 9) : ∀ (m2 k : Nat) (B : pM) (I : pIm) (c t : Nat), k + m2 = 6 → lawJ B I p n sc (lwS tp er sc n wt ty tk la l) → pN B + 20 * m2 + 40 ≤ pBIG → 20 * m2 + 40 ≤ c → 120 * m2 + 240 ≤ t → Nx B p n sc (lwS tp er sc n wt ty tk la l) c t (20 * m2 + 1) (fun c' t' M => Go d mL_law Q 438 ([some (.ref pSCR), some (.ref p), some (.int l2), none, some (.long l4), none, some (.int (nI (cntN (fun k => decide (f k ≤ l)) 6))), some (.int (nI (cntN (fun k => decide (f k = 0)) 6))), none, none, none], [], c', t') M) → Go d mL_law Q 164 ([some (.ref pSCR), some (.ref p), some (.int l2), none, some (.long l4), none, some (.int (nI (cntN (fun k => decide (f k ≤ l)) k))), some (.int (nI (cntN (fun k => decide (f k = 0)) k))), some (.int (nI k)), none, none], [], c, t) (pset B I) := by
  intro m2
  induction m2 with
  | zero =>
    intro k B I c t hk hj hN hc ht h
    have e : k = 6 := by omega
    subst e
    refine bL_law_164 ⟨hj.kb, (1, 6), by show 1 ≤ c; omega, by show 6 ≤ t; omega, J_cnt hd hj (by omega) lc_0 (fun M1 B1 I1 e1 j1 a1 b1 => ?_)⟩
    rw [e1]
    exact ⟨fun _ => h B1 I1 (c - 1) (t - 6) j1 a1 (by omega) (by omega) (by omega), fun g => absurd (Int32.le_refl (nI 6)) g⟩
  | succ m2 ih =>
    intro k B I c t hk hj hN hc ht h
    refine lw_word hd hj (by omega) (by omega) (by omega) (by omega) hf hw hm hty hl (fun B1 I1 c1 t1 j1 a1 b1 x1 y1 => ?_)
    refine ih (k + 1) B1 I1 c1 t1 (by omega) j1 (by omega) (by omega) (by omega) (fun B2 I2 c2 t2 j2 a2 b2 x2 y2 => ?_)
    exact h B2 I2 c2 t2 j2 (by omega) (by omega) (by omega) (by omega)
theorem lg_self {x : Int64} : lg_cmp x x = 0 := by
  unfold lg_cmp
  rw [if_neg (fun z => absurd z (Int64.lt_irrefl)), if_pos rfl]
theorem lw_end {d : Nat} (hd : 7 ≤ d) {Q : pR → pM → Prop} {B : pM} {I : pIm} {p c t : Nat} {tp : List Int32} {er : Int32} {sc : Nat → Int32} {n : Nat} {wt ty : List Int32} {tk la : Int32} {l : Nat} {l2 : Int32} (hj : lawJ B I p n sc (lwS tp er sc n wt ty tk la l)) (hN : pN B + 8 ≤ pBIG) (hc : 8 ≤ c) (ht : 48 ≤ t) {f pl : Nat → Nat} {O : List Nat} (hf : fgA sc n wt ty tk la l f pl O) (hty : ty.length ≤ 20) (h : Nx B p n sc (lwS tp er sc n wt ty tk la l) c t 4 (fun c' t' M => Go d mL_law Q 481 ([some (.ref pSCR), some (.ref p), some (.int l2), none, none, none, none, none, none, none, none], [], c', t') M)) : Go d mL_law Q 438 ([some (.ref pSCR), some (.ref p), some (.int l2), none, some (.long (digI (lwS tp er sc n wt ty tk la l))), none, some (.int (nI (cntN (fun k => decide (f k ≤ l)) 6))), some (.int (nI (cntN (fun k => decide (f k = 0)) 6))), none, none, none], [], c, t) (pset B I) := by
  obtain ⟨hO1, hO2⟩ := hf.2.2.2.2.1
  refine bL_law_438 ⟨hj.kb, (1, 6), by show 1 ≤ c; omega, by show 6 ≤ t; omega, J_cnt hd hj (by omega) lc_8 (fun M1 B1 I1 e1 j1 a1 b1 => ?_)⟩
  rw [e1, hO1, hO2]
  refine ⟨fun _ => bL_law_449 ⟨j1.kb, (1, 6), by show 1 ≤ c - 1; omega, by show 6 ≤ t - 6; omega, J_cnt hd j1 (by omega) lc_9 (fun M2 B2 I2 e2 j2 a2 b2 => ?_)⟩, fun z => absurd rfl z⟩
  rw [e2, beg_cnt (f := f) (fun k hk => (hf.1 k hk).2.2)]
  refine ⟨fun _ => bL_law_460 ⟨j2.kb, J_best hd j2 (by omega) (fun M3 B3 I3 e3 j3 a3 b3 => ?_)⟩, fun z => absurd rfl z⟩
  rw [e3]
  refine ⟨fun g => absurd g best_le, fun _ => ⟨j3.kb, J_digest hd j3 (by omega) (fun M4 B4 I4 e4 j4 a4 b4 => ?_)⟩⟩
  rw [e4, lg_self]
  exact ⟨fun _ => h B4 I4 (c - 1 - 1) (t - 6 - 6) j4 (by omega) (by omega) (by omega) (by omega), fun z => absurd rfl z⟩
theorem lw_offers {d : Nat} (hd : 7 ≤ d) {Q : pR → pM → Prop} {p : Nat} {tp : List Int32} {er : Int32} {sc : Nat → Int32} {n : Nat} {wt ty : List Int32} {tk la : Int32} {l : Nat} {l2 : Int32} {f pl : Nat → Nat} {O : List Nat} (hf : fgA sc n wt ty tk la l f pl O) : ∀ (m2 q : Nat) (B : pM) (I : pIm) (c t : Nat), q + m2 = 5 → 1 ≤ q → lawJ B I p n sc (lwS tp er sc n wt ty tk la l) → pN B + 8 * m2 + 10 ≤ pBIG → 8 * m2 + 10 ≤ c → 48 * m2 + 60 ≤ t → Nx B p n sc (lwS tp er sc n wt ty tk la l) c t (8 * m2) (fun c' t' M => Go d mL_law Q 545 ([some (.ref pSCR), some (.ref p), some (.int l2), none, none, none, none, none, none, none, none], [], c', t') M) → Go d mL_law Q 484 ([some (.ref pSCR), some (.ref p), some (.int l2), none, none, none, none, none, some (.int (nI q)), none, none], [], c, t) (pset B I) := by
  intro m2
  induction m2 with
  | zero =>
    intro q B I c t hq hq1 hj hN hc ht h
    have e : q = 5 := by omega
    subst e
    exact bL_law_484 ⟨fun _ => h B I c t hj (by omega) (by omega) (by omega) (by omega), fun g => absurd (by decide : (5 : Int32) ≤ nI 5) g⟩
  | succ m2 ih =>
    intro q B I c t hq hq1 hj hN hc ht h
    have next : ∀ (B1 : pM) (I1 : pIm) (c1 t1 : Nat), lawJ B1 I1 p n sc (lwS tp er sc n wt ty tk la l) → pN B ≤ pN B1 → pN B1 ≤ pN B + 8 → c ≤ c1 + 8 → t ≤ t1 + 48 → Go d mL_law Q 539 ([some (.ref pSCR), some (.ref p), some (.int l2), none, none, none, none, none, some (.int (nI q)), none, none], [], c1, t1) (pset B1 I1) := by
      intro B1 I1 c1 t1 j1 a1 b1 x1 y1
      refine bL_law_539 ?_
      rw [nI_1]
      refine ih (q + 1) B1 I1 c1 t1 (by omega) (by omega) j1 (by omega) (by omega) (by omega) (fun B2 I2 c2 t2 j2 a2 b2 x2 y2 => ?_)
      exact h B2 I2 c2 t2 j2 (by omega) (by omega) (by omega) (by omega)
    have hoq := hf.2.2.2.1 q (by omega)
    have hor := hf.2.2.2.1 (q - 1) (by omega)
    have e3 : nI q - 1 = nI (q - 1) := by
      have e4 : q = (q - 1) + 1 := by omega
      rw [e4, nI_pred]
      rfl
    refine bL_law_484 ⟨fun g => ?_, fun _ => ⟨hj.kb, (1, 6), by show 1 ≤ c; omega, by show 6 ≤ t; omega, J_offer hd hj (by omega) (wo_ok (by omega)) (fun M1 B1 I1 e1 j1 a1 b1 => ?_)⟩⟩
    · have := (nI_leI (a := 5) (by omega) (by omega)).mp g
      omega
    rw [e1]
    cases hO : O[q]? with
    | none =>
      rw [hO] at hoq
      rw [hoq]
      exact ⟨fun _ => next B1 I1 (c - 1) (t - 6) j1 a1 (by omega) (by omega) (by omega), fun g => absurd (by decide : (-1 : Int32) < 0) g⟩
    | some y =>
      rw [hO] at hoq
      have hy6 := hf.2.2.2.2.2.1 y (List.mem_of_getElem? hO)
      have hql := (List.getElem?_eq_some_iff.mp hO).1
      obtain ⟨x, hx⟩ : ∃ x, O[q - 1]? = some x := ⟨_, List.getElem?_eq_getElem (show q - 1 < O.length by omega)⟩
      rw [hx] at hor
      have hx6 := hf.2.2.2.2.2.1 x (List.mem_of_getElem? hx)
      have hs := hf.2.2.2.2.2.2 (q - 1) x y hx (by rw [show q - 1 + 1 = q by omega]; exact hO)
      rw [hoq]
      refine ⟨fun g => absurd g (nI_pos (by omega)), fun _ => bL_law_499 ?_⟩
      rw [e3]
      refine ⟨j1.kb, (1, 6), by show 1 ≤ c - 1; omega, by show 6 ≤ t - 6; omega, J_offer hd j1 (by omega) (wo_ok (by omega)) (fun M2 B2 I2 e2 j2 a2 b2 => ?_)⟩
      rw [e2, hor]
      refine ⟨fun g => absurd g (nI_pos (by omega)), fun _ => bL_law_510 ?_⟩
      rw [e3]
      refine ⟨j2.kb, (1, 6), by show 1 ≤ c - 1 - 1; omega, by show 6 ≤ t - 6 - 6; omega, J_offer hd j2 (by omega) (wo_ok (by omega)) (fun M3 B3 I3 e5 j3 a3 b3 => ?_)⟩
      rw [e5, hor]
      refine ⟨j3.kb, (1, 6), by show 1 ≤ c - 1 - 1 - 1; omega, by show 6 ≤ t - 6 - 6 - 6; omega, J_word hd j3 (by omega) (ww_4 hx6) (fun M4 B4 I4 e6 j4 a4 b4 => ?_)⟩
      rw [e6]
      refine ⟨j4.kb, (1, 6), by show 1 ≤ c - 1 - 1 - 1 - 1; omega, by show 6 ≤ t - 6 - 6 - 6 - 6; omega, J_offer hd j4 (by omega) (wo_ok (by omega)) (fun M5 B5 I5 e7 j5 a5 b5 => ?_)⟩
      rw [e7, hoq]
      refine ⟨j5.kb, (1, 6), by show 1 ≤ c - 1 - 1 - 1 - 1 - 1; omega, by show 6 ≤ t - 6 - 6 - 6 - 6 - 6; omega, J_word hd j5 (by omega) (ww_4 hy6) (fun M6 B6 I6 e8 j6 a6 b6 => ?_)⟩
      rw [e8]
      exact ⟨fun _ => next B6 I6 (c - 1 - 1 - 1 - 1 - 1 - 1) (t - 6 - 6 - 6 - 6 - 6 - 6) j6 (by omega) (by omega) (by omega) (by omega), fun g => absurd hs g⟩
/-- the asking part of a round -/
theorem lw_asks {d : Nat} (hd : 7 ≤ d) {Q : pR → pM → Prop} {B : pM} {I : pIm} {p c t : Nat} {tp : List Int32} {er : Int32} {sc : Nat → Int32} {n : Nat} {wt ty : List Int32} {tk la : Int32} {l : Nat} {l2 : Int32} (hj : lawJ B I p n sc (lwS tp er sc n wt ty tk la l)) (hN : pN B + 200 ≤ pBIG) (hc : 200 ≤ c) (ht : 1200 ≤ t) {m : Nat} (hw : wOK m wt) (hm : m ≤ 18) (hty : ty.length ≤ 20) (hl : l ≤ 9) (h : Nx B p n sc (lwS tp er sc n wt ty tk la l) c t 180 (fun c' t' M => Go d mL_law Q 545 ([some (.ref pSCR), some (.ref p), some (.int l2), none, none, none, none, none, none, none, none], [], c', t') M)) : Go d mL_law Q 149 ([some (.ref pSCR), some (.ref p), some (.int l2), none, none, none, none, none, none, none, none], [], c, t) (pset B I) := by
  obtain ⟨f, pl, O, hf⟩ := fg_all (sc := sc) (n := n) (wt := wt) (tk := tk) (la := la) hty hl
  refine bL_law_149 ⟨hj.kb, J_digest hd hj (by omega) (fun M1 B1 I1 e1 j1 a1 b1 => ?_)⟩
  rw [e1]
  refine bL_law_155 ?_
  refine lw_words hd hf hw hm hty hl 6 0 B1 I1 c t (by omega) j1 (by omega) (by omega) (by omega) (fun B2 I2 c2 t2 j2 a2 b2 x2 y2 => ?_)
  refine lw_end hd j2 (by omega) (by omega) (by omega) hf hty (fun B3 I3 c3 t3 j3 a3 b3 x3 y3 => ?_)
  refine bL_law_481 ?_
  refine lw_offers hd hf 4 1 B3 I3 c3 t3 (by omega) (by omega) j3 (by omega) (by omega) (by omega) (fun B4 I4 c4 t4 j4 a4 b4 x4 y4 => ?_)
  exact h B4 I4 c4 t4 j4 (by omega) (by omega) (by omega) (by omega)
