/-! ONE WORD OF A ROUND -/
/-- what comes behind some calls that leave the pad as it is -/
def Nx (B : pM) (p n : Nat) (sc : Nat → Int32) (s : wS) (c t k : Nat) (G : Nat → Nat → pM → Prop) : Prop := ∀ (B' : pM) (I' : pIm) (c' t' : Nat), lawJ B' I' p n sc s → pN B ≤ pN B' → pN B' ≤ pN B + k → c ≤ c' + k → t ≤ t' + 6 * k → G c' t' (pset B' I')
theorem lw_164 {d : Nat} (hd : 7 ≤ d) {Q : pR → pM → Prop} {B : pM} {I : pIm} {p c t : Nat} {tp : List Int32} {er : Int32} {sc : Nat → Int32} {n : Nat} {wt ty : List Int32} {tk la : Int32} {l : Nat} {l2 : Int32} {l4 : Int64} {l6 l7 : Int32} {k : Nat} (hj : lawJ B I p n sc (lwS tp er sc n wt ty tk la l)) (hN : pN B + 8 ≤ pBIG) (hc : 8 ≤ c) (ht : 48 ≤ t) (hk : k < 6) (h : Nx B p n sc (lwS tp er sc n wt ty tk la l) c t 2 (fun c' t' M => Go d mL_law Q 183 ([some (.ref pSCR), some (.ref p), some (.int l2), none, some (.long l4), none, some (.int l6), some (.int l7), some (.int (nI k)), some (.int (rat (rkB sc n wt ty tk la l).2.2.1 (nI k))), none], [], c', t') M)) : Go d mL_law Q 164 ([some (.ref pSCR), some (.ref p), some (.int l2), none, some (.long l4), none, some (.int l6), some (.int l7), some (.int (nI k)), none, none], [], c, t) (pset B I) := by
  refine bL_law_164 ⟨hj.kb, (1, 6), by show 1 ≤ c; omega, by show 6 ≤ t; omega, J_cnt hd hj (by omega) lc_0 (fun M1 B1 I1 e1 j1 a1 b1 => ?_)⟩
  rw [e1]
  refine ⟨fun g => absurd g (nI_ge hk (by omega)), fun _ => ⟨j1.kb, (1, 6), by show 1 ≤ c - 1; omega, by show 6 ≤ t - 6; omega, J_word hd j1 (by omega) (ww_5 hk) (fun M2 B2 I2 e2 j2 a2 b2 => ?_)⟩⟩
  rw [e2]
  exact h B2 I2 (c - 1 - 1) (t - 6 - 6) j2 (by omega) (by omega) (by omega) (by omega)
theorem lw_183 {d : Nat} (hd : 7 ≤ d) {Q : pR → pM → Prop} {B : pM} {I : pIm} {p c t : Nat} {tp : List Int32} {er : Int32} {sc : Nat → Int32} {n : Nat} {wt ty : List Int32} {tk la : Int32} {l : Nat} {l2 : Int32} {l4 : Int64} {l6 l7 l9 : Int32} {k : Nat} (hj : lawJ B I p n sc (lwS tp er sc n wt ty tk la l)) (hN : pN B + 8 ≤ pBIG) (hc : 8 ≤ c) (ht : 48 ≤ t) (hk : k < 6) (h0 : Nx B p n sc (lwS tp er sc n wt ty tk la l) c t 2 (fun c' t' M => Go d mL_law Q 205 ([some (.ref pSCR), some (.ref p), some (.int l2), none, some (.long l4), none, some (.int l6), some (.int l7), some (.int (nI k)), some (.int l9), some (.int 0)], [], c', t') M)) (h1 : Nx B p n sc (lwS tp er sc n wt ty tk la l) c t 2 (fun c' t' M => Go d mL_law Q 205 ([some (.ref pSCR), some (.ref p), some (.int l2), none, some (.long l4), none, some (.int l6), some (.int l7), some (.int (nI k)), some (.int l9), some (.int 1)], [], c', t') M)) : Go d mL_law Q 183 ([some (.ref pSCR), some (.ref p), some (.int l2), none, some (.long l4), none, some (.int l6), some (.int l7), some (.int (nI k)), some (.int l9), none], [], c, t) (pset B I) := by
  refine bL_law_183 ⟨hj.kb, (1, 6), by show 1 ≤ c; omega, by show 6 ≤ t; omega, J_cnt hd hj (by omega) lc_4 (fun M1 B1 I1 e1 j1 a1 b1 => ?_)⟩
  rw [e1]
  refine ⟨j1.kb, (1, 6), by show 1 ≤ c - 1; omega, by show 6 ≤ t - 6; omega, J_word hd j1 (by omega) (ww_2 hk) (fun M2 B2 I2 e2 j2 a2 b2 => ?_)⟩
  rw [e2]
  exact ⟨fun _ => h0 B2 I2 (c - 1 - 1) (t - 6 - 6) j2 (by omega) (by omega) (by omega) (by omega), fun _ => h1 B2 I2 (c - 1 - 1) (t - 6 - 6) j2 (by omega) (by omega) (by omega) (by omega)⟩
theorem lw_205 {d : Nat} {Q : pR → pM → Prop} {M : pM} {p c t : Nat} {l2 : Int32} {l4 : Int64} {l7 l9 l10 : Int32} {k a : Nat} {b : Bool} (hb : b = true ↔ ¬ l9 < 0) (h : Go d mL_law Q 220 ([some (.ref pSCR), some (.ref p), some (.int l2), none, some (.long l4), none, some (.int (nI (a + (if b = true then 1 else 0)))), some (.int l7), some (.int (nI k)), some (.int l9), some (.int l10)], [], c, t) M) : Go d mL_law Q 205 ([some (.ref pSCR), some (.ref p), some (.int l2), none, some (.long l4), none, some (.int (nI a)), some (.int l7), some (.int (nI k)), some (.int l9), some (.int l10)], [], c, t) M := by
  refine bL_law_205 ⟨fun g => ?_, fun g => ?_⟩
  · have hb0 : b = false := Bool.eq_false_iff.mpr (fun z => hb.mp z g)
    rw [hb0, if_neg Bool.false_ne_true] at h
    rw [Int32.add_zero]
    exact h
  · have hb1 : b = true := hb.mpr g
    rw [hb1] at h
    rw [nI_1]
    exact h
theorem lw_220 {d : Nat} (hd : 7 ≤ d) {Q : pR → pM → Prop} {B : pM} {I : pIm} {p c t : Nat} {tp : List Int32} {er : Int32} {sc : Nat → Int32} {n : Nat} {wt ty : List Int32} {tk la : Int32} {l : Nat} {l2 : Int32} {l4 : Int64} {l6 l7 l10 : Int32} {k : Nat} (hj : lawJ B I p n sc (lwS tp er sc n wt ty tk la l)) (hN : pN B + 8 ≤ pBIG) (hc : 8 ≤ c) (ht : 48 ≤ t) (hk : k < 6) {f pl : Nat → Nat} {O : List Nat} (hf : fgA sc n wt ty tk la l f pl O) (hty : ty.length ≤ 20) (hl : l ≤ 9) (h : Nx B p n sc (lwS tp er sc n wt ty tk la l) c t 2 (fun c' t' M => Go d mL_law Q 254 ([some (.ref pSCR), some (.ref p), some (.int l2), none, some (.long l4), none, some (.int l6), some (.int l7), some (.int (nI k)), some (.int (rat (rkB sc n wt ty tk la l).2.2.1 (nI k))), some (.int l10)], [], c', t') M)) : Go d mL_law Q 220 ([some (.ref pSCR), some (.ref p), some (.int l2), none, some (.long l4), none, some (.int l6), some (.int l7), some (.int (nI k)), some (.int (rat (rkB sc n wt ty tk la l).2.2.1 (nI k))), some (.int l10)], [], c, t) (pset B I) := by
  obtain ⟨w1, w2, -⟩ := hf.1 k hk
  have hpl := hf.2.1 k hk
  by_cases c1 : f k ≤ l
  · rw [if_pos c1] at hpl
    have hp := fg_p hf hk c1
    refine bL_law_220 ⟨fun g => ?_, fun _ => ⟨hj.kb, (1, 6), by show 1 ≤ c; omega, by show 6 ≤ t; omega, J_word hd hj (by omega) (ww_3 hk) (fun M1 B1 I1 e1 j1 a1 b1 => ?_)⟩⟩
    · rw [hpl] at g
      exact absurd g (nI_pos (by omega))
    rw [e1]
    refine ⟨j1.kb, (1, 6), by show 1 ≤ c - 1; omega, by show 6 ≤ t - 6; omega, J_cnt hd j1 (by omega) lc_6 (fun M2 B2 I2 e2 j2 a2 b2 => ?_)⟩
    rw [e2, w1]
    exact ⟨fun g => absurd g (nI_nlt c1 (by omega)), fun _ => ⟨fun _ => h B2 I2 (c - 1 - 1) (t - 6 - 6) j2 (by omega) (by omega) (by omega) (by omega), fun z => absurd rfl z⟩⟩
  · rw [if_neg c1] at hpl
    refine bL_law_220 ⟨fun _ => ⟨hj.kb, (1, 6), by show 1 ≤ c; omega, by show 6 ≤ t; omega, J_word hd hj (by omega) (ww_3 hk) (fun M1 B1 I1 e1 j1 a1 b1 => ?_)⟩, fun g => ?_⟩
    rotate_left
    · rw [hpl] at g
      exact absurd (by decide : (-1 : Int32) < 0) g
    rw [e1]
    refine ⟨j1.kb, (1, 6), by show 1 ≤ c - 1; omega, by show 6 ≤ t - 6; omega, J_cnt hd j1 (by omega) lc_6 (fun M2 B2 I2 e2 j2 a2 b2 => ?_)⟩
    rw [e2, w1]
    exact ⟨fun _ => ⟨fun _ => h B2 I2 (c - 1 - 1) (t - 6 - 6) j2 (by omega) (by omega) (by omega) (by omega), fun z => absurd rfl z⟩, fun g => absurd (nI_lt (by omega) (by omega)) g⟩
theorem lw_254 {d : Nat} (hd : 7 ≤ d) {Q : pR → pM → Prop} {B : pM} {I : pIm} {p c t : Nat} {tp : List Int32} {er : Int32} {sc : Nat → Int32} {n : Nat} {wt ty : List Int32} {tk la : Int32} {l : Nat} {l2 : Int32} {l4 : Int64} {l6 l7 l10 : Int32} {k : Nat} (hj : lawJ B I p n sc (lwS tp er sc n wt ty tk la l)) (hN : pN B + 8 ≤ pBIG) (hc : 8 ≤ c) (ht : 48 ≤ t) (hk : k < 6) {f pl : Nat → Nat} {O : List Nat} (hf : fgA sc n wt ty tk la l f pl O) (h : Nx B p n sc (lwS tp er sc n wt ty tk la l) c t 1 (fun c' t' M => Go d mL_law Q 276 ([some (.ref pSCR), some (.ref p), some (.int l2), none, some (.long l4), none, some (.int l6), some (.int l7), some (.int (nI k)), some (.int (rat (rkB sc n wt ty tk la l).2.2.1 (nI k))), some (.int l10)], [], c', t') M)) : Go d mL_law Q 254 ([some (.ref pSCR), some (.ref p), some (.int l2), none, some (.long l4), none, some (.int l6), some (.int l7), some (.int (nI k)), some (.int (rat (rkB sc n wt ty tk la l).2.2.1 (nI k))), some (.int l10)], [], c, t) (pset B I) := by
  have hpl := hf.2.1 k hk
  by_cases c1 : f k ≤ l
  · rw [if_pos c1] at hpl
    have hp := fg_p hf hk c1
    have hO := hf.2.2.1 k hk c1
    refine bL_law_254 ⟨fun g => ?_, fun _ => ⟨fun g => h B I c t hj (by omega) (by omega) (by omega) (by omega), fun g => ?_⟩⟩
    · rw [hpl] at g
      exact absurd g (nI_pos (by omega))
    rw [hpl] at g ⊢
    have h5 : pl k < 5 := Nat.not_le.mp (fun z => g (nI_le (a := 5) z (by omega)))
    refine ⟨hj.kb, (1, 6), by show 1 ≤ c; omega, by show 6 ≤ t; omega, J_offer hd hj (by omega) (wo_ok h5) (fun M1 B1 I1 e1 j1 a1 b1 => ?_)⟩
    have ho := hf.2.2.2.1 (pl k) h5
    rw [hO] at ho
    rw [e1, ho]
    have h2 := h B1 I1 (c - 1) (t - 6) j1 (by omega) (by omega) (by omega) (by omega)
    rw [hpl] at h2
    exact ⟨fun _ => h2, fun z => absurd rfl z⟩
  · rw [if_neg c1] at hpl
    refine bL_law_254 ⟨fun _ => h B I c t hj (by omega) (by omega) (by omega) (by omega), fun g => ?_⟩
    rw [hpl] at g
    exact absurd (by decide : (-1 : Int32) < 0) g
theorem lw_276 {d : Nat} (hd : 7 ≤ d) {Q : pR → pM → Prop} {B : pM} {I : pIm} {p c t : Nat} {tp : List Int32} {er : Int32} {sc : Nat → Int32} {n : Nat} {wt ty : List Int32} {tk la : Int32} {l : Nat} {l2 : Int32} {l4 : Int64} {l6 l7 l9 l10 : Int32} {k : Nat} (hj : lawJ B I p n sc (lwS tp er sc n wt ty tk la l)) (hN : pN B + 8 ≤ pBIG) (hc : 8 ≤ c) (ht : 48 ≤ t) (hk : k < 6) {m : Nat} (hw : wOK m wt) (hm : m ≤ 18) (h : Nx B p n sc (lwS tp er sc n wt ty tk la l) c t 1 (fun c' t' M => Go d mL_law Q 286 ([some (.ref pSCR), some (.ref p), some (.int l2), none, some (.long l4), none, some (.int l6), some (.int l7), some (.int (nI k)), some (.int l9), some (.int l10)], [], c', t') M)) : Go d mL_law Q 276 ([some (.ref pSCR), some (.ref p), some (.int l2), none, some (.long l4), none, some (.int l6), some (.int l7), some (.int (nI k)), some (.int l9), some (.int l10)], [], c, t) (pset B I) := by
  obtain ⟨u, u1, u2⟩ := wOK_at hw hk
  refine bL_law_276 ⟨hj.kb, (1, 6), by show 1 ≤ c; omega, by show 6 ≤ t; omega, J_word hd hj (by omega) (ww_0 hk) (fun M1 B1 I1 e1 j1 a1 b1 => ?_)⟩
  rw [e1, u2]
  exact ⟨fun g => absurd g (nI_pos (by omega)), fun _ => h B1 I1 (c - 1) (t - 6) j1 (by omega) (by omega) (by omega) (by omega)⟩
theorem lw_286 {d : Nat} (hd : 7 ≤ d) {Q : pR → pM → Prop} {B : pM} {I : pIm} {p c t : Nat} {tp : List Int32} {er : Int32} {sc : Nat → Int32} {n : Nat} {wt ty : List Int32} {tk la : Int32} {l : Nat} {l2 : Int32} {l4 : Int64} {l6 l7 l9 l10 : Int32} {k : Nat} (hj : lawJ B I p n sc (lwS tp er sc n wt ty tk la l)) (hN : pN B + 8 ≤ pBIG) (hc : 8 ≤ c) (ht : 48 ≤ t) (hk : k < 6) {m : Nat} (hw : wOK m wt) (hm : m ≤ 18) (h : Nx B p n sc (lwS tp er sc n wt ty tk la l) c t 1 (fun c' t' M => Go d mL_law Q 299 ([some (.ref pSCR), some (.ref p), some (.int l2), none, some (.long l4), none, some (.int l6), some (.int l7), some (.int (nI k)), some (.int l9), some (.int l10)], [], c', t') M)) : Go d mL_law Q 286 ([some (.ref pSCR), some (.ref p), some (.int l2), none, some (.long l4), none, some (.int l6), some (.int l7), some (.int (nI k)), some (.int l9), some (.int l10)], [], c, t) (pset B I) := by
  obtain ⟨u, u1, u2⟩ := wOK_at hw hk
  refine bL_law_286 ⟨hj.kb, (1, 6), by show 1 ≤ c; omega, by show 6 ≤ t; omega, J_word hd hj (by omega) (ww_0 hk) (fun M1 B1 I1 e1 j1 a1 b1 => ?_)⟩
  rw [e1, u2]
  exact ⟨fun g => absurd g (nI_nlt (a := 9999) (b := u) (by omega) (by decide)), fun _ => h B1 I1 (c - 1) (t - 6) j1 (by omega) (by omega) (by omega) (by omega)⟩
theorem lw_299 {d : Nat} (hd : 7 ≤ d) {Q : pR → pM → Prop} {B : pM} {I : pIm} {p c t : Nat} {tp : List Int32} {er : Int32} {sc : Nat → Int32} {n : Nat} {wt ty : List Int32} {tk la : Int32} {l : Nat} {l2 : Int32} {l4 : Int64} {l6 l7 l9 l10 : Int32} {k : Nat} (hj : lawJ B I p n sc (lwS tp er sc n wt ty tk la l)) (hN : pN B + 8 ≤ pBIG) (hc : 8 ≤ c) (ht : 48 ≤ t) (hk : k < 6) {f pl : Nat → Nat} {O : List Nat} (hf : fgA sc n wt ty tk la l f pl O) (hty : ty.length ≤ 20) (h : Nx B p n sc (lwS tp er sc n wt ty tk la l) c t 3 (fun c' t' M => Go d mL_law Q 328 ([some (.ref pSCR), some (.ref p), some (.int l2), none, some (.long l4), none, some (.int l6), some (.int l7), some (.int (nI k)), some (.int l9), some (.int l10)], [], c', t') M)) : Go d mL_law Q 299 ([some (.ref pSCR), some (.ref p), some (.int l2), none, some (.long l4), none, some (.int l6), some (.int l7), some (.int (nI k)), some (.int l9), some (.int l10)], [], c, t) (pset B I) := by
  obtain ⟨w1, w2, -⟩ := hf.1 k hk
  refine bL_law_299 ⟨hj.kb, (1, 6), by show 1 ≤ c; omega, by show 6 ≤ t; omega, J_word hd hj (by omega) (ww_3 hk) (fun M1 B1 I1 e1 j1 a1 b1 => ?_)⟩
  rw [e1]
  refine ⟨j1.kb, (1, 6), by show 1 ≤ c - 1; omega, by show 6 ≤ t - 6; omega, J_cnt hd j1 (by omega) lc_4 (fun M2 B2 I2 e2 j2 a2 b2 => ?_)⟩
  have e3 : (3 : Int32) * nI ty.length = nI (3 * ty.length) := (Int32.ofNat_mul 3 _).symm
  rw [e2, w1, e3]
  refine ⟨fun g => absurd g (nI_nlt (by omega) (by omega)), fun _ => ⟨j2.kb, (1, 6), by show 1 ≤ c - 1 - 1; omega, by show 6 ≤ t - 6 - 6; omega, J_word hd j2 (by omega) (ww_3 hk) (fun M3 B3 I3 e4 j3 a3 b3 => ?_)⟩⟩
  rw [e4, w1]
  exact ⟨fun _ => h B3 I3 (c - 1 - 1 - 1) (t - 6 - 6 - 6) j3 (by omega) (by omega) (by omega) (by omega), fun g => absurd (nI_pos' (by omega)) g⟩
theorem lw_328 {d : Nat} (hd : 7 ≤ d) {Q : pR → pM → Prop} {B : pM} {I : pIm} {p c t : Nat} {tp : List Int32} {er : Int32} {sc : Nat → Int32} {n : Nat} {wt ty : List Int32} {tk la : Int32} {l : Nat} {l2 : Int32} {l4 : Int64} {l6 l7 l10 : Int32} {k : Nat} (hj : lawJ B I p n sc (lwS tp er sc n wt ty tk la l)) (hN : pN B + 8 ≤ pBIG) (hc : 8 ≤ c) (ht : 48 ≤ t) (hk : k < 6) {f pl : Nat → Nat} {O : List Nat} (hf : fgA sc n wt ty tk la l f pl O) {m : Nat} (hw : wOK m wt) (hm : m ≤ 18) (hty : ty.length ≤ 20) (h : Nx B p n sc (lwS tp er sc n wt ty tk la l) c t 1 (fun c' t' M => Go d mL_law Q 355 ([some (.ref pSCR), some (.ref p), some (.int l2), none, some (.long l4), none, some (.int l6), some (.int l7), some (.int (nI k)), some (.int (rat (rkB sc n wt ty tk la l).2.2.1 (nI k))), some (.int l10)], [], c', t') M)) : Go d mL_law Q 328 ([some (.ref pSCR), some (.ref p), some (.int l2), none, some (.long l4), none, some (.int l6), some (.int l7), some (.int (nI k)), some (.int (rat (rkB sc n wt ty tk la l).2.2.1 (nI k))), some (.int l10)], [], c, t) (pset B I) := by
  have hpl := hf.2.1 k hk
  refine bL_law_328 ⟨hj.kb, (1, 6), by show 1 ≤ c; omega, by show 6 ≤ t; omega, J_needs hd hj (by omega) (wn_ok hk) (fun M1 B1 I1 e1 j1 a1 b1 => ?_)⟩
  rw [e1]
  have h2 := h B1 I1 (c - 1) (t - 6) j1 (by omega) (by omega) (by omega) (by omega)
  by_cases c1 : f k ≤ l
  · rw [if_pos c1] at hpl
    have hp := fg_p hf hk c1
    obtain ⟨x, x1, x2⟩ := need_in (tp := tp) (er := er) hf hw hm hty hk c1
    have hx : ¬ ¬ 0 ≤ needI (lwS tp er sc n wt ty tk la l) (nI k) := fun z => z (by
      have : needI (lwS tp er sc n wt ty tk la l) (nI k) = nI x := x2
      rw [this]
      exact nI_pos' (by omega))
    have hy : ¬ ¬ 0 ≤ rat (rkB sc n wt ty tk la l).2.2.1 (nI k) := fun z => z (by rw [hpl]; exact nI_pos' (by omega))
    exact ⟨fun _ => ⟨fun _ => ⟨fun _ => h2, fun z => absurd rfl z⟩, fun g => absurd g hy⟩, fun g => absurd g hx⟩
  · rw [if_neg c1] at hpl
    have hx : ¬ 0 ≤ needI (lwS tp er sc n wt ty tk la l) (nI k) := by
      have : needI (lwS tp er sc n wt ty tk la l) (nI k) = -1 := need_out hf hk c1
      rw [this]
      decide
    have hy : ¬ 0 ≤ rat (rkB sc n wt ty tk la l).2.2.1 (nI k) := by rw [hpl]; decide
    exact ⟨fun g => absurd g hx, fun _ => ⟨fun g => absurd g hy, fun _ => ⟨fun _ => h2, fun z => absurd rfl z⟩⟩⟩
theorem lw_355 {d : Nat} (hd : 7 ≤ d) {Q : pR → pM → Prop} {B : pM} {I : pIm} {p c t : Nat} {tp : List Int32} {er : Int32} {sc : Nat → Int32} {n : Nat} {wt ty : List Int32} {tk la : Int32} {l : Nat} {l2 : Int32} {l4 : Int64} {l6 l7 l9 l10 : Int32} {k : Nat} (hj : lawJ B I p n sc (lwS tp er sc n wt ty tk la l)) (hN : pN B + 8 ≤ pBIG) (hc : 8 ≤ c) (ht : 48 ≤ t) (hk : k < 6) (h : Nx B p n sc (lwS tp er sc n wt ty tk la l) c t 3 (fun c' t' M => Go d mL_law Q 382 ([some (.ref pSCR), some (.ref p), some (.int l2), none, some (.long l4), none, some (.int l6), some (.int l7), some (.int (nI k)), some (.int l9), some (.int l10)], [], c', t') M)) : Go d mL_law Q 355 ([some (.ref pSCR), some (.ref p), some (.int l2), none, some (.long l4), none, some (.int l6), some (.int l7), some (.int (nI k)), some (.int l9), some (.int l10)], [], c, t) (pset B I) := by
  have hlen := (nam_len (sc := sc) (n := n) (w := k)).2
  refine bL_law_355 ⟨hj.kb, (1, 6), by show 1 ≤ c; omega, by show 6 ≤ t; omega, J_strokes hd hj (by omega) (ws_ok hk) (fun M1 B1 I1 e1 j1 a1 b1 => ?_)⟩
  rw [e1]
  refine ⟨j1.kb, (1, 6), by show 1 ≤ c - 1; omega, by show 6 ≤ t - 6; omega, J_word hd j1 (by omega) (ww_2 hk) (fun M2 B2 I2 e2 j2 a2 b2 => ?_)⟩
  rw [e2, wsL_lat hk, nI_1]
  refine ⟨fun g => ?_, fun _ => ⟨j2.kb, (1, 6), by show 1 ≤ c - 1 - 1; omega, by show 6 ≤ t - 6 - 6; omega, J_closest hd j2 (by omega) (wc_ok hk) (fun M3 B3 I3 e4 j3 a3 b3 => ?_)⟩⟩
  · rcases st_in (b := BKs sc n wt) (tk := tk) (la := la) (li := nI l) (w := nI k) (l := namL sc n k) (namL sc n k).length 0 (by omega) with z | ⟨r, r1, r2⟩
    · rw [z] at g
      exact absurd g (Int32.not_lt.mpr (Int32.le_trans (by decide : (-1 : Int32) ≤ 0) (nI_pos' (by omega))))
    · rw [r2] at g
      exact absurd g (nI_nlt (by omega) (by omega))
  rw [e4]
  rcases cl_in (sc := sc) (n := n) (wt := wt) hk 6 (Nat.le_refl _) with ⟨-, z⟩ | ⟨r, r1, r2⟩
  · omega
  · rw [r2]
    exact ⟨fun g => absurd g (nI_pos (by omega)), fun _ => h B3 I3 (c - 1 - 1 - 1) (t - 6 - 6 - 6) j3 (by omega) (by omega) (by omega) (by omega)⟩
theorem lw_382 {d : Nat} (hd : 7 ≤ d) {Q : pR → pM → Prop} {B : pM} {I : pIm} {p c t : Nat} {tp : List Int32} {er : Int32} {sc : Nat → Int32} {n : Nat} {wt ty : List Int32} {tk la : Int32} {l : Nat} {l2 : Int32} {l4 : Int64} {l6 l7 l10 : Int32} {k : Nat} (hj : lawJ B I p n sc (lwS tp er sc n wt ty tk la l)) (hN : pN B + 8 ≤ pBIG) (hc : 8 ≤ c) (ht : 48 ≤ t) (hk : k < 6) {f pl : Nat → Nat} {O : List Nat} (hf : fgA sc n wt ty tk la l f pl O) (hty : ty.length ≤ 20) (h : Nx B p n sc (lwS tp er sc n wt ty tk la l) c t 2 (fun c' t' M => Go d mL_law Q 412 ([some (.ref pSCR), some (.ref p), some (.int l2), none, some (.long l4), none, some (.int l6), some (.int l7), some (.int (nI k)), none, none], [], c', t') M)) : Go d mL_law Q 382 ([some (.ref pSCR), some (.ref p), some (.int l2), none, some (.long l4), none, some (.int l6), some (.int l7), some (.int (nI k)), some (.int (rat (rkB sc n wt ty tk la l).2.2.1 (nI k))), some (.int l10)], [], c, t) (pset B I) := by
  obtain ⟨w1, w2, -⟩ := hf.1 k hk
  have hpl := hf.2.1 k hk
  refine bL_law_382 ⟨fun _ => h B I c t hj (by omega) (by omega) (by omega) (by omega), fun _ => ⟨hj.kb, (1, 6), by show 1 ≤ c; omega, by show 6 ≤ t; omega, J_word hd hj (by omega) (ww_3 hk) (fun M1 B1 I1 e1 j1 a1 b1 => ?_)⟩⟩
  rw [e1, w1]
  refine ⟨fun g => ⟨j1.kb, (1, 6), by show 1 ≤ c - 1; omega, by show 6 ≤ t - 6; omega, J_cnt hd j1 (by omega) lc_4 (fun M2 B2 I2 e2 j2 a2 b2 => ?_)⟩, fun _ => h B1 I1 (c - 1) (t - 6) j1 (by omega) (by omega) (by omega) (by omega)⟩
  rw [e2]
  refine ⟨fun _ => ⟨fun _ => h B2 I2 (c - 1 - 1) (t - 6 - 6) j2 (by omega) (by omega) (by omega) (by omega), fun z => ?_⟩, fun _ => h B2 I2 (c - 1 - 1) (t - 6 - 6) j2 (by omega) (by omega) (by omega) (by omega)⟩
  have f0 : f k = 0 := (nI_eq (a := f k) (b := 0) (by omega) (by decide)).mp g
  rw [if_pos (by omega)] at hpl
  have hp := fg_p hf hk (by omega)
  rw [hpl] at z
  exact absurd (nI_pos' (by omega)) z
theorem lw_412 {d : Nat} (hd : 7 ≤ d) {Q : pR → pM → Prop} {B : pM} {I : pIm} {p c t : Nat} {tp : List Int32} {er : Int32} {sc : Nat → Int32} {n : Nat} {wt ty : List Int32} {tk la : Int32} {l : Nat} {l2 : Int32} {l4 : Int64} {l6 : Int32} {k a : Nat} (hj : lawJ B I p n sc (lwS tp er sc n wt ty tk la l)) (hN : pN B + 8 ≤ pBIG) (hc : 8 ≤ c) (ht : 48 ≤ t) (hk : k < 6) {f pl : Nat → Nat} {O : List Nat} (hf : fgA sc n wt ty tk la l f pl O) (hty : ty.length ≤ 20) (h : Nx B p n sc (lwS tp er sc n wt ty tk la l) c t 1 (fun c' t' M => Go d mL_law Q 164 ([some (.ref pSCR), some (.ref p), some (.int l2), none, some (.long l4), none, some (.int l6), some (.int (nI (a + (if decide (f k = 0) = true then 1 else 0)))), some (.int (nI (k + 1))), none, none], [], c', t') M)) : Go d mL_law Q 412 ([some (.ref pSCR), some (.ref p), some (.int l2), none, some (.long l4), none, some (.int l6), some (.int (nI a)), some (.int (nI k)), none, none], [], c, t) (pset B I) := by
  obtain ⟨w1, w2, -⟩ := hf.1 k hk
  refine bL_law_412 ⟨hj.kb, (1, 6), by show 1 ≤ c; omega, by show 6 ≤ t; omega, J_word hd hj (by omega) (ww_3 hk) (fun M1 B1 I1 e1 j1 a1 b1 => ?_)⟩
  have h2 := h B1 I1 (c - 1) (t - 6) j1 (by omega) (by omega) (by omega) (by omega)
  rw [e1, w1]
  refine ⟨fun g => bL_law_432 ?_, fun g => bL_law_432 ?_⟩
  · have f0 : f k = 0 := (nI_eq (a := f k) (b := 0) (by omega) (by decide)).mp g
    rw [if_pos (decide_eq_true f0)] at h2
    rw [nI_1, nI_1]
    exact h2
  · have f0 : ¬ f k = 0 := fun z => g (by rw [z]; rfl)
    rw [if_neg (fun z => f0 (of_decide_eq_true z))] at h2
    rw [nI_1, Int32.add_zero]
    exact h2
theorem lw_word {d : Nat} (hd : 7 ≤ d) {Q : pR → pM → Prop} {B : pM} {I : pIm} {p c t : Nat} {tp : List Int32} {er : Int32} {sc : Nat → Int32} {n : Nat} {wt ty : List Int32} {tk la : Int32} {l : Nat} {l2 : Int32} {l4 : Int64} {k : Nat} (hj : lawJ B I p n sc (lwS tp er sc n wt ty tk la l)) (hN : pN B + 30 ≤ pBIG) (hc : 30 ≤ c) (ht : 180 ≤ t) (hk : k < 6) {f pl : Nat → Nat} {O : List Nat} (hf : fgA sc n wt ty tk la l f pl O) {m : Nat} (hw : wOK m wt) (hm : m ≤ 18) (hty : ty.length ≤ 20) (hl : l ≤ 9) (h : Nx B p n sc (lwS tp er sc n wt ty tk la l) c t 20 (fun c' t' M => Go d mL_law Q 164 ([some (.ref pSCR), some (.ref p), some (.int l2), none, some (.long l4), none, some (.int (nI (cntN (fun k => decide (f k ≤ l)) (k + 1)))), some (.int (nI (cntN (fun k => decide (f k = 0)) (k + 1)))), some (.int (nI (k + 1))), none, none], [], c', t') M)) : Go d mL_law Q 164 ([some (.ref pSCR), some (.ref p), some (.int l2), none, some (.long l4), none, some (.int (nI (cntN (fun k => decide (f k ≤ l)) k))), some (.int (nI (cntN (fun k => decide (f k = 0)) k))), some (.int (nI k)), none, none], [], c, t) (pset B I) := by
  have hpl := hf.2.1 k hk
  have hg : decide (f k ≤ l) = true ↔ ¬ rat (rkB sc n wt ty tk la l).2.2.1 (nI k) < 0 := by
    by_cases c1 : f k ≤ l
    · rw [if_pos c1] at hpl
      have hp := fg_p hf hk c1
      rw [hpl]
      exact ⟨fun _ => nI_pos (by omega), fun _ => decide_eq_true c1⟩
    · rw [if_neg c1] at hpl
      rw [hpl]
      exact ⟨fun z => absurd (of_decide_eq_true z) c1, fun z => absurd (by decide : (-1 : Int32) < 0) z⟩
  refine lw_164 hd hj (by omega) (by omega) (by omega) hk (fun B1 I1 c1 t1 j1 a1 b1 x1 y1 => ?_)
  have rest : ∀ (l10 : Int32) (B2 : pM) (I2 : pIm) (c2 t2 : Nat), lawJ B2 I2 p n sc (lwS tp er sc n wt ty tk la l) → pN B1 ≤ pN B2 → pN B2 ≤ pN B1 + 2 → c1 ≤ c2 + 2 → t1 ≤ t2 + 6 * 2 → Go d mL_law Q 205 ([some (.ref pSCR), some (.ref p), some (.int l2), none, some (.long l4), none, some (.int (nI (cntN (fun k => decide (f k ≤ l)) k))), some (.int (nI (cntN (fun k => decide (f k = 0)) k))), some (.int (nI k)), some (.int (rat (rkB sc n wt ty tk la l).2.2.1 (nI k))), some (.int l10)], [], c2, t2) (pset B2 I2) := by
    intro l10 B2 I2 c2 t2 j2 a2 b2 x2 y2
    refine lw_205 hg ?_
    refine lw_220 hd j2 (by omega) (by omega) (by omega) hk hf hty hl (fun B3 I3 c3 t3 j3 a3 b3 x3 y3 => ?_)
    refine lw_254 hd j3 (by omega) (by omega) (by omega) hk hf (fun B4 I4 c4 t4 j4 a4 b4 x4 y4 => ?_)
    refine lw_276 hd j4 (by omega) (by omega) (by omega) hk hw hm (fun B5 I5 c5 t5 j5 a5 b5 x5 y5 => ?_)
    refine lw_286 hd j5 (by omega) (by omega) (by omega) hk hw hm (fun B6 I6 c6 t6 j6 a6 b6 x6 y6 => ?_)
    refine lw_299 hd j6 (by omega) (by omega) (by omega) hk hf hty (fun B7 I7 c7 t7 j7 a7 b7 x7 y7 => ?_)
    refine lw_328 hd j7 (by omega) (by omega) (by omega) hk hf hw hm hty (fun B8 I8 c8 t8 j8 a8 b8 x8 y8 => ?_)
    refine lw_355 hd j8 (by omega) (by omega) (by omega) hk (fun B9 I9 c9 t9 j9 a9 b9 x9 y9 => ?_)
    refine lw_382 hd j9 (by omega) (by omega) (by omega) hk hf hty (fun B10 I10 c10 t10 j10 a10 b10 x10 y10 => ?_)
    refine lw_412 hd j10 (by omega) (by omega) (by omega) hk hf hty (fun B11 I11 c11 t11 j11 a11 b11 x11 y11 => ?_)
    exact h B11 I11 c11 t11 j11 (by omega) (by omega) (by omega) (by omega)
  exact lw_183 hd j1 (by omega) (by omega) (by omega) hk (fun B2 I2 c2 t2 j2 a2 b2 x2 y2 => rest 0 B2 I2 c2 t2 j2 a2 b2 x2 y2) (fun B2 I2 c2 t2 j2 a2 b2 x2 y2 => rest 1 B2 I2 c2 t2 j2 a2 b2 x2 y2)
