/-! THE SCRIPT STAYS -/
/-- M1, with what M knows of the script -/
def keepM (M M1 : pM) : pM := if (pK M pSCR).1 = 5 then (fun x => if x = pSCR then M.1 x else M1.1 x, fun x y => if x = pSCR then M.2.1 x y else M1.2.1 x y, M1.2.2) else M1
theorem keep_no {M M1 : pM} (h : ¬ (pK M pSCR).1 = 5) : keepM M M1 = M1 := if_neg h
theorem keep_yes {M M1 : pM} (h : (pK M pSCR).1 = 5) : keepM M M1 = (fun x => if x = pSCR then M.1 x else M1.1 x, fun x y => if x = pSCR then M.2.1 x y else M1.2.1 x y, M1.2.2) := if_pos h
theorem keep_n {M M1 : pM} : pN (keepM M M1) = pN M1 := by
  by_cases h : (pK M pSCR).1 = 5
  · rw [keep_yes h]; rfl
  · rw [keep_no h]
theorem keep_k {M M1 : pM} {a : Nat} (h : a ≠ pSCR) : pK (keepM M M1) a = pK M1 a := by
  by_cases g : (pK M pSCR).1 = 5
  · rw [keep_yes g]
    exact if_neg h
  · rw [keep_no g]
theorem keep_i {M M1 : pM} {a : Nat} (h : a ≠ pSCR) : pI (keepM M M1) a = pI M1 a := by
  by_cases g : (pK M pSCR).1 = 5
  · rw [keep_yes g]
    funext y
    exact if_neg h
  · rw [keep_no g]
theorem keep_l {M M1 : pM} {a : Nat} : pL (keepM M M1) a = pL M1 a := by
  by_cases g : (pK M pSCR).1 = 5
  · rw [keep_yes g]; rfl
  · rw [keep_no g]
theorem keep_p {M M1 : pM} {a : Nat} : pP (keepM M M1) a = pP M1 a := by
  by_cases g : (pK M pSCR).1 = 5
  · rw [keep_yes g]; rfl
  · rw [keep_no g]
theorem keep_ks {M M1 : pM} (h : (pK M pSCR).1 = 5) : pK (keepM M M1) pSCR = pK M pSCR ∧ pI (keepM M M1) pSCR = pI M pSCR := by
  rw [keep_yes h]
  refine ⟨?_, funext (fun y => ?_)⟩
  · show (if pSCR = pSCR then M.1 pSCR else M1.1 pSCR) = M.1 pSCR
    rw [if_pos rfl]
  · show (if pSCR = pSCR then M.2.1 pSCR y else M1.2.1 pSCR y) = M.2.1 pSCR y
    rw [if_pos rfl]
theorem keep_rel {w : pW} {M M1 : pM} {H H1 : Heap} (h : pRel w M H) (h1 : pRel w M1 H1) (hl : ∀ q, q < pB w → H1[q]? = H[q]?) : pRel w (keepM M M1) H1 := by
  by_cases g : (pK M pSCR).1 = 5
  · obtain ⟨g1, g2⟩ := keep_ks (M1 := M1) g
    obtain ⟨a1, a2, a3, a4, a5, a6, a7, a8⟩ := h1
    have ne : ∀ a k, (pK (keepM M M1) a) = k → k.1 ≠ 5 → a ≠ pSCR := fun a k e hk z => by
      rw [z, g1] at e
      rw [e] at g
      exact hk g
    refine ⟨by rw [keep_n]; exact a1, by rw [keep_n]; exact a2, fun a ha => ?_, fun a ci hk => ?_, fun a n hk => ?_, fun a n hk => ?_, fun a n hk => ?_, fun a n hk => ?_⟩
    · by_cases c : a = pSCR
      · rw [c, g1]; exact Or.inr g
      · rw [keep_k c]
        rw [keep_n] at ha
        exact a3 a ha
    · have c := ne a _ hk (show (1 : Nat) ≠ 5 by decide)
      rw [keep_k c] at hk
      have q := a4 a ci hk
      unfold pObj at q ⊢
      have e : (fun k => pfv w (keepM M M1) a ci k) = fun k => pfv w M1 a ci k := by
        funext k
        unfold pfv
        rw [keep_i c, keep_p]
      rw [e]
      exact q
    · have c := ne a _ hk (show (2 : Nat) ≠ 5 by decide)
      rw [keep_k c] at hk
      rw [keep_i c]
      exact a5 a n hk
    · have c := ne a _ hk (show (3 : Nat) ≠ 5 by decide)
      rw [keep_k c] at hk
      rw [keep_l]
      exact a6 a n hk
    · have c := ne a _ hk (show (4 : Nat) ≠ 5 by decide)
      rw [keep_k c] at hk
      rw [keep_p]
      exact a7 a n hk
    · by_cases c : a = pSCR
      · refine ⟨c, ?_⟩
        rw [c, g1] at hk
        obtain ⟨-, s1, scr, s2, s3, s4, s5, s6⟩ := h.2.2.2.2.2.2.2 pSCR n hk
        exact ⟨s1, scr, by rw [hl _ s1]; exact s2, s3, s4, s5, by rw [g2]; exact s6⟩
      · rw [keep_k c] at hk
        exact absurd (a8 a n hk).1 c
  · rw [keep_no g]
    exact h1
def o_keep (op : pOp) : pOp := fun C X Q f M => pCm C ∧ op C (fun pc f' M1 => X pc f' (keepM M M1)) Q f M
theorem OpS.keep {mi : pMI} {pc : Nat} {op : pOp} (h : OpS mi pc op) : OpS mi pc (o_keep op) := by
  refine ⟨fun C C' X X' Q Q' f M hC hC' hCC hX hQ g => ⟨hC', h.1 C C' _ _ Q Q' f M hC hC' hCC (fun pc f' M1 q => hX _ _ _ q) hQ g.2⟩, fun w hw d C hC p e R s m args below meth c Z Q A f M g => ?_⟩
  intro H locs cells slots ls hH hL hc hs hS
  have hsz := A.2.2.2.2.2.2.2.2.2.2.2.2.1
  refine h.2 w hw d C hC p e R s m args below meth c Z Q A f M (h.1 C C _ _ Q Q f M g.1 g.1 (fun _ _ _ _ _ x => x) (fun pc f' M1 q => ?_) (fun _ _ x => x) g.2) H locs cells slots ls hH hL hc hs hS
  intro H1 locs1 cells1 slots1 ls1 h1 hL1 hc1 hs1 hS1
  refine q H1 locs1 cells1 slots1 ls1 (keep_rel hH h1 (fun x hx => ?_)) hL1 hc1 hs1 hS1
  rw [hS1.2.1 x (Nat.lt_of_lt_of_le hx hsz) (Nat.not_le.mpr hx), hS.2.1 x (Nat.lt_of_lt_of_le hx hsz) (Nat.not_le.mpr hx)]
theorem st_keep {d : Nat} {mi : pMI} {Q : pR → pM → Prop} {pc : Nat} {op : pOp} {f : pF} {M : pM} (hs : OpS mi pc op) (h : op (CP d) (fun pc f' M1 => Go d mi Q pc f' (keepM M M1)) Q f M) : Go d mi Q pc f M := st hs.keep ⟨CP_m d, h⟩
theorem st_callI_vK {d : Nat} {mi y : pMI} {Q : pR → pM → Prop} {pc : Nat} {L : List (Option Value)} {S R : List Value} {c s : Nat} {M : pM} {k n a : Nat} {res : Nat × Nat} (as : List Value) (hs : OpS mi pc (o_callI y k n)) (hS : S = as.reverse ++ .ref a :: R) (hl : as.length = k) (hr : psum R ≤ 8) (h1 : res.1 ≤ c) (h2 : res.2 ≤ s) (h : pCall_v d y res (.ref a :: as) M (fun M1 => Go d mi Q n (L, R, c - res.1, s - res.2) (keepM M M1))) : Go d mi Q pc (L, S, c, s) M := by
  refine st_keep hs ⟨res, as, R, a, hS, hl, hr, h1, h2, CP_q h (fun r M1 q => ?_)⟩
  obtain ⟨rfl, q⟩ := q
  exact q
theorem st_callS_iK {d : Nat} {mi y : pMI} {Q : pR → pM → Prop} {pc : Nat} {L : List (Option Value)} {S R : List Value} {c s : Nat} {M : pM} {k n : Nat} {res : Nat × Nat} (as : List Value) (hs : OpS mi pc (o_callS y k n)) (hS : S = as.reverse ++ R) (hl : as.length = k) (hr : psum R ≤ 8) (h1 : res.1 ≤ c) (h2 : res.2 ≤ s) (h : pCall_i d y res (as) M (fun v M1 => Go d mi Q n (L, .int v :: R, c - res.1, s - res.2) (keepM M M1))) : Go d mi Q pc (L, S, c, s) M := by
  refine st_keep hs ⟨res, as, R, hS, hl, hr, h1, h2, CP_q h (fun r M1 q => ?_)⟩
  obtain ⟨v, rfl, q⟩ := q
  exact q
theorem st_callS0_iK {d : Nat} {mi y : pMI} {Q : pR → pM → Prop} {pc : Nat} {L : List (Option Value)} {S R : List Value} {c s : Nat} {M : pM} {k n : Nat} (as : List Value) (hs : OpS mi pc (o_callS y k n)) (hS : S = as.reverse ++ R) (hl : as.length = k) (hr : psum R ≤ 8) (h : pCall_i d y (0, 0) (as) M (fun v M1 => Go d mi Q n (L, .int v :: R, c, s) (keepM M M1))) : Go d mi Q pc (L, S, c, s) M := st_callS_iK (res := (0, 0)) as hs hS hl hr (Nat.zero_le _) (Nat.zero_le _) h
theorem st_callS_rK {d : Nat} {mi y : pMI} {Q : pR → pM → Prop} {pc : Nat} {L : List (Option Value)} {S R : List Value} {c s : Nat} {M : pM} {k n : Nat} {res : Nat × Nat} (as : List Value) (hs : OpS mi pc (o_callS y k n)) (hS : S = as.reverse ++ R) (hl : as.length = k) (hr : psum R ≤ 8) (h1 : res.1 ≤ c) (h2 : res.2 ≤ s) (h : pCall_r d y res (as) M (fun v M1 => Go d mi Q n (L, .ref v :: R, c - res.1, s - res.2) (keepM M M1))) : Go d mi Q pc (L, S, c, s) M := by
  refine st_keep hs ⟨res, as, R, hS, hl, hr, h1, h2, CP_q h (fun r M1 q => ?_)⟩
  obtain ⟨v, rfl, q⟩ := q
  exact q
theorem st_callS_vK {d : Nat} {mi y : pMI} {Q : pR → pM → Prop} {pc : Nat} {L : List (Option Value)} {S R : List Value} {c s : Nat} {M : pM} {k n : Nat} {res : Nat × Nat} (as : List Value) (hs : OpS mi pc (o_callS y k n)) (hS : S = as.reverse ++ R) (hl : as.length = k) (hr : psum R ≤ 8) (h1 : res.1 ≤ c) (h2 : res.2 ≤ s) (h : pCall_v d y res (as) M (fun M1 => Go d mi Q n (L, R, c - res.1, s - res.2) (keepM M M1))) : Go d mi Q pc (L, S, c, s) M := by
  refine st_keep hs ⟨res, as, R, hS, hl, hr, h1, h2, CP_q h (fun r M1 q => ?_)⟩
  obtain ⟨rfl, q⟩ := q
  exact q
theorem st_callV_iK {d : Nat} {mi y : pMI} {Q : pR → pM → Prop} {pc : Nat} {L : List (Option Value)} {S R : List Value} {c s : Nat} {M : pM} {ci k n a : Nat} {res : Nat × Nat} (as : List Value) (hs : OpS mi pc (o_callV y ci k n)) (hS : S = as.reverse ++ .ref a :: R) (hl : as.length = k) (hK : pK M a = (1, ci)) (hr : psum R ≤ 8) (h1 : res.1 ≤ c) (h2 : res.2 ≤ s) (h : pCall_i d y res (.ref a :: as) M (fun v M1 => Go d mi Q n (L, .int v :: R, c - res.1, s - res.2) (keepM M M1))) : Go d mi Q pc (L, S, c, s) M := by
  refine st_keep hs ⟨res, as, R, a, hS, hl, hK, hr, h1, h2, CP_q h (fun r M1 q => ?_)⟩
  obtain ⟨v, rfl, q⟩ := q
  exact q
theorem st_callV0_iK {d : Nat} {mi y : pMI} {Q : pR → pM → Prop} {pc : Nat} {L : List (Option Value)} {S R : List Value} {c s : Nat} {M : pM} {ci k n a : Nat} (as : List Value) (hs : OpS mi pc (o_callV y ci k n)) (hS : S = as.reverse ++ .ref a :: R) (hl : as.length = k) (hK : pK M a = (1, ci)) (hr : psum R ≤ 8) (h : pCall_i d y (0, 0) (.ref a :: as) M (fun v M1 => Go d mi Q n (L, .int v :: R, c, s) (keepM M M1))) : Go d mi Q pc (L, S, c, s) M := st_callV_iK (res := (0, 0)) as hs hS hl hK hr (Nat.zero_le _) (Nat.zero_le _) h
theorem st_callV_lK {d : Nat} {mi y : pMI} {Q : pR → pM → Prop} {pc : Nat} {L : List (Option Value)} {S R : List Value} {c s : Nat} {M : pM} {ci k n a : Nat} {res : Nat × Nat} (as : List Value) (hs : OpS mi pc (o_callV y ci k n)) (hS : S = as.reverse ++ .ref a :: R) (hl : as.length = k) (hK : pK M a = (1, ci)) (hr : psum R ≤ 8) (h1 : res.1 ≤ c) (h2 : res.2 ≤ s) (h : pCall_l d y res (.ref a :: as) M (fun v M1 => Go d mi Q n (L, .long v :: R, c - res.1, s - res.2) (keepM M M1))) : Go d mi Q pc (L, S, c, s) M := by
  refine st_keep hs ⟨res, as, R, a, hS, hl, hK, hr, h1, h2, CP_q h (fun r M1 q => ?_)⟩
  obtain ⟨v, rfl, q⟩ := q
  exact q
theorem st_callV0_lK {d : Nat} {mi y : pMI} {Q : pR → pM → Prop} {pc : Nat} {L : List (Option Value)} {S R : List Value} {c s : Nat} {M : pM} {ci k n a : Nat} (as : List Value) (hs : OpS mi pc (o_callV y ci k n)) (hS : S = as.reverse ++ .ref a :: R) (hl : as.length = k) (hK : pK M a = (1, ci)) (hr : psum R ≤ 8) (h : pCall_l d y (0, 0) (.ref a :: as) M (fun v M1 => Go d mi Q n (L, .long v :: R, c, s) (keepM M M1))) : Go d mi Q pc (L, S, c, s) M := st_callV_lK (res := (0, 0)) as hs hS hl hK hr (Nat.zero_le _) (Nat.zero_le _) h
theorem st_callSt_iK {d : Nat} {mi y : pMI} {Q : pR → pM → Prop} {pc : Nat} {L : List (Option Value)} {S R : List Value} {c s : Nat} {M : pM} {k n i : Nat} (as : List Value) (hs : OpS mi pc (o_callSt y k n)) (hS : S = as.reverse ++ .ref (pBIG + i) :: R) (hl : as.length = k) (hi : i < 21) (hr : psum R ≤ 8) (h : pCall_i d y (0, 0) (.ref (pBIG + i) :: as) M (fun v M1 => Go d mi Q n (L, .int v :: R, c, s) (keepM M M1))) : Go d mi Q pc (L, S, c, s) M := by
  refine st_keep hs ⟨(0, 0), as, R, i, hS, hl, hi, hr, Nat.zero_le _, Nat.zero_le _, CP_q h (fun r M1 q => ?_)⟩
  obtain ⟨v, rfl, q⟩ := q
  exact q
theorem st_callSt_iE {d : Nat} {mi y : pMI} {Q : pR → pM → Prop} {pc : Nat} {L : List (Option Value)} {S R : List Value} {c s : Nat} {M : pM} {k n i a : Nat} (as : List Value) (hs : OpS mi pc (o_callSt y k n)) (hS : S = as.reverse ++ .ref a :: R) (hl : as.length = k) (ea : a = pBIG + i) (hi : i < 21) (hr : psum R ≤ 8) (h : pCall_i d y (0, 0) (.ref a :: as) M (fun v M1 => Go d mi Q n (L, .int v :: R, c, s) (keepM M M1))) : Go d mi Q pc (L, S, c, s) M := by
  subst ea
  exact st_callSt_iK as hs hS hl hi hr h
/-! THE LAW: what stands behind a call -/
def kpB (B C : pM) : pM := (fun x => if x = pSCR then B.1 x else C.1 x, C.2)
def kpI (I J : pIm) : pIm := fun x y => if x = pSCR then I x y else J x y
theorem keep_pset {B C : pM} {I J : pIm} (h : (pK B pSCR).1 = 5) : keepM (pset B I) (pset C J) = pset (kpB B C) (kpI I J) := keep_yes (M := pset B I) (M1 := pset C J) h
theorem kpB_k {B C : pM} {a : Nat} (h : a ≠ pSCR) : pK (kpB B C) a = pK C a := if_neg h
theorem kpB_s {B C : pM} : pK (kpB B C) pSCR = pK B pSCR := by
  show (if pSCR = pSCR then B.1 pSCR else C.1 pSCR) = B.1 pSCR
  rw [if_pos rfl]
theorem kpB_n {B C : pM} : pN (kpB B C) = pN C := rfl
theorem kpB_p {B C : pM} {a : Nat} : pP (kpB B C) a = pP C a := rfl
theorem kpI_o {I J : pIm} {a : Nat} (h : a ≠ pSCR) : kpI I J a = J a := funext (fun _ => if_neg h)
theorem kpI_s {I J : pIm} : kpI I J pSCR = I pSCR := funext (fun _ => if_pos rfl)
theorem lt_scr {a : Nat} (h : a < pBIG) : a ≠ pSCR := fun z => absurd (z ▸ h) (by decide)
theorem kpB_ex {B C : pM} (h : pN C ≤ pBIG) : Ex C (kpB B C) := ⟨Nat.le_refl _, fun a ha => ⟨kpB_k (lt_scr (Nat.lt_of_lt_of_le ha h)), rfl, rfl⟩⟩
theorem kpI_fr {I J : pIm} : Fr pSCR (pSCR + 1) J (kpI I J) := fun x hx => kpI_o (by omega)
