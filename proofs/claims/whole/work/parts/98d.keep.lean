/-! THE SCRIPT STAYS -/
/-- M1, with what M knows of the script -/
def keepM (M M1 : pM) : pM := if (pK M pSCR).1 = 5 then (fun x => if x = pSCR then M.1 x else M1.1 x, fun x y => if x = pSCR then M.2.1 x y else M1.2.1 x y, M1.2.2) else M1
theorem keep_no {M M1 : pM} (h : ¬ (pK M pSCR).1 = 5) : keepM M M1 = M1 := if_neg h
theorem keep_yes {M M1 : pM} (h : (pK M pSCR).1 = 5) : keepM M M1 = (fun x => if x = pSCR then M.1 x else M1.1 x, fun x y => if x = pSCR then M.2.1 x y else M1.2.1 x y, M1.2.2) := if_pos h
theorem keep_n {M M1 : pM} : pN (keepM M M1) = pN M1 := by
  by_cases h : (pK M pSCR).1 = 5
  · rw [keep_yes h]; rfl
  · rw [keep_no h]
theorem keep_k {M M1 : pM} {a : Nat} (h : a ≠ pSCR) : pK (keepM M M1) a = pK M1 a := by
  by_cases g : (pK M pSCR).1 = 5
  · rw [keep_yes g]
    exact if_neg h
  · rw [keep_no g]
theorem keep_i {M M1 : pM} {a : Nat} (h : a ≠ pSCR) : pI (keepM M M1) a = pI M1 a := by
  by_cases g : (pK M pSCR).1 = 5
  · rw [keep_yes g]
    funext y
    exact if_neg h
  · rw [keep_no g]
theorem keep_l {M M1 : pM} {a : Nat} : pL (keepM M M1) a = pL M1 a := by
  by_cases g : (pK M pSCR).1 = 5
  · rw [keep_yes g]; rfl
  · rw [keep_no g]
theorem keep_p {M M1 : pM} {a : Nat} : pP (keepM M M1) a = pP M1 a := by
  by_cases g : (pK M pSCR).1 = 5
  · rw [keep_yes g]; rfl
  · rw [keep_no g]
theorem keep_ks {M M1 : pM} (h : (pK M pSCR).1 = 5) : pK (keepM M M1) pSCR = pK M pSCR ∧ pI (keepM M M1) pSCR = pI M pSCR := by
  rw [keep_yes h]
  refine ⟨?_, funext (fun y => ?_)⟩
  · show (if pSCR = pSCR then M.1 pSCR else M1.1 pSCR) = M.1 pSCR
    rw [if_pos rfl]
  · show (if pSCR = pSCR then M.2.1 pSCR y else M1.2.1 pSCR y) = M.2.1 pSCR y
    rw [if_pos rfl]
theorem keep_rel {w : pW} {M M1 : pM} {H H1 : Heap} (h : pRel w M H) (h1 : pRel w M1 H1) (hl : ∀ q, q < pB w → H1[q]? = H[q]?) : pRel w (keepM M M1) H1 := by
  by_cases g : (pK M pSCR).1 = 5
  · obtain ⟨g1, g2⟩ := keep_ks (M1 := M1) g
    obtain ⟨a1, a2, a3, a4, a5, a6, a7, a8⟩ := h1
    have ne : ∀ a k, (pK (keepM M M1) a) = k → k.1 ≠ 5 → a ≠ pSCR := fun a k e hk z => by
      rw [z, g1] at e
      rw [e] at g
      exact hk g
    refine ⟨by rw [keep_n]; exact a1, by rw [keep_n]; exact a2, fun a ha => ?_, fun a ci hk => ?_, fun a n hk => ?_, fun a n hk => ?_, fun a n hk => ?_, fun a n hk => ?_⟩
    · by_cases c : a = pSCR
      · rw [c, g1]; exact Or.inr g
      · rw [keep_k c]
        rw [keep_n] at ha
        exact a3 a ha
    · have c := ne a _ hk (show (1 : Nat) ≠ 5 by decide)
      rw [keep_k c] at hk
      have q := a4 a ci hk
      unfold pObj at q ⊢
      have e : (fun k => pfv w (keepM M M1) a ci k) = fun k => pfv w M1 a ci k := by
        funext k
        unfold pfv
        rw [keep_i c, keep_p]
      rw [e]
      exact q
    · have c := ne a _ hk (show (2 : Nat) ≠ 5 by decide)
      rw [keep_k c] at hk
      rw [keep_i c]
      exact a5 a n hk
    · have c := ne a _ hk (show (3 : Nat) ≠ 5 by decide)
      rw [keep_k c] at hk
      rw [keep_l]
      exact a6 a n hk
    · have c := ne a _ hk (show (4 : Nat) ≠ 5 by decide)
      rw [keep_k c] at hk
      rw [keep_p]
      exact a7 a n hk
    · by_cases c : a = pSCR
      · refine ⟨c, ?_⟩
        rw [c, g1] at hk
        obtain ⟨-, s1, scr, s2, s3, s4, s5, s6⟩ := h.2.2.2.2.2.2.2 pSCR n hk
        exact ⟨s1, scr, by rw [hl _ s1]; exact s2, s3, s4, s5, by rw [g2]; exact s6⟩
      · rw [keep_k c] at hk
        exact absurd (a8 a n hk).1 c
  · rw [keep_no g]
    exact h1
def o_keep (op : pOp) : pOp := fun C X Q f M => pCm C ∧ op C (fun pc f' M1 => X pc f' (keepM M M1)) Q f M
theorem OpS.keep {mi : pMI} {pc : Nat} {op : pOp} (h : OpS mi pc op) : OpS mi pc (o_keep op) := by
  refine ⟨fun C C' X X' Q Q' f M hC hC' hCC hX hQ g => ⟨hC', h.1 C C' _ _ Q Q' f M hC hC' hCC (fun pc f' M1 q => hX _ _ _ q) hQ g.2⟩, fun w hw d C hC p e R s m args below meth c Z Q A f M g => ?_⟩
  intro H locs cells slots ls hH hL hc hs hS
  have hsz := A.2.2.2.2.2.2.2.2.2.2.2.2.1
  refine h.2 w hw d C hC p e R s m args below meth c Z Q A f M (h.1 C C _ _ Q Q f M g.1 g.1 (fun _ _ _ _ _ x => x) (fun pc f' M1 q => ?_) (fun _ _ x => x) g.2) H locs cells slots ls hH hL hc hs hS
  intro H1 locs1 cells1 slots1 ls1 h1 hL1 hc1 hs1 hS1
  refine q H1 locs1 cells1 slots1 ls1 (keep_rel hH h1 (fun x hx => ?_)) hL1 hc1 hs1 hS1
  rw [hS1.2.1 x (Nat.lt_of_lt_of_le hx hsz) (Nat.not_le.mpr hx), hS.2.1 x (Nat.lt_of_lt_of_le hx hsz) (Nat.not_le.mpr hx)]
theorem st_keep {d : Nat} {mi : pMI} {Q : pR → pM → Prop} {pc : Nat} {op : pOp} {f : pF} {M : pM} (hs : OpS mi pc op) (h : op (CP d) (fun pc f' M1 => Go d mi Q pc f' (keepM M M1)) Q f M) : Go d mi Q pc f M := st hs.keep ⟨CP_m d, h⟩
