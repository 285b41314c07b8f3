/-! THE LAW: the reference's call, and what it threw -/
def refO (cd : String → Int32) (w : pR) (v t : Int32) : Prop := match w with
  | .inl x => t = 0 ∧ x = some (.int v)
  | .inr E => t = cd E
theorem law_ref {d : Nat} (hd : 1 ≤ d) {mr : pMI} {ar : List Value} {B C : pM} {I J : pIm} {p r q n td dr : Nat} {sc : Nat → Int32} {s s' : wS} {w : pR} {cd : String → Int32} {T : Int32 → Int32 → pM → Prop} (hk5 : (pK B pSCR).1 = 5) (he : (padS (kpB B C) p td dr ∧ padD (kpI I J) p td dr s') ∧ (∃ td dr, mdS (kpB B C) r td dr ∧ modD (kpI I J) r td s) ∧ pK (kpB B C) q = (3, 1) ∧ pK (kpB B C) pSCR = (5, n) ∧ (∀ j, kpI I J pSCR j = sc j) ∧ (p + 1145 ≤ r ∧ r + 36 ≤ q ∧ q < pN (kpB B C) ∧ pN (kpB B C) ≤ pBIG)) (hr : ∀ (B : pM) (I : pIm) (td dr : Nat) (K : Int32 → pM → Prop), mdS B r td dr → modD I r td s → modO B I r cd (w, s') K → pCall_i d mr (0, 0) ar (pset B I) K)
    (hT : ∀ (C2 : pM) (J2 : pIm) (v : Int32), lawI C2 J2 p r q n sc s' → pN C2 = pN C → pL C2 q = pL C q → refO cd w v (J2 r 0) → T v (J2 r 0) (pset C2 J2)) : pCall_i d mr (0, 0) ar (keepM (pset B I) (pset C J)) (fun v2 M2 => pK (keepM (keepM (pset B I) (pset C J)) M2) r = (1, 13) ∧ pCall_i d mX13_thrown (0, 0) [.ref r] (keepM (keepM (pset B I) (pset C J)) M2) (fun v3 M3 => T v2 v3 (keepM (keepM (keepM (pset B I) (pset C J)) M2) M3))) := by
  obtain ⟨⟨ps, pd⟩, ⟨tm, dm, ms, md⟩, e3, e4, e5, e6⟩ := he
  rw [keep_pset hk5]
  refine hr _ _ tm dm _ ms md (fun C2 J2 tm2 dm2 v hx2 ms2 md2 hf2 ho => ?_)
  obtain ⟨l1, l2⟩ := lawI.mod ps pd e3 e4 e5 e6 hx2 ms2 md2 hf2
  rw [l2]
  refine ⟨ms2.1, c_mthrown hd ms2.1 ?_⟩
  rw [keep_same ExR.rf (r := r) (by rw [l1.2.2.2.1]) rfl]
  refine hT C2 J2 v l1 hx2.1 (hx2.2 q).2.1 ?_
  cases w with
  | inl x => exact ho
  | inr E => exact ho
