/-! THE LAW: what stands behind a call of the reference -/
theorem keep_same {B C : pM} {I J : pIm} {r : Nat} (hx : ExR r B C) (hk : (pK B pSCR).1 = 5) (hJ : J pSCR = I pSCR) : keepM (pset B I) (pset C J) = pset C J := by
  rw [keep_pset hk]
  have e1 : kpB B C = C := by
    refine Prod.ext (funext (fun x => ?_)) rfl
    show (if x = pSCR then B.1 x else C.1 x) = C.1 x
    by_cases c : x = pSCR
    · rw [if_pos c]; exact ((hx.2 x).1).symm
    · rw [if_neg c]
  have e2 : kpI I J = J := by
    funext x
    by_cases c : x = pSCR
    · rw [c, kpI_s, hJ]
    · exact kpI_o c
  rw [e1, e2]
theorem padS.exr {B C : pM} {p r td dr : Nat} (h : padS B p td dr) (hx : ExR r B C) (hr : p + 1145 ≤ r) : padS C p td dr := by
  have hN : p + 1145 ≤ pN B := h.2.2.2.2.2.2.2.2.2.2
  have h0 : padS (B.1, B.2.1, B.2.2.1, B.2.2.2.1, p + 1145) p td dr := ⟨h.1, h.2.1, h.2.2.1, h.2.2.2.1, h.2.2.2.2.1, h.2.2.2.2.2.1, h.2.2.2.2.2.2.1, h.2.2.2.2.2.2.2.1, h.2.2.2.2.2.2.2.2.1, h.2.2.2.2.2.2.2.2.2.1, Nat.le_refl _⟩
  have e : Ex (B.1, B.2.1, B.2.2.1, B.2.2.2.1, p + 1145) C := by
    refine ⟨?_, fun a ha => ⟨(hx.2 a).1, (hx.2 a).2.2 (fun z => ?_), (hx.2 a).2.1⟩⟩
    · show p + 1145 ≤ pN C
      rw [hx.1]; exact hN
    · have ha' : a < p + 1145 := ha
      omega
  exact h0.ex e
theorem lawI.mod {B C : pM} {I J : pIm} {p r q n td dr tm dm : Nat} {sc : Nat → Int32} {s' : wS} (hs : padS B p td dr) (hd : padD I p td dr s') (hq : pK B q = (3, 1)) (h4 : pK B pSCR = (5, n)) (h5 : ∀ j, I pSCR j = sc j) (h6 : p + 1145 ≤ r ∧ r + 36 ≤ q ∧ q < pN B ∧ pN B ≤ pBIG) (hx : ExR r B C) (hm : mdS C r tm dm) (hl : modD J r tm s') (hf : ∀ x, (x < r ∨ r + 36 ≤ x) → J x = I x) : lawI C J p r q n sc s' ∧ keepM (pset B I) (pset C J) = pset C J := by
  have hJ : J pSCR = I pSCR := hf pSCR (Or.inr (by
    have e : pBIG + 1000 = pSCR := by decide
    clear hs hd hq h4 hm hl
    omega))
  refine ⟨⟨⟨td, dr, hs.exr hx h6.1, hd.f hs.2.2.2.2.2.2.2.2.2.1 (lo := r) (hi := r + 36) (fun x y => hf x y) (Or.inr h6.1)⟩, ⟨tm, dm, hm, hl⟩, (hx.2 q).1.trans hq, (hx.2 pSCR).1.trans h4, fun j => by rw [hJ]; exact h5 j, h6.1, h6.2.1, ?_, ?_⟩, keep_same hx (by rw [h4]) hJ⟩
  · rw [hx.1]; exact h6.2.2.1
  · rw [hx.1]; exact h6.2.2.2
