/-! THE LAW: a call of the pad that may throw -/
theorem pad_x {d : Nat} {mp : pMI} {rs : Nat × Nat} {as : List Value} {B : pM} {I : pIm} {p : Nat} {w : pR} {s' : wS} {K : Value → pM → Prop} {KX : String → pM → Prop} (hp : ∀ Q : pR → pM → Prop, padO B I p (w, s') Q → CP d mp rs as (pset B I) Q) (hw : w ≠ .inl none) (hK : ∀ (C : pM) (J : pIm) (td dr : Nat), ExP p B C → pN C ≤ pN B + 1 → padS C p td dr → padD J p td dr s' → (∀ x, (x < p ∨ p + 1145 ≤ x) → x < pN B → J x = I x) → (∀ v, w = .inl (some v) → K v (pset C J)) ∧ ∀ E, w = .inr E → KX E (pset C J)) : pCall_x d mp rs as (pset B I) K KX := by
  refine hp _ (fun C J td dr h1 h2 h3 h4 h5 => ?_)
  obtain ⟨k1, k2⟩ := hK C J td dr h1 h2 h3 h4 h5
  cases w with
  | inl x =>
    cases x with
    | none => exact absurd rfl hw
    | some v => exact Or.inl ⟨v, rfl, k1 v rfl⟩
  | inr E => exact Or.inr ⟨E, rfl, k2 E rfl⟩
theorem psL_pset {B : pM} {I : pIm} {a j : Nat} {v : Int64} : psL (pset B I) a j v = pset (psL B a j v) I := rfl
