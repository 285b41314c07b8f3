/-! THE LAW: a helper's call, then the reference's -/
theorem c_Lcount {d : Nat} (hd : 8 ≤ d) {B : pM} {I : pIm} {p r q n : Nat} {sc : Nat → Int32} {s : wS} {k : Int32} {K : Int32 → pM → Prop} (hI : lawI B I p r q n sc s) (hb : pN B < pBIG) (hK : ∀ (C : pM) (J : pIm) (td dr : Nat), ExP p B C → pN C ≤ pN B + 1 → padS C p td dr → padD J p td dr (countO s k).2 → (∀ x, (x < p ∨ p + 1145 ≤ x) → x < pN B → J x = I x) → (∀ v, (countO s k).1 = rI v → K 0 (pset (psL C q 0 (Int32.toInt64 v)) J)) ∧ ∀ E, (countO s k).1 = .inr E → E = "java/lang/IndexOutOfBoundsException" ∧ K 1 (pset C J)) : pCall_i d mL_count (1, 6) [.ref p, .int k, .ref q] (pset B I) K := by
  obtain ⟨⟨td, dr, h1, h2⟩, -, h3, -, -, -, -, h8, -⟩ := id hI
  refine CP_go (by omega) okL_count (Nat.le_of_ble_eq_true rfl) (bL_count_0 ⟨h1.1, (1, 6), Nat.le_refl _, Nat.le_refl _, ?_⟩)
  refine pad_x (p := p) (w := (countO s k).1) (s' := (countO s k).2) (fun Q hp => o_count (by omega) h1 h2 hb hp) ?_ (fun C J td2 dr2 hx hn hs hd2 hf => ⟨fun v hv => ?_, fun E hE => ?_⟩)
  · unfold countO
    split
    · exact fun z => nomatch z
    · split
      · exact fun z => nomatch z
      · exact fun z => nomatch z
  · have hk := hK C J td2 dr2 hx hn hs hd2 hf
    have hv2 : ∃ x, v = .int x := by
      unfold countO at hv
      split at hv
      · exact nomatch hv
      · split at hv
        · exact ⟨_, (Option.some.inj (Sum.inl.inj hv)).symm⟩
        · exact nomatch hv
    obtain ⟨x, rfl⟩ := hv2
    exact ⟨x, rfl, 1, (hx.2 q h8).1.trans h3, vp_inN (j := 0) (n := 1) (by decide) (by decide), 0, rfl, hk.1 x hv⟩
  · have hk := hK C J td2 dr2 hx hn hs hd2 hf
    obtain ⟨e, h⟩ := hk.2 E hE
    exact ⟨e, 1, rfl, h⟩
