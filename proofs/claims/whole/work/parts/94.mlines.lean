/-! THE REFERENCE'S PARSER: the lines of a text -/
theorem kdR_0 {kd so va nu : Int32} (h : kdR kd so va nu) : so = 0 ↔ kd = 24 := by
  have l19 : ∀ k, k < 19 → nI k ≠ 24 := fun k hk z => by
    have := (nI_eq (b := 24) (by omega) (by omega)).mp z
    omega
  rcases h with ⟨h1, h2⟩ | ⟨h1, h2⟩ | ⟨h1, h2⟩ | ⟨h1, h2, -⟩ | ⟨h1, h2, -⟩ | ⟨h1, h2, -⟩ | ⟨k, hk, h1, h2, -⟩ | ⟨h1, h2, -⟩
  · exact ⟨fun _ => h1, fun _ => h2⟩
  · rw [h1, h2]; decide
  · rw [h1, h2]; decide
  · rw [h1, h2]; decide
  · rw [h1, h2]; decide
  · rw [h1, h2]; decide
  · rw [h1, h2]; exact ⟨fun z => absurd z (by decide), fun z => absurd z (l19 k hk)⟩
  · rw [h2]
    refine ⟨fun z => absurd z (by decide), fun z => ?_⟩
    rw [z] at h1
    exact absurd h1 (by unfold sgn; decide)
theorem v_line {B : pM} {r td dr n0 a nn tx d : Nat} {tp : List Int32} {t : tK} {b0 : bK} {I : pIm} {er et : Int32} {NT NW : List Nat} {nr nb : Nat} {L : List (List (Int32 × Int32) × List (Int32 × Int32))} {ok : Bool} {a1 n : Nat} {l : List (List (Int32 × Int32) × List (Int32 × Int32))} {K : pM → Prop} (hd : 101 ≤ d) (hv : lSx B r td dr tp t n0 b0 I a nn tx er et NT NW nr nb) (hS : (sF t tp b0 a).1 = 0 → lSem t tp b0 I dr (sF t tp b0 a).2.2.1 NT NW nr nb nn tx L) (h : gLn (kfT t) (nmT tp t) n a = some (ok, a1, l))
    (h1 : ok = true → kfT t a1 = 59 → ∀ (J : pIm) (nn tx : Nat) (er et : Int32) (NT NW : List Nat) (nr nb : Nat), FrX r dr I J → lSx B r td dr tp t n0 b0 J (a1 + 1) nn tx er et NT NW nr nb → ((sF t tp b0 (a1 + 1)).1 = 0 → lSem t tp b0 J dr (sF t tp b0 (a1 + 1)).2.2.1 NT NW nr nb nn tx (L ++ l)) → K (pset B J))
    (h0 : (ok = false ∨ kfT t a1 ≠ 59) → ∀ J : pIm, FrX r dr I J → J r 14 = nI a1 → a1 ≤ 400 → K (pset B J)) : pCall_v d mX13_line (0, 0) [.ref r] (pset B I) K := by
  have hq := hv.1.1
  have hy := hq.lay
  have hne : dr ≠ r := by omega
  have h400 := hv.1.2.2.2.2.2.1
  obtain ⟨hE, pt, -⟩ := id hv
  obtain ⟨t1, t2, t3, t4, t5, t6, t7, t8, t9, t10, t11⟩ := id pt
  have dead : ∀ J : pIm, FrX r dr I J → J r 14 = nI a1 → a1 ≤ 400 → (ok = false ∨ kfT t a1 ≠ 59) → Go (d - 1) mX13_line (fun r M1 => r = .inl none ∧ K M1) 68 ([some (.ref r)], [], 0, 0) (pset B J) := fun J F h14 hf ho => bX13_line_68 ⟨hq.1, c_mtake0 (by omega) hq.1 (by rw [h14]; exact fun z => nI_pos (n := a1) (by omega) (by rw [z]; decide)) ⟨rfl, h0 ho J F h14 hf⟩⟩
  have tl : lOut B r td dr tp t n0 b0 I L ok a1 l (fun M => Go (d - 1) mX13_line (fun r M1 => r = .inl none ∧ K M1) 68 ([some (.ref r)], [], 0, 0) M) := by
    cases ok with
    | false => exact fun J F h14 hf => dead J F h14 hf (Or.inl rfl)
    | true =>
      intro J nn2 tx2 er2 et2 NT2 NW2 nr2 nb2 F hv2 hS2
      obtain ⟨hE2, pt2, -⟩ := id hv2
      obtain ⟨y1, y2, y3, y4, y5, y6, y7, y8, y9, y10, y11⟩ := id pt2
      refine bX13_line_68 ⟨hq.1, c_mtakeS (by omega) hE2 y8 y1 y3 (Or.inl (by unfold sgn; decide)) (fun k59 => ⟨rfl, ?_⟩) (fun k59 => ⟨rfl, ?_⟩)⟩
      · have k59' : kfT t a1 = 59 := k59
        obtain ⟨hv3, F3, sm3, hlt3⟩ := hv2.skip (by rw [k59']; decide) (by rw [k59']; decide) (by rw [k59']; decide) (by rw [k59']; decide)
        exact h1 rfl k59' _ nn2 tx2 er2 et2 NT2 NW2 nr2 nb2 (F.tr F3) hv3 (fun z => (hS2 (sm3 z).1).cg (fun x x1 x2 => u2_a (by omega)) (sm3 z).2)
      · have k59' : kfT t a1 ≠ 59 := k59
        exact h0 (Or.inr k59') _ (F.tr (FrV.u hne (by omega)).x) u2_same (by omega)
  unfold gLn at h
  refine CP_go (by omega) okX13_line (Nat.le_of_ble_eq_true rfl) (bX13_line_0 ⟨hq.1, c_misK (by omega) 0 hE t8 t1 t3 (by decide) rfl (fun k0 => ⟨fun z => absurd z (by decide), fun _ => ⟨hq.1, ?_⟩⟩) (fun k0 => ⟨fun _ => ⟨hq.1, ?_⟩, fun z => absurd rfl z⟩)⟩)
  · rw [if_pos k0] at h
    exact v_tag (by omega) hv hS k0 h tl
  rw [if_neg k0] at h
  refine c_misK (by omega) 1 hE t8 t1 t3 (by decide) rfl (fun k1 => ⟨fun z => absurd z (by decide), fun _ => ⟨hq.1, ?_⟩⟩) (fun k1 => ⟨fun _ => ⟨hq.1, ?_⟩, fun z => absurd rfl z⟩)
  · rw [if_pos k1] at h
    exact v_word (by omega) hv hS k1 h tl
  rw [if_neg k1] at h
  refine c_misK (by omega) 4 hE t8 t1 t3 (by decide) rfl (fun k4 => ⟨fun z => absurd z (by decide), fun _ => ⟨hq.1, ?_⟩⟩) (fun k4 => ⟨fun _ => ⟨hq.1, ?_⟩, fun z => absurd rfl z⟩)
  · rw [if_pos k4] at h
    exact v_keys (by omega) hv hS k4 h tl
  rw [if_neg k4] at h
  refine c_misK (by omega) 5 hE t8 t1 t3 (by decide) rfl (fun k5 => ⟨fun z => absurd z (by decide), fun _ => ⟨hq.1, ?_⟩⟩) (fun k5 => ⟨fun _ => ⟨hq.1, ?_⟩, fun z => absurd rfl z⟩)
  · exact v_boost (by omega) hv hS k5 h tl
  · unfold gBoost at h
    rw [if_neg k5] at h
    cases Option.some.inj h
    refine c_mfail1 (by omega) hq.1 t3 ?_
    rw [t1]
    exact dead _ (FrV.u hne (by omega)).x u2_same (by omega) (Or.inl rfl)
theorem v_lines {B : pM} {r td dr n0 d : Nat} {tp : List Int32} {t : tK} {b0 : bK} {I0 : pIm} {Q : pR → pM → Prop} (hd : 101 ≤ d) : ∀ (n a : Nat) (I : pIm) (nn tx : Nat) (er et : Int32) (NT NW : List Nat) (nr nb : Nat) (L : List (List (Int32 × Int32) × List (Int32 × Int32))) (ok : Bool) (a' : Nat) (l : List (List (Int32 × Int32) × List (Int32 × Int32))), FrX r dr I0 I → lSx B r td dr tp t n0 b0 I a nn tx er et NT NW nr nb → ((sF t tp b0 a).1 = 0 → lSem t tp b0 I dr (sF t tp b0 a).2.2.1 NT NW nr nb nn tx L) → gRd (kfT t) (nmT tp t) n a = some (ok, a', l) →
    (ok = true → kfT t a' = 24 → ∀ (J : pIm) (nn tx : Nat) (er et : Int32) (NT NW : List Nat) (nr nb : Nat), FrX r dr I0 J → lSx B r td dr tp t n0 b0 J a' nn tx er et NT NW nr nb → ((sF t tp b0 a').1 = 0 → lSem t tp b0 J dr (sF t tp b0 a').2.2.1 NT NW nr nb nn tx (L ++ l)) → Go d mX13_teach Q 62 ([some (.ref r), none, none], [], 0, 0) (pset B J)) →
    (ok = false → ∀ J : pIm, FrX r dr I0 J → J r 14 = nI a' → a' ≤ 400 → Go d mX13_teach Q 62 ([some (.ref r), none, none], [], 0, 0) (pset B J)) → Go d mX13_teach Q 36 ([some (.ref r), none, none], [], 0, 0) (pset B I) := by
  intro n
  induction n with
  | zero => intro a I nn tx er et NT NW nr nb L ok a' l F hv hS h h1 h0; exact nomatch h
  | succ n ih =>
    intro a I nn tx er et NT NW nr nb L ok a' l F hv hS h h1 h0
    have hq := hv.1.1
    have hy := hq.lay
    have h400 := hv.1.2.2.2.2.2.1
    obtain ⟨hE, pt, -⟩ := id hv
    obtain ⟨t1, t2, t3, t4, t5, t6, t7, t8, t9, t10, t11⟩ := id pt
    rw [gRd] at h
    have e12 : pI (pset B I) r 12 = nI a := t1
    have K2 := hq.2.2.2.1.2.1
    have p4 := hq.2.1.2.1
    have ek : pI (pset B I) (r + 2) a = 0 ↔ kfT t a = 24 := kdR_0 (kd_at hE t8)
    have dead : ∀ J : pIm, FrX r dr I0 J → ∀ f, J r 14 = nI f → f ≤ 400 → ok = false → a' = f → Go d mX13_teach Q 36 ([some (.ref r), none, none], [], 0, 0) (pset B J) := by
      intro J FJ f h14 hf eo ea
      subst ea
      exact bX13_teach_36 ⟨hq.1, c_misOk0 (by omega) hq.1 (by rw [h14]; exact fun z => nI_pos (n := a') (by omega) (by rw [z]; decide)) ⟨fun _ => h0 eo J FJ h14 hf, fun z => absurd rfl z⟩⟩
    refine bX13_teach_36 ⟨hq.1, c_misOk1 (by omega) hq.1 t3 ⟨fun z => absurd z (by decide), fun _ => ⟨hq.1, r + 2, p4, hq.1, 402, K2, ?_⟩⟩⟩
    rw [e12, nI_clamp (show a < 2 ^ 31 by omega)]
    refine ⟨vp_inN (by omega) (by omega), fun g => ?_, fun g => ⟨hq.1, ?_⟩⟩
    · have k24 := ek.mp g
      rw [if_pos k24] at h
      cases Option.some.inj h
      exact h1 rfl k24 I nn tx er et NT NW nr nb F hv (fun z => by rw [List.append_nil]; exact hS z)
    · have k24 : ¬ kfT t a = 24 := fun z => g (ek.mpr z)
      rw [if_neg k24] at h
      rcases gBL_some h with ⟨a1, s1, hg, hx⟩ | ⟨a1, s1, hg, hx⟩
      · cases hx
        exact v_line (by omega) hv hS hg (fun z => nomatch z) (fun _ J FJ h14 hf => dead J (F.tr FJ) _ h14 hf rfl rfl)
      · refine v_line (by omega) hv hS hg (fun _ k59 J nn2 tx2 er2 et2 NT2 NW2 nr2 nb2 FJ hv2 hS2 => ?_) (fun ho J FJ h14 hf => ?_)
        · rw [if_pos k59] at hx
          rcases gBL_some hx with ⟨a2, s2, hg2, hx2⟩ | ⟨a2, s2, hg2, hx2⟩
          · cases hx2
            exact ih (a1 + 1) J nn2 tx2 er2 et2 NT2 NW2 nr2 nb2 (L ++ s1) false a' s2 (F.tr FJ) hv2 hS2 hg2 (fun z => nomatch z) h0
          · cases Option.some.inj hx2
            exact ih (a1 + 1) J nn2 tx2 er2 et2 NT2 NW2 nr2 nb2 (L ++ s1) true a' s2 (F.tr FJ) hv2 hS2 hg2 (fun _ k J' nn' tx' er' et' NT' NW' nr' nb' F' hv' hS' => h1 rfl k J' nn' tx' er' et' NT' NW' nr' nb' F' hv' (fun z => by rw [← List.append_assoc]; exact hS' z)) (fun z => nomatch z)
        · have k59 : ¬ kfT t a1 = 59 := ho.resolve_left (fun z => nomatch z)
          rw [if_neg k59] at hx
          cases Option.some.inj hx
          exact dead J (F.tr FJ) _ h14 hf rfl rfl
