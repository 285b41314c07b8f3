/-! THE REFERENCE'S PARSER: tests -/
theorem v_single {B : pM} {r td dr : Nat} {tp : List Int32} {t : tK} {n0 : Nat} {b0 : bK} {N : List Nat} {n : Nat} (hone : vM B r td dr tp t n0 b0 N mX13_single 7 2 true n) (htest : vM B r td dr tp t n0 b0 N mX13_test 9 0 true n) : vM B r td dr tp t n0 b0 N mX13_single 7 2 true (n + 1) := by
  intro a dd ok a' s I er et nn tx d K h hv hp hd ho
  have hq := hv.1.1
  have hy := hq.lay
  have hyd : dr = r + 6 ∨ dr = r + 17 := by omega
  have hne : dr ≠ r := by omega
  have sb := hq.2.2.2.2.2.1
  have hkm := hv.1.2.2.2.2.2.2.1
  have h400 := hv.1.2.2.2.2.2.1
  obtain ⟨t1, t2, t3, t4, t5, t6, t7, t8, t9, t10, t11⟩ := id hv.2.1
  have e12 : pI (pset B I) r 12 = nI a := t1
  have p5 := hq.2.1.2.2.1
  have p9 := hq.2.1.2.2.2.2.2.2
  have K3 := hq.2.2.2.1.2.2.1
  have bD : 10 ≤ 10 * (9 - dd) := by omega
  have bS : dd < 8 → 10 * (9 - (dd + 1)) + 10 = 10 * (9 - dd) := fun z => by omega
  refine CP_go (by omega) okX13_single (Nat.le_of_ble_eq_true rfl) ?_
  have dA : 10 * (9 - dd) + 6 ≤ d - 1 := by omega
  generalize d - 1 = e at dA
  clear hd
  have d2 : 2 ≤ e := by omega
  have kD : ∀ (k : Nat) (x : Int32) {K2 : Int32 → pM → Prop}, k < 19 → x = nI k → (kfT t a = x → K2 1 (pset B I)) → (kfT t a ≠ x → K2 0 (pset B I)) → pCall_i e mX13_is (0, 0) [.ref r, .int 2, .int x] (pset B I) K2 := fun k x K2 hk hx h1 h0 => c_misK d2 k hv.1 t8 t1 t3 hk hx h1 h0
  have sD : ∀ (x : Int32) {K2 : Int32 → pM → Prop}, sgn x → cmpK x = x → (kfT t a = x → K2 1 (pset B I)) → (kfT t a ≠ x → K2 0 (pset B I)) → pCall_i e mX13_is (0, 0) [.ref r, .int 4, .int x] (pset B I) K2 := fun x K2 hx hc h1 h0 => c_misS d2 hv.1 t8 t1 t3 (Or.inl hx) (fun z => h1 (z.trans hc)) (fun z => h0 (fun y => z (y.trans hc.symm)))
  rw [gP] at h
  refine bX13_single_0 ⟨hq.1, kD 14 14 (by decide) rfl (fun k14 => ⟨fun y => absurd y (by decide), fun _ => ⟨hq.1, ?_⟩⟩) (fun z14 => ⟨fun _ => ⟨hq.1, ?_⟩, fun y => absurd rfl y⟩)⟩
  · -- not
    rw [if_neg (by rw [k14]; decide), if_pos k14] at h
    refine c_mdeep (by omega) hq.1 t1 t2 t3 t11 (fun hdd => ⟨hq.1, hq.1, hq.1, dr, p9, hq.1, ?_⟩) (fun hdd => ⟨hq.1, hq.1, hq.1, dr, p9, hq.1, ?_⟩)
    · rw [if_pos hdd] at h
      obtain ⟨hv3, f3, p3, sm3, hlt3⟩ := v_in hv hdd (by rw [k14]; decide) (by rw [k14]; decide) (by rw [k14]; decide) (by rw [k14]; decide)
      have hb := bS hdd
      have e6 : pI (pset B (u2 I r 13 (nI (dd + 1)))) r 12 = nI a := by
        show u2 I r 13 _ r 12 = _
        rw [u2_j (by decide)]; exact t1
      rw [e6, nI_1, psI_set]
      rcases gB_some h with ⟨a1, s1, eg, hx'⟩ | ⟨a1, s1, eg, h2⟩
      · cases hx'
        have m1 : a + 1 ≤ a' := (gP_m hkm _ _ _ _ _ eg).1
        refine hone (a + 1) (dd + 1) false a' s1 _ er et nn tx e _ eg hv3 ⟨by omega, by rw [Nat.add_sub_cancel, k14]; decide⟩ (by omega) ?_
        intro J v nn' q1 q2 q3
        have q2' := q2.2.1
        refine ⟨sb.1, c_mnode (by omega) sb q2.2.2 (by omega) ⟨hq.1, hq.1, _, rfl, ?_⟩⟩
        rw [psI_set]
        exact ho _ _ (nn' + 1) (((f3.tr q1).tr (nodeJ_fr (r := r) (tx := 0) hyd).1).tr (FrV.u hne (by omega))) ((q2.node hyd).u hne (by decide)) (by omega)
      · have m1 : a + 1 ≤ a1 := (gP_m hkm _ _ _ _ _ eg).1
        cases Option.some.inj h2
        refine hone (a + 1) (dd + 1) true a' s1 _ er et nn tx e _ eg hv3 ⟨by omega, by rw [Nat.add_sub_cancel, k14]; decide⟩ (by omega) ?_
        intro J m nn1 tx1 er1 et1 q1 q2 q3 q4 q5 q6 q7 q8 q9 q10
        obtain ⟨w1, w2, w3, w4, w5, w6, w7, w8, w9, w10, w11⟩ := id q3
        refine ⟨sb.1, c_mnode (by omega) sb w6 (by omega) ⟨hq.1, hq.1, _, rfl, ?_⟩⟩
        obtain ⟨F8, P8, g1, g2, g3, -⟩ := nodeJ_fr (J := J) (r := r) (nn := nn1) (tx := tx1) (x := 14) (y := nI m) (z := 0) hyd
        have q3' : pT (nodeJ J dr nn1 14 (nI m) 0) r dr tp t n0 a' (dd + 1) er1 et1 (nn1 + 1) tx1 := q3.node hyd (by omega)
        have hv4 := (hv3.next q1 q3 q7 q8).next F8 q3' q7 smT.rf
        obtain ⟨hv5, f5, p5'⟩ := hv4.dep (dd' := dd) (by omega)
        have e7 : pI (pset B (nodeJ J dr nn1 14 (nI m) 0)) r 13 = nI (dd + 1) := q3'.2.1
        have e8 : psI (pset B (nodeJ J dr nn1 14 (nI m) 0)) r 13 (pI (pset B (nodeJ J dr nn1 14 (nI m) 0)) r 13 - 1) = pset B (u2 (nodeJ J dr nn1 14 (nI m) 0) r 13 (nI dd)) := by rw [e7, nI_pred, psI_set]
        show K (nI nn1) (psI (pset B (nodeJ J dr nn1 14 (nI m) 0)) r 13 (pI (pset B (nodeJ J dr nn1 14 (nI m) 0)) r 13 - 1))
        rw [e8]
        refine ho _ nn1 (nn1 + 1) tx1 er1 et1 (((f3.tr q1).tr F8).tr f5) (((p3.tr q2 (Nat.le_refl _) (Nat.le_refl _)).tr P8 q4 q5).tr p5' (by omega) q5) hv5.2.1 (by omega) q5 (by omega) q7 (sm3.tr q8) (by omega) (fun z => ?_)
        have L1 := (q10 z).up (P8.tr p5' (by omega) (Nat.le_refl _)) (show nn1 ≤ nn1 + 1 by omega) (Nat.le_refl _) (Nat.le_refl _) (show ([] ++ s1 : List (Int32 × Int32)).length ≤ s1.length by simp)
        rw [List.nil_append, List.map_append, List.length_append]
        refine ⟨by omega, Or.inr (Or.inr (Or.inl ⟨?_, m, _, ?_, L1, rfl⟩))⟩
        · show u2 (nodeJ J dr nn1 14 (nI m) 0) r 13 (nI dd) (dr + 7) nn1 = 14
          rw [u2_a (by omega)]; exact g1
        · show u2 (nodeJ J dr nn1 14 (nI m) 0) r 13 (nI dd) (dr + 8) nn1 = nI m
          rw [u2_a (by omega)]; exact g2
    · rw [if_neg hdd] at h
      cases Option.some.inj h
      rw [psI_set]
      have d1 := v_deep hv (pI (pset B (u2 (u2 I r 14 (nI a)) r 13 (nI (dd + 1)))) r 12 + 1)
      refine c_msingle0 (by omega) hq.1 d1.2.no ⟨sb.1, c_mnode (by omega) sb d1.2.2.2 (by omega) ⟨hq.1, hq.1, _, rfl, ?_⟩⟩
      rw [psI_set]
      exact ho _ _ (nn + 1) ((d1.1.tr (nodeJ_fr (r := r) (tx := 0) hyd).1).tr (FrV.u hne (by omega))) ((d1.2.node hyd).u hne (by decide)) (by omega)
  refine sD 91 (by unfold sgn; decide) (by decide) (fun k91 => ⟨fun y => absurd y (by decide), fun _ => ⟨hq.1, ?_⟩⟩) (fun z91 => ⟨fun _ => ⟨hq.1, ?_⟩, fun y => absurd rfl y⟩)
  · -- in brackets
    rw [if_neg (by rw [k91]; decide), if_neg (by rw [k91]; decide), if_pos k91] at h
    refine c_mdeep (by omega) hq.1 t1 t2 t3 t11 (fun hdd => ⟨hq.1, hq.1, hq.1, ?_⟩) (fun hdd => ⟨hq.1, hq.1, hq.1, ?_⟩)
    · rw [if_pos hdd] at h
      obtain ⟨hv3, f3, p3, sm3, hlt3⟩ := v_in hv hdd (by rw [k91]; decide) (by rw [k91]; decide) (by rw [k91]; decide) (by rw [k91]; decide)
      have hb := bS hdd
      have e6 : pI (pset B (u2 I r 13 (nI (dd + 1)))) r 12 = nI a := by
        show u2 I r 13 _ r 12 = _
        rw [u2_j (by decide)]; exact t1
      rw [e6, nI_1, psI_set]
      rcases gB_some h with ⟨a1, s1, eg, hx'⟩ | ⟨a1, s1, eg, h2⟩
      · cases hx'
        have m1 : a + 1 ≤ a' := (gP_m hkm _ _ _ _ _ eg).1
        refine htest (a + 1) (dd + 1) false a' s1 _ er et nn tx e _ eg hv3 ⟨by omega, by rw [Nat.add_sub_cancel, k91]; decide⟩ (by omega) ?_
        intro J v nn' q1 q2 q3
        refine ⟨hq.1, c_mtake0 (by omega) hq.1 q2.no ⟨hq.1, hq.1, _, rfl, ?_⟩⟩
        rw [psI_set]
        exact ho _ _ nn' ((f3.tr q1).tr (FrV.u hne (by omega))) (q2.u hne (by decide)) (by omega)
      · have m1 : a + 1 ≤ a1 := (gP_m hkm _ _ _ _ _ eg).1
        refine htest (a + 1) (dd + 1) true a1 s1 _ er et nn tx e _ eg hv3 ⟨by omega, by rw [Nat.add_sub_cancel, k91]; decide⟩ (by omega) ?_
        intro J m nn1 tx1 er1 et1 q1 q2 q3 q4 q5 q6 q7 q8 q9 q10
        have hv4 := hv3.next q1 q3 q7 q8
        obtain ⟨w1, w2, w3, w4, w5, w6, w7, w8, w9, w10, w11⟩ := id q3
        refine ⟨hq.1, c_mtakeS (by omega) hv4.1 w8 w1 w3 (Or.inl (by unfold sgn; decide)) (fun k41 => ⟨hq.1, hq.1, _, rfl, ?_⟩) (fun k41 => ⟨hq.1, hq.1, _, rfl, ?_⟩)⟩
        · have k41' : kfT t a1 = 93 := k41
          rw [if_pos k41'] at h2
          cases Option.some.inj h2
          obtain ⟨hv7, f7, p7, sm7⟩ := v_out hv4 (by rw [k41']; decide) (by rw [k41']; decide) (by rw [k41']; decide) (by rw [k41']; decide)
          have e7 : pI (pset B (u2 J r 12 (nI (a1 + 1)))) r 13 = nI (dd + 1) := by
            show u2 J r 12 _ r 13 = _
            rw [u2_j (by decide)]; exact w2
          rw [e7, nI_pred, psI_set]
          refine ho _ m nn1 tx1 er1 et1 ((f3.tr q1).tr f7) ((p3.tr q2 (Nat.le_refl _) (Nat.le_refl _)).tr p7 q4 q5) hv7.2.1 q4 q5 (by omega) hv7.2.2.1 ((sm3.tr q8).tr sm7) q9 (fun z => ?_)
          have ew2 : (sF t tp b0 (a1 + 1)).2.2.1.2.1 = (sF t tp b0 a1).2.2.1.2.1 := (sm7 z).2.2.1
          exact (q10 (sm7 z).1).up p7 (Nat.le_refl _) (by rw [ew2]; exact Nat.le_refl _) (Nat.le_refl _) (Nat.le_refl _)
        · have k41' : kfT t a1 ≠ 93 := k41
          rw [if_neg k41'] at h2
          cases Option.some.inj h2
          rw [psI_set]
          have q14 : fT (u2 J r 14 (nI a')) r dr a' nn1 := ⟨u2_same, by omega, by rw [u2_a hne]; exact w6⟩
          exact ho _ _ nn1 (((f3.tr q1).tr (FrV.u hne (by omega))).tr (FrV.u hne (by omega))) (q14.u hne (by decide)) (by omega)
    · rw [if_neg hdd] at h
      cases Option.some.inj h
      rw [psI_set]
      have d1 := v_deep hv (pI (pset B (u2 (u2 I r 14 (nI a)) r 13 (nI (dd + 1)))) r 12 + 1)
      refine c_mtest0 (by omega) hq.1 d1.2.no ⟨hq.1, c_mtake0 (by omega) hq.1 d1.2.no ⟨hq.1, hq.1, _, rfl, ?_⟩⟩
      rw [psI_set]
      exact ho _ _ nn (d1.1.tr (FrV.u hne (by omega))) (d1.2.u hne (by decide)) (by omega)
  refine kD 12 12 (by decide) rfl (fun k12 => ⟨fun y => absurd y (by decide), fun _ => ⟨hq.1, hq.1, hq.1, dr, p9, hq.1, r + 29, hq.2.2.1.2.1, hq.1, dr, p9, sb.1, hq.1, ?_⟩⟩) (fun z12 => ⟨fun _ => ⟨hq.1, ?_⟩, fun y => absurd rfl y⟩)
  · rw [if_pos (Or.inl k12), k12] at h
    rw [e12, nI_1, psI_set]
    have ecnt : pI (pset B (u2 I r 12 (nI (a + 1)))) dr 1 = I dr 1 := by
      show u2 I r 12 _ dr 1 = _
      rw [u2_a hne]
    rw [ecnt]
    refine v_known (K := fun v M1 => ∃ v1, (Sum.inl (some (.int v)) : pR) = .inl (some (.int v1)) ∧ K v1 M1) (by omega) hv (Or.inr rfl) (Or.inr ⟨rfl, rfl⟩) k12 h ?_
    cases ok with
    | true => intro J m nn' tx' er' et' q1 q2 q3 q4 q5 q6 q7 q8 q9 q10; exact ⟨_, rfl, ho J m nn' tx' er' et' q1 q2 q3 q4 q5 q6 q7 q8 q9 q10⟩
    | false => intro J v nn' q1 q2 q3; exact ⟨_, rfl, ho J v nn' q1 q2 q3⟩
  refine kD 13 13 (by decide) rfl (fun k13 => ⟨fun y => absurd y (by decide), fun _ => ⟨hq.1, ?_⟩⟩) (fun z13 => ⟨fun _ => ⟨hq.1, ?_⟩, fun y => absurd rfl y⟩)
  · rw [if_pos (Or.inr k13)] at h
    refine v_begins (K := fun v M1 => ∃ v1, (Sum.inl (some (.int v)) : pR) = .inl (some (.int v1)) ∧ K v1 M1) (by omega) hv k13 h ?_
    cases ok with
    | true => intro J m nn' tx' er' et' q1 q2 q3 q4 q5 q6 q7 q8 q9 q10; exact ⟨_, rfl, ho J m nn' tx' er' et' q1 q2 q3 q4 q5 q6 q7 q8 q9 q10⟩
    | false => intro J v nn' q1 q2 q3; exact ⟨_, rfl, ho J v nn' q1 q2 q3⟩
  -- a comparison
  rw [if_neg (fun z => z.elim z12 z13), if_neg z14, if_neg z91] at h
  match n, h with
  | 0, h => exact nomatch h
  | n + 1, h =>
  rw [gP] at h
  have hs := (v_sums (B := B) (r := r) (td := td) (dr := dr) (tp := tp) (t := t) (n0 := n0) (b0 := b0) (N := N) n).2.2.2.2
  rcases gB_some h with ⟨a1, s1, eg, hx'⟩ | ⟨a1, s1, eg, h2⟩
  · cases hx'
    refine hs a dd false a' s1 I er et nn tx e _ eg hv hp (by omega) ?_
    intro J v nn' q1 q2 q3
    have x : ∀ {K2 : Int32 → pM → Prop} {p q : Int32}, K2 0 (pset B J) → pCall_i e mX13_is (0, 0) [.ref r, .int p, .int q] (pset B J) K2 := fun hK => c_mis0 d2 hq.1 q2.no hK
    exact ⟨hq.1, x ⟨fun _ => ⟨hq.1, x ⟨fun _ => ⟨hq.1, x ⟨fun _ => ⟨hq.1, x ⟨fun _ => ⟨hq.1, x ⟨fun _ => ⟨hq.1, c_mfail0 (by omega) hq.1 q2.no ⟨_, rfl, ho J 0 nn' q1 q2 q3⟩⟩, fun z => absurd rfl z⟩⟩, fun z => absurd rfl z⟩⟩, fun z => absurd rfl z⟩⟩, fun z => absurd rfl z⟩⟩, fun z => absurd rfl z⟩⟩
  · have m1 := (gP_m hkm _ _ _ _ _ eg).1
    have m1' : a ≤ a1 := m1
    refine hs a dd true a1 s1 I er et nn tx e _ eg hv hp (by omega) ?_
    intro J m nn1 tx1 er1 et1 q1 q2 q3 q4 q5 q6 q7 q8 q9 q10
    have hv4 := hv.next q1 q3 q7 q8
    obtain ⟨w1, w2, w3, w4, w5, w6, w7, w8, w9, w10, w11⟩ := id q3
    have f12 : pI (pset B J) r 12 = nI a1 := w1
    have ca : (nI a1).toNatClampNeg = a1 := nI_clamp (by omega)
    have go221 : ∀ x : Int32, (x = 60 ∨ x = 62 ∨ x = 61 ∨ x = 108 ∨ x = 103) → kfT t a1 = cmpK x → Go e mX13_single (fun r M1 => ∃ v, r = .inl (some (.int v)) ∧ K v M1) 221 ([some (.ref r), some (.int (nI m)), none], [], 0, 0) (pset B J) := by
      intro x hx hk
      have hxS : sgn x ∨ x = 108 ∨ x = 103 := by
        rcases hx with z | z | z | z | z <;> subst z
        · exact Or.inl (by unfold sgn; decide)
        · exact Or.inl (by unfold sgn; decide)
        · exact Or.inl (by unfold sgn; decide)
        · exact Or.inr (Or.inl rfl)
        · exact Or.inr (Or.inr rfl)
      have kx : cmpK x ≠ 24 ∧ cmpK x ≠ 25 ∧ cmpK x ≠ -1 ∧ cmpK x ≠ 5 ∧ cmpK x ≠ 20 ∧ cmpK x ≠ 21 ∧ cmpK x ≠ 13 ∧ cmpK x ≠ 2 ∧ cmpK x ≠ 12 ∧ (cmpK x = 60 ∨ cmpK x = 62 ∨ cmpK x = 61 ∨ cmpK x = 22 ∨ cmpK x = 23) := by rcases hx with z | z | z | z | z <;> subst z <;> decide
      obtain ⟨k1, k2, k3, k4, k5, k6, k7, k8, k9, k10⟩ := kx
      have ev : pI (pset B J) (r + 3) a1 = x := val_S hv4.1 w8 hxS hk
      rw [if_pos (by rw [hk]; exact k10), hk] at h2
      obtain ⟨hv5, f5, p5', sm5, hlt5⟩ := hv4.skip (by rw [hk]; exact ⟨k1, k2, k3⟩) (by rw [hk]; exact k4) (by rw [hk]; exact k5) (Or.inl (by rw [hk]; exact k6))
      refine bX13_single_221 ⟨hq.1, r + 3, p5, hq.1, 402, K3, by rw [f12]; exact vp_inN (by omega) (by omega), hq.1, hq.1, hq.1, dr, p9, hq.1, ?_⟩
      rw [f12, ca, ev, nI_1, psI_set]
      rcases gB_some h2 with ⟨a2, s2, eg2, hx'⟩ | ⟨a2, s2, eg2, h3⟩
      · cases hx'
        have m2 : a1 + 1 ≤ a' := (gP_m hkm _ _ _ _ _ eg2).1
        refine hs (a1 + 1) dd false a' s2 _ er1 et1 nn1 tx1 e _ eg2 hv5 ⟨by omega, by rw [Nat.add_sub_cancel, hk]; exact k8⟩ (by omega) ?_
        intro J2 v nn' r1 r2 r3
        have r2' := r2.2.1
        refine ⟨sb.1, c_mnode (by omega) sb r2.2.2 (by omega) ⟨_, rfl, ?_⟩⟩
        exact ho _ _ (nn' + 1) (((q1.tr f5).tr r1).tr (nodeJ_fr (r := r) (tx := 0) hyd).1) (r2.node hyd) (by omega)
      · have m2 : a1 + 1 ≤ a2 := (gP_m hkm _ _ _ _ _ eg2).1
        cases Option.some.inj h3
        refine hs (a1 + 1) dd true a' s2 _ er1 et1 nn1 tx1 e _ eg2 hv5 ⟨by omega, by rw [Nat.add_sub_cancel, hk]; exact k8⟩ (by omega) ?_
        intro J2 m2' nn2 tx2 er2 et2 r1 r2 r3 r4 r5 r6 r7 r8 r9 r10
        obtain ⟨y1, y2, y3, y4, y5, y6, y7, y8, y9, y10, y11⟩ := id r3
        refine ⟨sb.1, c_mnode (by omega) sb y6 (by omega) ⟨_, rfl, ?_⟩⟩
        obtain ⟨F8, P8, g1, g2, g3, -⟩ := nodeJ_fr (J := J2) (r := r) (nn := nn2) (tx := tx2) (x := x) (y := nI m) (z := nI m2') hyd
        have SM8 := sm5.tr r8
        refine ho (nodeJ J2 dr nn2 x (nI m) (nI m2')) nn2 (nn2 + 1) tx2 er2 et2 (((q1.tr f5).tr r1).tr F8) ((((q2.tr p5' q4 q5).tr r2 q4 q5).tr P8 (by omega) (by omega))) (r3.node hyd (by omega)) (by omega) (by omega) (by omega) r7 (q8.tr SM8) (by omega) (fun z => ?_)
        have z1 := (SM8 z).1
        have ew : (sF t tp b0 a').2.2.1.2.1 = (sF t tp b0 a1).2.2.1.2.1 := (SM8 z).2.2.1
        have L1 := (q10 z1).up ((p5'.tr r2 (Nat.le_refl _) (Nat.le_refl _)).tr P8 (by omega) (by omega)) (show nn1 ≤ nn2 + 1 by omega) (show _ ≤ (sF t tp b0 a').2.2.1.2.1.length by rw [ew]; exact Nat.le_refl _) r5 (show ([] ++ s1 : List (Int32 × Int32)).length ≤ s1.length + s2.length by simp)
        have L2 := (r10 z).up P8 (show nn2 ≤ nn2 + 1 by omega) (Nat.le_refl _) (Nat.le_refl _) (show ([] ++ s2 : List (Int32 × Int32)).length ≤ s1.length + s2.length by simp)
        have := nvTwoC (x := x) hx _ dr (sF t tp b0 a').2.2.1.2.1.length (nn2 + 1) tx2 (s1.length + s2.length) m m2' nn2 _ _ g1 g2 g3 (by omega) L1 L2
        rw [List.nil_append, ← List.append_assoc, List.map_append, List.map_append, List.length_append, List.length_append]
        show nvX true _ dr _ _ _ (s1.length + s2.length + 1) nn2 (s1.map _ ++ s2.map _ ++ [payG t tp b0 (cmpK x, 0)])
        rw [payG_op ⟨k7, k8, k9⟩]
        exact this
    have sE : ∀ (x : Int32) {K2 : Int32 → pM → Prop}, (sgn x ∨ x = 108 ∨ x = 103) → (kfT t a1 = cmpK x → K2 1 (pset B J)) → (kfT t a1 ≠ cmpK x → K2 0 (pset B J)) → pCall_i e mX13_is (0, 0) [.ref r, .int 4, .int x] (pset B J) K2 := fun x K2 hx h1 h0 => c_misS d2 hv4.1 w8 w1 w3 hx h1 h0
    refine ⟨hq.1, sE 60 (Or.inl (by unfold sgn; decide)) (fun k => ⟨fun y => absurd y (by decide), fun _ => go221 60 (by decide) k⟩) (fun c1 => ⟨fun _ => ⟨hq.1, ?_⟩, fun y => absurd rfl y⟩)⟩
    refine sE 62 (Or.inl (by unfold sgn; decide)) (fun k => ⟨fun y => absurd y (by decide), fun _ => go221 62 (by decide) k⟩) (fun c2 => ⟨fun _ => ⟨hq.1, ?_⟩, fun y => absurd rfl y⟩)
    refine sE 61 (Or.inl (by unfold sgn; decide)) (fun k => ⟨fun y => absurd y (by decide), fun _ => go221 61 (by decide) k⟩) (fun c3 => ⟨fun _ => ⟨hq.1, ?_⟩, fun y => absurd rfl y⟩)
    refine sE 108 (Or.inr (Or.inl rfl)) (fun k => ⟨fun y => absurd y (by decide), fun _ => go221 108 (by decide) k⟩) (fun c4 => ⟨fun _ => ⟨hq.1, ?_⟩, fun y => absurd rfl y⟩)
    refine sE 103 (Or.inr (Or.inr rfl)) (fun k => ⟨fun y => absurd y (by decide), fun _ => go221 103 (by decide) k⟩) (fun c5 => ⟨fun _ => ⟨hq.1, ?_⟩, fun y => absurd rfl y⟩)
    have c1' : kfT t a1 ≠ 60 := c1
    have c2' : kfT t a1 ≠ 62 := c2
    have c3' : kfT t a1 ≠ 61 := c3
    have c4' : kfT t a1 ≠ 22 := c4
    have c5' : kfT t a1 ≠ 23 := c5
    rw [if_neg (fun z => z.elim c1' (fun z => z.elim c2' (fun z => z.elim c3' (fun z => z.elim c4' c5'))))] at h2
    cases Option.some.inj h2
    refine c_mfail1 (by omega) hq.1 w3 ⟨_, rfl, ?_⟩
    rw [w1]
    exact ho _ 0 nn1 (q1.tr (FrV.u hne (by omega))) ⟨u2_same, by omega, by rw [u2_a hne]; exact w6⟩ (by omega)
theorem v_pairG {B : pM} {r td dr : Nat} {tp : List Int32} {t : tK} {n0 : Nat} {b0 : bK} {N : List Nat} {n : Nat} (hone : vM B r td dr tp t n0 b0 N mX13_single 7 2 true n) (ht : vG B r td dr tp t n0 b0 N mX13_pair [] 7 8 true n) : vG B r td dr tp t n0 b0 N mX13_pair [] 7 8 true (n + 1) := by
  intro a dd ok a' s I er et nn tx d m0 s0 K h hv hm0 hs0 hd ho
  have hq := hv.1.1
  obtain ⟨t1, t2, t3, t4, t5, t6, t7, t8, t9, t10, t11⟩ := id hv.2.1
  have e12 : pI (pset B I) r 12 = nI a := t1
  rw [gP] at h
  refine bX13_pair_5 ⟨hq.1, c_misK (by omega) 15 hv.1 t8 t1 t3 (by decide) rfl (fun hk => ⟨fun y => absurd y (by decide), fun _ => ⟨hq.1, hq.1, hq.1, dr, hq.2.1.2.2.2.2.2.2, hq.1, ?_⟩⟩) (fun z1 => ⟨fun _ => ⟨_, rfl, ?_⟩, fun y => absurd rfl y⟩)⟩
  · rw [if_pos hk] at h
    rw [e12, nI_1, psI_set]
    exact v_step hone ht (fun d J v Q h1 h2 h3 => t_pair0 h1 hq.1 h2 h3) h hk (by decide) (nvTwoT (by decide)) hv hm0 hs0 (by omega) (by omega) (by omega) ho
  · rw [if_neg z1] at h
    exact v_end h hv hm0 hs0 ho
theorem v_testG {B : pM} {r td dr : Nat} {tp : List Int32} {t : tK} {n0 : Nat} {b0 : bK} {N : List Nat} {n : Nat} (hone : vM B r td dr tp t n0 b0 N mX13_pair 8 1 true n) (ht : vG B r td dr tp t n0 b0 N mX13_test [] 8 7 true n) : vG B r td dr tp t n0 b0 N mX13_test [] 8 7 true (n + 1) := by
  intro a dd ok a' s I er et nn tx d m0 s0 K h hv hm0 hs0 hd ho
  have hq := hv.1.1
  obtain ⟨t1, t2, t3, t4, t5, t6, t7, t8, t9, t10, t11⟩ := id hv.2.1
  have e12 : pI (pset B I) r 12 = nI a := t1
  rw [gP] at h
  refine bX13_test_5 ⟨hq.1, c_misK (by omega) 16 hv.1 t8 t1 t3 (by decide) rfl (fun hk => ⟨fun y => absurd y (by decide), fun _ => ⟨hq.1, hq.1, hq.1, dr, hq.2.1.2.2.2.2.2.2, hq.1, ?_⟩⟩) (fun z1 => ⟨fun _ => ⟨_, rfl, ?_⟩, fun y => absurd rfl y⟩)⟩
  · rw [if_pos hk] at h
    rw [e12, nI_1, psI_set]
    exact v_step hone ht (fun d J v Q h1 h2 h3 => t_test0 h1 hq.1 h2 h3) h hk (by decide) (nvTwoT (by decide)) hv hm0 hs0 (by omega) (by omega) (by omega) ho
  · rw [if_neg z1] at h
    exact v_end h hv hm0 hs0 ho
theorem v_tests {B : pM} {r td dr : Nat} {tp : List Int32} {t : tK} {n0 : Nat} {b0 : bK} {N : List Nat} : ∀ n, vM B r td dr tp t n0 b0 N mX13_single 7 2 true n ∧ vG B r td dr tp t n0 b0 N mX13_pair [] 7 8 true n ∧ vM B r td dr tp t n0 b0 N mX13_pair 8 1 true n ∧ vG B r td dr tp t n0 b0 N mX13_test [] 8 7 true n ∧ vM B r td dr tp t n0 b0 N mX13_test 9 0 true n := by
  intro n
  induction n with
  | zero =>
    refine ⟨?_, ?_, ?_, ?_, ?_⟩
    · intro a dd ok a' s I er et nn tx d K h; exact nomatch h
    · intro a dd ok a' s I er et nn tx d m0 s0 K h; exact nomatch h
    · intro a dd ok a' s I er et nn tx d K h; exact nomatch h
    · intro a dd ok a' s I er et nn tx d m0 s0 K h; exact nomatch h
    · intro a dd ok a' s I er et nn tx d K h; exact nomatch h
  | succ n ih =>
    obtain ⟨i1, i2, i3, i4, i5⟩ := ih
    refine ⟨v_single i1 i5, v_pairG i1 i2, ?_, v_testG i3 i4, ?_⟩
    · intro a dd ok a' s I er et nn tx d K h hv hp hd ho
      rw [gP] at h
      refine CP_go (by omega) okX13_pair (Nat.le_of_ble_eq_true rfl) ?_
      refine bX13_pair_0 ⟨hv.1.1.1, ?_⟩
      exact v_comb i1 i2 (fun d J v Q h1 h2 h3 => t_pair0 h1 hv.1.1.1 h2 h3) h hv hp (by omega) (by omega) (by omega) ho
    · intro a dd ok a' s I er et nn tx d K h hv hp hd ho
      rw [gP] at h
      refine CP_go (by omega) okX13_test (Nat.le_of_ble_eq_true rfl) ?_
      refine bX13_test_0 ⟨hv.1.1.1, ?_⟩
      exact v_comb i3 i4 (fun d J v Q h1 h2 h3 => t_test0 h1 hv.1.1.1 h2 h3) h hv hp (by omega) (by omega) (by omega) ho
