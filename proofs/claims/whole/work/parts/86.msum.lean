/-! THE REFERENCE'S PARSER: sums -/
/-- deeper, and the token behind it -/
theorem v_in {B : pM} {I : pIm} {r td dr n0 a dd nn tx : Nat} {tp : List Int32} {t : tK} {b0 : bK} {N : List Nat} {er et : Int32} (hv : vIn B I r td dr tp t n0 b0 N a dd er et nn tx) (hdd : dd < 8) (h24 : kfT t a ≠ 24 ∧ kfT t a ≠ 25 ∧ kfT t a ≠ -1) (h5 : kfT t a ≠ 5) (h20 : kfT t a ≠ 20) (h21 : kfT t a ≠ 21) : vIn B (u2 (u2 I r 13 (nI (dd + 1))) r 12 (nI (a + 1))) r td dr tp t n0 b0 N (a + 1) (dd + 1) er et nn tx ∧ FrV r dr I (u2 (u2 I r 13 (nI (dd + 1))) r 12 (nI (a + 1))) ∧ kpV dr I (u2 (u2 I r 13 (nI (dd + 1))) r 12 (nI (a + 1))) nn tx ∧ smT (sF t tp b0 a) (sF t tp b0 (a + 1)) ∧ a < n0 := by
  obtain ⟨h1, f1, p1⟩ := hv.dep (dd' := dd + 1) (by omega)
  obtain ⟨h2, f2, p2, sm, hlt⟩ := h1.skip h24 h5 h20 (Or.inl h21)
  exact ⟨h2, f1.tr f2, p1.tr p2 (Nat.le_refl _) (Nat.le_refl _), sm, hlt⟩
/-- the end of what stands in brackets -/
theorem v_out {B : pM} {J : pIm} {r td dr n0 a dd nn tx : Nat} {tp : List Int32} {t : tK} {b0 : bK} {N : List Nat} {er et : Int32} (hv : vIn B J r td dr tp t n0 b0 N a (dd + 1) er et nn tx) (h24 : kfT t a ≠ 24 ∧ kfT t a ≠ 25 ∧ kfT t a ≠ -1) (h5 : kfT t a ≠ 5) (h20 : kfT t a ≠ 20) (h21 : kfT t a ≠ 21) : vIn B (u2 (u2 J r 12 (nI (a + 1))) r 13 (nI dd)) r td dr tp t n0 b0 N (a + 1) dd er et nn tx ∧ FrV r dr J (u2 (u2 J r 12 (nI (a + 1))) r 13 (nI dd)) ∧ kpV dr J (u2 (u2 J r 12 (nI (a + 1))) r 13 (nI dd)) nn tx ∧ smT (sF t tp b0 a) (sF t tp b0 (a + 1)) := by
  have hdd := hv.2.1.2.2.2.2.2.2.2.2.2.2
  obtain ⟨h2, f2, p2, sm, hlt⟩ := hv.skip h24 h5 h20 (Or.inl h21)
  obtain ⟨h1, f1, p1⟩ := h2.dep (dd' := dd) (by omega)
  exact ⟨h1, f2.tr f1, p2.tr p1 (Nat.le_refl _) (Nat.le_refl _), sm⟩
/-- too deep -/
theorem v_deep {B : pM} {I : pIm} {r td dr n0 a dd nn tx : Nat} {tp : List Int32} {t : tK} {b0 : bK} {N : List Nat} {er et : Int32} (hv : vIn B I r td dr tp t n0 b0 N a dd er et nn tx) (x : Int32) : FrV r dr I (u2 (u2 (u2 I r 14 (nI a)) r 13 (nI (dd + 1))) r 12 x) ∧ fT (u2 (u2 (u2 I r 14 (nI a)) r 13 (nI (dd + 1))) r 12 x) r dr a nn := by
  have hy := hv.1.1.lay
  have hne : dr ≠ r := by omega
  have h400 := hv.1.2.2.2.2.2.1
  have ha := hv.2.1.2.2.2.2.2.2.2.1
  refine ⟨((FrV.u hne (by omega)).tr (FrV.u hne (by omega))).tr (FrV.u hne (by omega)), ?_, by omega, ?_⟩
  · rw [u2_j (by decide), u2_j (by decide)]; exact u2_same
  · rw [u2_a hne, u2_a hne, u2_a hne]; exact hv.2.1.2.2.2.2.2.1
theorem fT.u {J : pIm} {r dr a nn f : Nat} {v : Int32} (hne : dr ≠ r) (h : fT J r dr a nn) (hf : f ≠ 14) : fT (u2 J r f v) r dr a nn := ⟨by rw [u2_j (by omega)]; exact h.1, h.2.1, by rw [u2_a hne]; exact h.2.2⟩
theorem v_one {B : pM} {r td dr : Nat} {tp : List Int32} {t : tK} {n0 : Nat} {b0 : bK} {N : List Nat} {n : Nat} (hs : vM B r td dr tp t n0 b0 N mX13_sum 6 4 false n) (hone : vM B r td dr tp t n0 b0 N mX13_one 4 6 false n) : vM B r td dr tp t n0 b0 N mX13_one 4 6 false (n + 1) := by
  intro a dd ok a' s I er et nn tx d K h hv hp hd ho
  have hq := hv.1.1
  have hy := hq.lay
  have hyd : dr = r + 6 ∨ dr = r + 17 := by omega
  have hne : dr ≠ r := by omega
  have sb := hq.2.2.2.2.2.1
  have hkm := hv.1.2.2.2.2.2.2.1
  have h400 := hv.1.2.2.2.2.2.1
  obtain ⟨t1, t2, t3, t4, t5, t6, t7, t8, t9, t10, t11⟩ := id hv.2.1
  have e12 : pI (pset B I) r 12 = nI a := t1
  have p4 := hq.2.1.2.1
  have p5 := hq.2.1.2.2.1
  have p9 := hq.2.1.2.2.2.2.2.2
  have K2 := hq.2.2.2.1.2.1
  have K3 := hq.2.2.2.1.2.2.1
  have vpa : ∀ j, j ≤ n0 + 1 → vp_in (nI j) 402 := fun j hj => vp_inN (by omega) (by omega)
  have ca : (nI a).toNatClampNeg = a := nI_clamp (by omega)
  have hN := kdR_N (kd_at hv.1 t8)
  have ek : pI (pset B I) (r + 2) a = I (r + 2) a := rfl
  have bD : 10 ≤ 10 * (9 - dd) := by omega
  have bS : dd < 8 → 10 * (9 - (dd + 1)) + 10 = 10 * (9 - dd) := fun z => by omega
  refine CP_go (by omega) okX13_one (Nat.le_of_ble_eq_true rfl) ?_
  have dA : 10 * (9 - dd) + 3 ≤ d - 1 := by omega
  generalize d - 1 = e at dA
  clear hd
  have d2 : 2 ≤ e := by omega
  have kD : ∀ (k : Nat) (x : Int32) {K2 : Int32 → pM → Prop}, k < 19 → x = nI k → (kfT t a = x → K2 1 (pset B I)) → (kfT t a ≠ x → K2 0 (pset B I)) → pCall_i e mX13_is (0, 0) [.ref r, .int 2, .int x] (pset B I) K2 := fun k x K2 hk hx h1 h0 => c_misK d2 k hv.1 t8 t1 t3 hk hx h1 h0
  have sD : ∀ (x : Int32) {K2 : Int32 → pM → Prop}, sgn x → cmpK x = x → (kfT t a = x → K2 1 (pset B I)) → (kfT t a ≠ x → K2 0 (pset B I)) → pCall_i e mX13_is (0, 0) [.ref r, .int 4, .int x] (pset B I) K2 := fun x K2 hx hc h1 h0 => c_misS d2 hv.1 t8 t1 t3 (Or.inl hx) (fun z => h1 (z.trans hc)) (fun z => h0 (fun y => z (y.trans hc.symm)))
  rw [gP] at h
  refine bX13_one_0 ⟨hq.1, c_misOk1 (by omega) hq.1 t3 ⟨fun z => absurd z (by decide), fun _ => ⟨hq.1, r + 2, p4, hq.1, 402, K2, by rw [e12]; exact vpa a (by omega), ?_⟩⟩⟩
  rw [e12, ca, ek]
  refine ⟨fun g => ⟨hq.1, dr, p9, hq.1, ?_⟩, fun g => ⟨hq.1, ?_⟩⟩
  · -- a number
    have k21 := hN.2.1.mp g
    rw [if_neg (by rw [k21]; decide), if_neg (by rw [k21]; decide), if_neg (by rw [k21]; decide), if_pos k21] at h
    cases Option.some.inj h
    obtain ⟨p, hg⟩ := hv.1.2.2.2.2.2.2.2
    obtain ⟨v, hv1, ev⟩ := num_tok hv.1.2.1.2.1 hv.1.2.2.1 hg (by have := hv.1.2.2.2.2.1; omega) k21
    obtain ⟨hv2, f1, p1, sm1, hlt⟩ := hv.skip (by rw [k21]; decide) (by rw [k21]; decide) (by rw [k21]; decide) (Or.inr hp)
    refine c_mnumV d2 hv.1 t8 t1 t3 k21 (by rw [ev]; exact isInI_t (nI_pos (by omega)) (nI_nlt (a := 999999) hv1 (by omega))) ⟨sb.1, c_mnode (by omega) sb (by rw [u2_a hne]; exact t6) (by omega) ⟨_, rfl, ?_⟩⟩
    obtain ⟨F2, P2, g1, g2, g3, -⟩ := nodeJ_fr (J := u2 I r 12 (nI (a + 1))) (r := r) (nn := nn) (tx := tx) (x := 30) (y := nmT tp t a) (z := 0) hyd
    refine ho _ nn (nn + 1) tx er et (f1.tr F2) (p1.tr P2 (Nat.le_refl _) (Nat.le_refl _)) (hv2.2.1.node hyd (by omega)) (by omega) (Nat.le_refl _) (by omega) hv2.2.2.1 sm1 (by omega) (fun _ => ⟨by omega, Or.inl ⟨g1, ?_⟩⟩)
    show [payG t tp b0 (21, nmT tp t a)] = [(21, [nodeJ (u2 I r 12 (nI (a + 1))) dr nn 30 (nmT tp t a) 0 (dr + 8) nn])]
    rw [g2]
    rfl
  have n21 : kfT t a ≠ 21 := fun z => g (hN.2.1.mpr z)
  -- typed, taken, limit, far
  have go80 : ∀ (k : Nat) (x : Int32), (k = 8 ∨ k = 9 ∨ k = 10 ∨ k = 11) → x = nI k → kfT t a = x → Go e mX13_one (fun r M1 => ∃ v, r = .inl (some (.int v)) ∧ K v M1) 80 ([some (.ref r), none], [], 0, 0) (pset B I) := by
    intro k x hk hx hkx
    have hx4 : x = 8 ∨ x = 9 ∨ x = 10 ∨ x = 11 := by rcases hk with z | z | z | z <;> subst z <;> subst hx <;> decide
    have hkx4 : kfT t a = 8 ∨ kfT t a = 9 ∨ kfT t a = 10 ∨ kfT t a = 11 := by rw [hkx]; exact hx4
    have h' := h
    rw [if_neg (by rcases hkx4 with z | z | z | z <;> rw [z] <;> decide), if_pos hkx4, hkx] at h'
    cases Option.some.inj h'
    obtain ⟨hv2, f1, p1, sm1, hlt⟩ := hv.skip (by rcases hkx4 with z | z | z | z <;> rw [z] <;> decide) (by rcases hkx4 with z | z | z | z <;> rw [z] <;> decide) (by rcases hkx4 with z | z | z | z <;> rw [z] <;> decide) (Or.inl n21)
    have ev := val_K hv.1 t8 (show k < 19 by omega) hx hkx
    have e4 : pI (psI (pset B I) r 12 (nI (a + 1))) r 12 = nI (a + 1) := u2_same
    refine bX13_one_80 ⟨hq.1, hq.1, hq.1, dr, p9, hq.1, r + 3, p5, hq.1, 402, K3, ?_⟩
    rw [e12, nI_1, e4, nI_pred]
    refine ⟨vpa a (by omega), sb.1, ?_⟩
    have e5 : pI (psI (pset B I) r 12 (nI (a + 1))) (r + 3) (Int32.toNatClampNeg (nI a)) = x := by
      rw [ca]
      show u2 I r 12 _ (r + 3) a = _
      rw [u2_a (by omega)]; exact ev
    rw [e5, psI_set]
    refine c_mnode (by omega) sb (by rw [u2_a hne]; exact t6) (by omega) ⟨_, rfl, ?_⟩
    obtain ⟨F2, P2, g1, g2, g3, -⟩ := nodeJ_fr (J := u2 I r 12 (nI (a + 1))) (r := r) (nn := nn) (tx := tx) (x := x) (y := 0) (z := 0) hyd
    refine ho (nodeJ (u2 I r 12 (nI (a + 1))) dr nn x 0 0) nn (nn + 1) tx er et (f1.tr F2) (p1.tr P2 (Nat.le_refl _) (Nat.le_refl _)) (hv2.2.1.node hyd (by omega)) (by omega) (Nat.le_refl _) (by omega) hv2.2.2.1 sm1 (by omega) (fun _ => ⟨by omega, Or.inr (Or.inl ⟨by rw [g1]; exact hx4, ?_⟩)⟩)
    show [payG t tp b0 (x, 0)] = [(nodeJ (u2 I r 12 (nI (a + 1))) dr nn x 0 0 (dr + 7) nn, [0])]
    rw [g1, payG_op (by rcases hx4 with z | z | z | z <;> rw [z] <;> decide)]
  -- min and max
  have go241 : ∀ (k : Nat) (x : Int32), (k = 17 ∨ k = 18) → x = nI k → kfT t a = x → Go e mX13_one (fun r M1 => ∃ v, r = .inl (some (.int v)) ∧ K v M1) 241 ([some (.ref r), none], [], 0, 0) (pset B I) := by
    intro k x hk hx hkx
    have hx2 : x = 17 ∨ x = 18 := by rcases hk with z | z <;> subst z <;> subst hx <;> decide
    have hkx2 : kfT t a = 17 ∨ kfT t a = 18 := by rw [hkx]; exact hx2
    have h' := h
    rw [if_neg (by rcases hkx2 with z | z <;> rw [z] <;> decide), if_neg (by rcases hkx2 with z | z <;> rw [z] <;> decide), if_pos hkx2, hkx] at h'
    have ev : pI (pset B I) (r + 3) a = x := val_K hv.1 t8 (show k < 19 by omega) hx hkx
    obtain ⟨hv2, f1, p1, sm1, hlt⟩ := hv.skip (by rcases hkx2 with z | z <;> rw [z] <;> decide) (by rcases hkx2 with z | z <;> rw [z] <;> decide) (by rcases hkx2 with z | z <;> rw [z] <;> decide) (Or.inl n21)
    obtain ⟨u1, u2', u3, u4, u5, u6, u7, u8, u9, u10, u11⟩ := id hv2.2.1
    refine bX13_one_241 ⟨hq.1, r + 3, p5, hq.1, 402, K3, by rw [e12]; exact vpa a (by omega), hq.1, ?_⟩
    rw [e12, ca, ev]
    refine CP_go (by omega) okX13_both (Nat.le_of_ble_eq_true rfl) ?_
    refine bX13_both_0 ⟨hq.1, hq.1, hq.1, ?_⟩
    rw [e12, nI_1, psI_set]
    refine c_misS (by omega) hv2.1 u8 u1 u3 (Or.inl (by unfold sgn; decide)) (fun k40 => ⟨fun z => absurd z (by decide), fun _ => ⟨hq.1, ?_⟩⟩) (fun k40 => ⟨fun _ => ⟨hq.1, ?_⟩, fun z => absurd rfl z⟩)
    · have k40' : kfT t (a + 1) = 40 := k40
      refine c_mdeep (by omega) hq.1 u1 u2' u3 t11 (fun hdd => ⟨hq.1, hq.1, hq.1, ?_⟩) (fun hdd => ⟨hq.1, hq.1, hq.1, ?_⟩)
      · rw [if_pos ⟨hdd, k40'⟩] at h'
        obtain ⟨hv3, f3, p3, sm3, hlt3⟩ := v_in hv2 hdd (by rw [k40']; decide) (by rw [k40']; decide) (by rw [k40']; decide) (by rw [k40']; decide)
        have e6 : pI (pset B (u2 (u2 I r 12 (nI (a + 1))) r 13 (nI (dd + 1)))) r 12 = nI (a + 1) := by
          show u2 (u2 I r 12 (nI (a + 1))) r 13 _ r 12 = _
          rw [u2_j (by decide)]; exact u2_same
        rw [e6, nI_1, psI_set]
        have hb := bS hdd
        have FI := f1.tr f3
        have PI := p1.tr p3 (Nat.le_refl nn) (Nat.le_refl tx)
        have SI := sm1.tr sm3
        -- behind a failure nothing changes but depth and one node
        have dead : ∀ (a1 : Nat) (J : pIm) (nn' : Nat), a + 1 + 1 ≤ a1 → FrV r dr I J → fT J r dr a1 nn' → nn' ≤ nn + (a1 - (a + 1 + 1)) + 1 → (∀ (v : Int32) (L : pIm), FrV r dr I L → fT L r dr a1 (nn' + 1) → K v (pset B L)) → ∀ (v w : Int32), pCall_i (e - 1) mX12_node (0, 0) [.ref dr, .int x, .int v, .int w] (pset B (u2 J r 13 (J r 13 - 1))) (fun v4 M8 => ∃ v, (Sum.inl (some (.int v4)) : pR) = .inl (some (.int v)) ∧ ∃ v1, (Sum.inl (some (.int v)) : pR) = .inl (some (.int v1)) ∧ K v1 M8) := by
          intro a1 J nn' h1 h2 h3 h4 h5 v w
          have h6 := h3.2.1
          refine c_mnode (by omega) sb (by rw [u2_a hne]; exact h3.2.2) (by omega) ⟨_, rfl, _, rfl, ?_⟩
          exact h5 _ _ ((h2.tr (FrV.u hne (by omega))).tr (nodeJ_fr (J := u2 J r 13 (J r 13 - 1)) (r := r) (nn := nn') (tx := 0) (x := x) (y := v) (z := w) hyd).1) ((h3.u hne (by decide)).node hyd)
        rcases gB_some h' with ⟨a1, s1, eg, hx'⟩ | ⟨a1, s1, eg, h2⟩
        · cases hx'
          have m1 : a + 2 ≤ a' := (gP_m hkm _ _ _ _ _ eg).1
          refine hs (a + 1 + 1) (dd + 1) false a' s1 _ er et nn tx (e - 1) _ eg hv3 ⟨by omega, by rw [Nat.add_sub_cancel, k40']; decide⟩ (by omega) ?_
          intro J v nn' q1 q2 q3
          refine ⟨hq.1, c_mtake0 (by omega) hq.1 q2.no ⟨hq.1, c_msum0 (by omega) hq.1 q2.no ⟨hq.1, c_mtake0 (by omega) hq.1 q2.no ⟨hq.1, hq.1, hq.1, dr, p9, sb.1, ?_⟩⟩⟩⟩
          exact dead a' J nn' (by omega) (FI.tr q1) q2 q3 (fun v L l1 l2 => ho L v (nn' + 1) l1 l2 (by omega)) v 0
        · have m1 : a + 2 ≤ a1 := (gP_m hkm _ _ _ _ _ eg).1
          refine hs (a + 1 + 1) (dd + 1) true a1 s1 _ er et nn tx (e - 1) _ eg hv3 ⟨by omega, by rw [Nat.add_sub_cancel, k40']; decide⟩ (by omega) ?_
          intro J m nn1 tx1 er1 et1 q1 q2 q3 q4 q5 q6 q7 q8 q9 q10
          have hv4 := hv3.next q1 q3 q7 q8
          obtain ⟨w1, w2, w3, w4, w5, w6, w7, w8, w9, w10, w11⟩ := id q3
          refine ⟨hq.1, c_mtakeS (by omega) hv4.1 w8 w1 w3 (Or.inl (by unfold sgn; decide)) (fun k44 => ⟨hq.1, ?_⟩) (fun k44 => ⟨hq.1, ?_⟩)⟩
          · have k44' : kfT t a1 = 44 := k44
            rw [if_pos k44'] at h2
            obtain ⟨hv5, f5, p5', sm5, hlt5⟩ := hv4.skip (by rw [k44']; decide) (by rw [k44']; decide) (by rw [k44']; decide) (Or.inl (by rw [k44']; decide))
            rcases gB_some h2 with ⟨a2, s2, eg2, hx'⟩ | ⟨a2, s2, eg2, h3⟩
            · cases hx'
              have m2 : a1 + 1 ≤ a' := (gP_m hkm _ _ _ _ _ eg2).1
              refine hs (a1 + 1) (dd + 1) false a' s2 _ er1 et1 nn1 tx1 (e - 1) _ eg2 hv5 ⟨by omega, by rw [Nat.add_sub_cancel, k44']; decide⟩ (by omega) ?_
              intro J2 v nn' r1 r2 r3
              refine ⟨hq.1, c_mtake0 (by omega) hq.1 r2.no ⟨hq.1, hq.1, hq.1, dr, p9, sb.1, ?_⟩⟩
              exact dead a' J2 nn' (by omega) (((FI.tr q1).tr f5).tr r1) r2 (by omega) (fun v L l1 l2 => ho L v (nn' + 1) l1 l2 (by omega)) _ v
            · have m2 : a1 + 1 ≤ a2 := (gP_m hkm _ _ _ _ _ eg2).1
              refine hs (a1 + 1) (dd + 1) true a2 s2 _ er1 et1 nn1 tx1 (e - 1) _ eg2 hv5 ⟨by omega, by rw [Nat.add_sub_cancel, k44']; decide⟩ (by omega) ?_
              intro J2 m2' nn2 tx2 er2 et2 r1 r2 r3 r4 r5 r6 r7 r8 r9 r10
              have hv6 := hv5.next r1 r3 r7 r8
              obtain ⟨y1, y2, y3, y4, y5, y6, y7, y8, y9, y10, y11⟩ := id r3
              refine ⟨hq.1, c_mtakeS (by omega) hv6.1 y8 y1 y3 (Or.inl (by unfold sgn; decide)) (fun k41 => ⟨hq.1, hq.1, hq.1, dr, p9, sb.1, ?_⟩) (fun k41 => ⟨hq.1, hq.1, hq.1, dr, p9, sb.1, ?_⟩)⟩
              · have k41' : kfT t a2 = 41 := k41
                rw [if_pos k41'] at h3
                cases Option.some.inj h3
                obtain ⟨hv7, f7, p7, sm7⟩ := v_out hv6 (by rw [k41']; decide) (by rw [k41']; decide) (by rw [k41']; decide) (by rw [k41']; decide)
                have e7 : pI (pset B (u2 J2 r 12 (nI (a2 + 1)))) r 13 = nI (dd + 1) := by
                  show u2 J2 r 12 _ r 13 = _
                  rw [u2_j (by decide)]; exact y2
                rw [e7, nI_pred, psI_set]
                have t7' := hv7.2.1
                refine c_mnode (by omega) sb t7'.2.2.2.2.2.1 (by omega) ⟨_, rfl, _, rfl, ?_⟩
                obtain ⟨F8, P8, g1, g2, g3, -⟩ := nodeJ_fr (J := u2 (u2 J2 r 12 (nI (a2 + 1))) r 13 (nI dd)) (r := r) (nn := nn2) (tx := tx2) (x := x) (y := nI m) (z := nI m2') hyd
                have SM8 := (sm5.tr r8).tr sm7
                refine ho _ nn2 (nn2 + 1) tx2 er2 et2 (((((FI.tr q1).tr f5).tr r1).tr f7).tr F8) ((((((PI.tr q2 (Nat.le_refl _) (Nat.le_refl _)).tr p5' q4 q5).tr r2 q4 q5).tr p7 (by omega) (by omega)).tr P8 (by omega) (by omega))) (t7'.node hyd (by omega)) (by omega) (by omega) (by omega) hv7.2.2.1 ((SI.tr q8).tr SM8) (by omega) (fun z => ?_)
                have z1 := (SM8 z).1
                have z2 := (sm7 z).1
                have ew : (sF t tp b0 (a2 + 1)).2.2.1.2.1 = (sF t tp b0 a1).2.2.1.2.1 := (SM8 z).2.2.1
                have ew2 : (sF t tp b0 (a2 + 1)).2.2.1.2.1 = (sF t tp b0 a2).2.2.1.2.1 := (sm7 z).2.2.1
                have L1 := (q10 z1).up (((p5'.tr r2 (Nat.le_refl _) (Nat.le_refl _)).tr p7 (by omega) (by omega)).tr P8 (by omega) (by omega)) (show nn1 ≤ nn2 + 1 by omega) (show _ ≤ (sF t tp b0 (a2 + 1)).2.2.1.2.1.length by rw [ew]; exact Nat.le_refl _) r5 (show ([] ++ s1 : List (Int32 × Int32)).length ≤ s1.length + s2.length by simp)
                have L2 := (r10 z2).up (p7.tr P8 (Nat.le_refl _) (Nat.le_refl _)) (show nn2 ≤ nn2 + 1 by omega) (show _ ≤ (sF t tp b0 (a2 + 1)).2.2.1.2.1.length by rw [ew2]; exact Nat.le_refl _) (Nat.le_refl _) (show ([] ++ s2 : List (Int32 × Int32)).length ≤ s1.length + s2.length by simp)
                have := nvTwoS (x := x) (by rcases hx2 with z | z <;> rw [z] <;> decide) _ dr (sF t tp b0 (a2 + 1)).2.2.1.2.1.length (nn2 + 1) tx2 (s1.length + s2.length) m m2' nn2 _ _ g1 g2 g3 (by omega) L1 L2
                rw [List.nil_append, ← List.append_assoc, List.map_append, List.map_append, List.length_append, List.length_append]
                show nvX false _ dr _ _ _ (s1.length + s2.length + 1) nn2 (s1.map _ ++ s2.map _ ++ [payG t tp b0 (x, 0)])
                rw [payG_op (by rcases hx2 with z | z <;> rw [z] <;> decide)]
                exact this
              · have k41' : kfT t a2 ≠ 41 := k41
                rw [if_neg k41'] at h3
                cases Option.some.inj h3
                have f14 : FrV r dr J2 (u2 J2 r 14 (nI a')) := FrV.u hne (by omega)
                exact dead a' _ nn2 (by omega) ((((FI.tr q1).tr f5).tr r1).tr f14) ⟨u2_same, by omega, by rw [u2_a hne]; exact y6⟩ (by omega) (fun v L l1 l2 => ho L v (nn2 + 1) l1 l2 (by omega)) _ _
          · have k44' : kfT t a1 ≠ 44 := k44
            rw [if_neg k44'] at h2
            cases Option.some.inj h2
            have f14 : FrV r dr J (u2 J r 14 (nI a')) := FrV.u hne (by omega)
            have q14 : fT (u2 J r 14 (nI a')) r dr a' nn1 := ⟨u2_same, by omega, by rw [u2_a hne]; exact w6⟩
            refine c_msum0 (by omega) hq.1 q14.no ⟨hq.1, c_mtake0 (by omega) hq.1 q14.no ⟨hq.1, hq.1, hq.1, dr, p9, sb.1, ?_⟩⟩
            exact dead a' _ nn1 (by omega) ((FI.tr q1).tr f14) q14 (by omega) (fun v L l1 l2 => ho L v (nn1 + 1) l1 l2 (by omega)) _ _
      · rw [if_neg (fun z => hdd z.1)] at h'
        cases Option.some.inj h'
        have dp := v_deep hv2
        rw [psI_set]
        have d1 := dp (pI (pset B (u2 (u2 (u2 I r 12 (nI (a + 1))) r 14 (nI (a + 1))) r 13 (nI (dd + 1)))) r 12 + 1)
        refine c_msum0 (by omega) hq.1 d1.2.no ⟨hq.1, c_mtake0 (by omega) hq.1 d1.2.no ⟨hq.1, c_msum0 (by omega) hq.1 d1.2.no ⟨hq.1, c_mtake0 (by omega) hq.1 d1.2.no ⟨hq.1, hq.1, hq.1, dr, p9, sb.1, ?_⟩⟩⟩⟩
        rw [psI_set]
        refine c_mnode (by omega) sb (by rw [u2_a hne]; exact d1.2.2.2) (by omega) ⟨_, rfl, _, rfl, ?_⟩
        refine ho _ _ (nn + 1) (((f1.tr d1.1).tr (FrV.u hne (by omega))).tr (nodeJ_fr (r := r) (tx := 0) hyd).1) ((d1.2.u hne (by decide)).node hyd) (by omega)
    · have k40' : kfT t (a + 1) ≠ 40 := k40
      rw [if_neg (fun z => k40' z.2)] at h'
      cases Option.some.inj h'
      refine c_mfail1 (by omega) hq.1 u3 ⟨_, rfl, _, rfl, ?_⟩
      rw [u1]
      exact ho _ 0 nn (f1.tr (FrV.u hne (by omega))) ⟨u2_same, by omega, by rw [u2_a hne]; exact u6⟩ (by omega)
  -- which it is
  refine kD 8 8 (by decide) rfl (fun z => ⟨fun y => absurd y (by decide), fun _ => go80 8 8 (by omega) rfl z⟩) (fun z8 => ⟨fun _ => ⟨hq.1, ?_⟩, fun y => absurd rfl y⟩)
  refine kD 9 9 (by decide) rfl (fun z => ⟨fun y => absurd y (by decide), fun _ => go80 9 9 (by omega) rfl z⟩) (fun z9 => ⟨fun _ => ⟨hq.1, ?_⟩, fun y => absurd rfl y⟩)
  refine kD 10 10 (by decide) rfl (fun z => ⟨fun y => absurd y (by decide), fun _ => go80 10 10 (by omega) rfl z⟩) (fun z10 => ⟨fun _ => ⟨hq.1, ?_⟩, fun y => absurd rfl y⟩)
  refine kD 11 11 (by decide) rfl (fun z => ⟨fun y => absurd y (by decide), fun _ => go80 11 11 (by omega) rfl z⟩) (fun z11 => ⟨fun _ => ⟨hq.1, ?_⟩, fun y => absurd rfl y⟩)
  refine kD 2 2 (by decide) rfl (fun k2 => ⟨fun y => absurd y (by decide), fun _ => ⟨hq.1, hq.1, hq.1, dr, p9, hq.1, r + 29, hq.2.2.1.2.1, hq.1, dr, p9, sb.1, hq.1, ?_⟩⟩) (fun z2 => ⟨fun _ => ⟨hq.1, ?_⟩, fun y => absurd rfl y⟩)
  · rw [if_pos k2] at h
    rw [k2] at h
    rw [e12, nI_1, psI_set]
    have ecnt : pI (pset B (u2 I r 12 (nI (a + 1)))) dr 1 = I dr 1 := by
      show u2 I r 12 _ dr 1 = _
      rw [u2_a hne]
    rw [ecnt]
    refine v_known (K := fun v M1 => ∃ v1, (Sum.inl (some (.int v)) : pR) = .inl (some (.int v1)) ∧ K v1 M1) (by omega) hv (Or.inl rfl) (Or.inl ⟨rfl, rfl⟩) k2 h ?_
    cases ok with
    | true => intro J m nn' tx' er' et' q1 q2 q3 q4 q5 q6 q7 q8 q9 q10; exact ⟨_, rfl, ho J m nn' tx' er' et' q1 q2 q3 q4 q5 q6 q7 q8 q9 q10⟩
    | false => intro J v nn' q1 q2 q3; exact ⟨_, rfl, ho J v nn' q1 q2 q3⟩
  rw [if_neg z2, if_neg (fun z => z.elim z8 (fun z => z.elim z9 (fun z => z.elim z10 z11)))] at h
  have g241 : ∀ (k : Nat) (x : Int32), (k = 17 ∨ k = 18) → x = nI k → kfT t a = x → Go e mX13_one (fun r M1 => ∃ v, r = .inl (some (.int v)) ∧ K v M1) 241 ([some (.ref r), none], [], 0, 0) (pset B I) := go241
  refine sD 45 (by unfold sgn; decide) (by decide) (fun k45 => ⟨fun y => absurd y (by decide), fun _ => ⟨hq.1, ?_⟩⟩) (fun z45 => ⟨fun _ => ⟨hq.1, ?_⟩, fun y => absurd rfl y⟩)
  · -- less than nothing
    rw [if_neg (by rw [k45]; decide), if_neg n21, if_neg (by rw [k45]; decide), if_pos k45] at h
    refine c_mdeep (by omega) hq.1 t1 t2 t3 t11 (fun hdd => ⟨hq.1, hq.1, hq.1, dr, p9, hq.1, ?_⟩) (fun hdd => ⟨hq.1, hq.1, hq.1, dr, p9, hq.1, ?_⟩)
    · rw [if_pos hdd] at h
      obtain ⟨hv3, f3, p3, sm3, hlt3⟩ := v_in hv hdd (by rw [k45]; decide) (by rw [k45]; decide) (by rw [k45]; decide) (by rw [k45]; decide)
      have hb := bS hdd
      have e6 : pI (pset B (u2 I r 13 (nI (dd + 1)))) r 12 = nI a := by
        show u2 I r 13 _ r 12 = _
        rw [u2_j (by decide)]; exact t1
      rw [e6, nI_1, psI_set]
      rcases gB_some h with ⟨a1, s1, eg, hx'⟩ | ⟨a1, s1, eg, h2⟩
      · cases hx'
        have m1 : a + 1 ≤ a' := (gP_m hkm _ _ _ _ _ eg).1
        refine hone (a + 1) (dd + 1) false a' s1 _ er et nn tx e _ eg hv3 ⟨by omega, by rw [Nat.add_sub_cancel, k45]; decide⟩ (by omega) ?_
        intro J v nn' q1 q2 q3
        have q2' := q2.2.1
        refine ⟨sb.1, c_mnode (by omega) sb q2.2.2 (by omega) ⟨hq.1, hq.1, _, rfl, ?_⟩⟩
        rw [psI_set]
        exact ho _ _ (nn' + 1) (((f3.tr q1).tr (nodeJ_fr (r := r) (tx := 0) hyd).1).tr (FrV.u hne (by omega))) ((q2.node hyd).u hne (by decide)) (by omega)
      · have m1 : a + 1 ≤ a1 := (gP_m hkm _ _ _ _ _ eg).1
        cases Option.some.inj h2
        refine hone (a + 1) (dd + 1) true a' s1 _ er et nn tx e _ eg hv3 ⟨by omega, by rw [Nat.add_sub_cancel, k45]; decide⟩ (by omega) ?_
        intro J m nn1 tx1 er1 et1 q1 q2 q3 q4 q5 q6 q7 q8 q9 q10
        obtain ⟨w1, w2, w3, w4, w5, w6, w7, w8, w9, w10, w11⟩ := id q3
        refine ⟨sb.1, c_mnode (by omega) sb w6 (by omega) ⟨hq.1, hq.1, _, rfl, ?_⟩⟩
        obtain ⟨F8, P8, g1, g2, g3, -⟩ := nodeJ_fr (J := J) (r := r) (nn := nn1) (tx := tx1) (x := 110) (y := nI m) (z := 0) hyd
        have q3' : pT (nodeJ J dr nn1 110 (nI m) 0) r dr tp t n0 a' (dd + 1) er1 et1 (nn1 + 1) tx1 := q3.node hyd (by omega)
        have hv4 := (hv3.next q1 q3 q7 q8).next F8 q3' q7 smT.rf
        obtain ⟨hv5, f5, p5'⟩ := hv4.dep (dd' := dd) (by omega)
        have e7 : pI (pset B (nodeJ J dr nn1 110 (nI m) 0)) r 13 = nI (dd + 1) := q3'.2.1
        have e8 : psI (pset B (nodeJ J dr nn1 110 (nI m) 0)) r 13 (pI (pset B (nodeJ J dr nn1 110 (nI m) 0)) r 13 - 1) = pset B (u2 (nodeJ J dr nn1 110 (nI m) 0) r 13 (nI dd)) := by rw [e7, nI_pred, psI_set]
        show K (nI nn1) (psI (pset B (nodeJ J dr nn1 110 (nI m) 0)) r 13 (pI (pset B (nodeJ J dr nn1 110 (nI m) 0)) r 13 - 1))
        rw [e8]
        refine ho _ nn1 (nn1 + 1) tx1 er1 et1 (((f3.tr q1).tr F8).tr f5) (((p3.tr q2 (Nat.le_refl _) (Nat.le_refl _)).tr P8 q4 q5).tr p5' (by omega) q5) hv5.2.1 (by omega) q5 (by omega) q7 (sm3.tr q8) (by omega) (fun z => ?_)
        have L1 := (q10 z).up (P8.tr p5' (by omega) (Nat.le_refl _)) (show nn1 ≤ nn1 + 1 by omega) (Nat.le_refl _) (Nat.le_refl _) (show ([] ++ s1 : List (Int32 × Int32)).length ≤ s1.length by simp)
        rw [List.nil_append, List.map_append, List.length_append]
        refine ⟨by omega, Or.inr (Or.inr (Or.inr (Or.inl ⟨?_, m, _, ?_, L1, rfl⟩)))⟩
        · show u2 (nodeJ J dr nn1 110 (nI m) 0) r 13 (nI dd) (dr + 7) nn1 = 110
          rw [u2_a (by omega)]; exact g1
        · show u2 (nodeJ J dr nn1 110 (nI m) 0) r 13 (nI dd) (dr + 8) nn1 = nI m
          rw [u2_a (by omega)]; exact g2
    · rw [if_neg hdd] at h
      cases Option.some.inj h
      rw [psI_set]
      have d1 := v_deep hv (pI (pset B (u2 (u2 I r 14 (nI a)) r 13 (nI (dd + 1)))) r 12 + 1)
      refine c_mone0 (by omega) hq.1 d1.2.no ⟨sb.1, c_mnode (by omega) sb d1.2.2.2 (by omega) ⟨hq.1, hq.1, _, rfl, ?_⟩⟩
      rw [psI_set]
      exact ho _ _ (nn + 1) ((d1.1.tr (nodeJ_fr (r := r) (tx := 0) hyd).1).tr (FrV.u hne (by omega))) ((d1.2.node hyd).u hne (by decide)) (by omega)
  refine sD 40 (by unfold sgn; decide) (by decide) (fun k40 => ⟨fun y => absurd y (by decide), fun _ => ⟨hq.1, ?_⟩⟩) (fun z40 => ⟨fun _ => ⟨hq.1, ?_⟩, fun y => absurd rfl y⟩)
  · -- in brackets
    rw [if_neg (by rw [k40]; decide), if_neg n21, if_pos k40] at h
    refine CP_go (by omega) okX13_inner (Nat.le_of_ble_eq_true rfl) (bX13_inner_0 ⟨hq.1, ?_⟩)
    refine c_mdeep (by omega) hq.1 t1 t2 t3 t11 (fun hdd => ⟨hq.1, hq.1, hq.1, ?_⟩) (fun hdd => ⟨hq.1, hq.1, hq.1, ?_⟩)
    · rw [if_pos hdd] at h
      obtain ⟨hv3, f3, p3, sm3, hlt3⟩ := v_in hv hdd (by rw [k40]; decide) (by rw [k40]; decide) (by rw [k40]; decide) (by rw [k40]; decide)
      have hb := bS hdd
      have e6 : pI (pset B (u2 I r 13 (nI (dd + 1)))) r 12 = nI a := by
        show u2 I r 13 _ r 12 = _
        rw [u2_j (by decide)]; exact t1
      rw [e6, nI_1, psI_set]
      rcases gB_some h with ⟨a1, s1, eg, hx'⟩ | ⟨a1, s1, eg, h2⟩
      · cases hx'
        have m1 : a + 1 ≤ a' := (gP_m hkm _ _ _ _ _ eg).1
        refine hs (a + 1) (dd + 1) false a' s1 _ er et nn tx (e - 1) _ eg hv3 ⟨by omega, by rw [Nat.add_sub_cancel, k40]; decide⟩ (by omega) ?_
        intro J v nn' q1 q2 q3
        refine ⟨hq.1, c_mtake0 (by omega) hq.1 q2.no ⟨hq.1, hq.1, _, rfl, _, rfl, ?_⟩⟩
        rw [psI_set]
        exact ho _ _ nn' ((f3.tr q1).tr (FrV.u hne (by omega))) (q2.u hne (by decide)) (by omega)
      · have m1 : a + 1 ≤ a1 := (gP_m hkm _ _ _ _ _ eg).1
        refine hs (a + 1) (dd + 1) true a1 s1 _ er et nn tx (e - 1) _ eg hv3 ⟨by omega, by rw [Nat.add_sub_cancel, k40]; decide⟩ (by omega) ?_
        intro J m nn1 tx1 er1 et1 q1 q2 q3 q4 q5 q6 q7 q8 q9 q10
        have hv4 := hv3.next q1 q3 q7 q8
        obtain ⟨w1, w2, w3, w4, w5, w6, w7, w8, w9, w10, w11⟩ := id q3
        refine ⟨hq.1, c_mtakeS (by omega) hv4.1 w8 w1 w3 (Or.inl (by unfold sgn; decide)) (fun k41 => ⟨hq.1, hq.1, _, rfl, _, rfl, ?_⟩) (fun k41 => ⟨hq.1, hq.1, _, rfl, _, rfl, ?_⟩)⟩
        · have k41' : kfT t a1 = 41 := k41
          rw [if_pos k41'] at h2
          cases Option.some.inj h2
          obtain ⟨hv7, f7, p7, sm7⟩ := v_out hv4 (by rw [k41']; decide) (by rw [k41']; decide) (by rw [k41']; decide) (by rw [k41']; decide)
          have e7 : pI (pset B (u2 J r 12 (nI (a1 + 1)))) r 13 = nI (dd + 1) := by
            show u2 J r 12 _ r 13 = _
            rw [u2_j (by decide)]; exact w2
          rw [e7, nI_pred, psI_set]
          refine ho _ m nn1 tx1 er1 et1 ((f3.tr q1).tr f7) ((p3.tr q2 (Nat.le_refl _) (Nat.le_refl _)).tr p7 q4 q5) hv7.2.1 q4 q5 (by omega) hv7.2.2.1 ((sm3.tr q8).tr sm7) q9 (fun z => ?_)
          have ew2 : (sF t tp b0 (a1 + 1)).2.2.1.2.1 = (sF t tp b0 a1).2.2.1.2.1 := (sm7 z).2.2.1
          exact (q10 (sm7 z).1).up p7 (Nat.le_refl _) (by rw [ew2]; exact Nat.le_refl _) (Nat.le_refl _) (Nat.le_refl _)
        · have k41' : kfT t a1 ≠ 41 := k41
          rw [if_neg k41'] at h2
          cases Option.some.inj h2
          rw [psI_set]
          have q14 : fT (u2 J r 14 (nI a')) r dr a' nn1 := ⟨u2_same, by omega, by rw [u2_a hne]; exact w6⟩
          exact ho _ _ nn1 (((f3.tr q1).tr (FrV.u hne (by omega))).tr (FrV.u hne (by omega))) (q14.u hne (by decide)) (by omega)
    · rw [if_neg hdd] at h
      cases Option.some.inj h
      rw [psI_set]
      have d1 := v_deep hv (pI (pset B (u2 (u2 I r 14 (nI a)) r 13 (nI (dd + 1)))) r 12 + 1)
      refine c_msum0 (by omega) hq.1 d1.2.no ⟨hq.1, c_mtake0 (by omega) hq.1 d1.2.no ⟨hq.1, hq.1, _, rfl, _, rfl, ?_⟩⟩
      rw [psI_set]
      exact ho _ _ nn (d1.1.tr (FrV.u hne (by omega))) (d1.2.u hne (by decide)) (by omega)
  refine kD 17 17 (by decide) rfl (fun z => ⟨fun y => absurd y (by decide), fun _ => g241 17 17 (by omega) rfl z⟩) (fun z17 => ⟨fun _ => ⟨hq.1, ?_⟩, fun y => absurd rfl y⟩)
  refine kD 18 18 (by decide) rfl (fun z => ⟨fun y => absurd y (by decide), fun _ => g241 18 18 (by omega) rfl z⟩) (fun z18 => ⟨fun _ => ⟨hq.1, ?_⟩, fun y => absurd rfl y⟩)
  rw [if_neg (fun z => z.elim z17 z18), if_neg n21, if_neg z40, if_neg z45] at h
  cases Option.some.inj h
  refine c_mfail1 (by omega) hq.1 t3 ⟨_, rfl, ?_⟩
  rw [t1]
  exact ho _ 0 nn (FrV.u hne (by omega)) ⟨u2_same, by omega, by rw [u2_a hne]; exact t6⟩ (by omega)
