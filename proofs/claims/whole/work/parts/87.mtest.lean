/-! THE REFERENCE'S PARSER: sums and tests, whole -/
theorem v_prodG {B : pM} {r td dr : Nat} {tp : List Int32} {t : tK} {n0 : Nat} {b0 : bK} {N : List Nat} {n : Nat} (hone : vM B r td dr tp t n0 b0 N mX13_one 4 6 false n) (ht : vG B r td dr tp t n0 b0 N mX13_product [none] 4 10 false n) : vG B r td dr tp t n0 b0 N mX13_product [none] 4 10 false (n + 1) := by
  intro a dd ok a' s I er et nn tx d m0 s0 K h hv hm0 hs0 hd ho
  have hq := hv.1.1
  obtain ⟨t1, t2, t3, t4, t5, t6, t7, t8, t9, t10, t11⟩ := id hv.2.1
  have h400 := hv.1.2.2.2.2.2.1
  have e12 : pI (pset B I) r 12 = nI a := t1
  have ca : (nI a).toNatClampNeg = a := nI_clamp (by omega)
  rw [gP] at h
  have go25 : ∀ x : Int32, (x = 42 ∨ x = 47) → kfT t a = x → Go d mX13_product (fun r M1 => ∃ v, r = .inl (some (.int v)) ∧ K v M1) 25 ([some (.ref r), some (.int (nI m0)), none], [], 0, 0) (pset B I) := by
    intro x hx hk
    have ev : pI (pset B I) (r + 3) a = x := val_S hv.1 t8 (Or.inl (by rcases hx with z | z <;> subst z <;> (unfold sgn; decide))) (by rw [hk]; rcases hx with z | z <;> subst z <;> decide)
    rw [if_pos (by rw [hk]; exact hx), hk] at h
    refine bX13_product_25 ⟨hq.1, r + 3, hq.2.1.2.2.1, hq.1, 402, hq.2.2.2.1.2.2.1, by rw [e12]; exact vp_inN (by omega) (by omega), hq.1, hq.1, hq.1, dr, hq.2.1.2.2.2.2.2.2, hq.1, ?_⟩
    rw [e12, ca, ev, nI_1, psI_set]
    exact v_step hone ht (fun d J v Q h1 h2 h3 => t_prod0 h1 hq.1 h2 h3) h hk (by rcases hx with z | z <;> subst z <;> decide) (nvTwoS (by rcases hx with z | z <;> subst z <;> decide)) hv hm0 hs0 (by omega) (by omega) (by omega) ho
  refine bX13_product_5 ⟨hq.1, c_misS (by omega) hv.1 t8 t1 t3 (Or.inl (by unfold sgn; decide)) (fun z => ⟨fun y => absurd y (by decide), fun _ => go25 42 (Or.inl rfl) z⟩) (fun z1 => ⟨fun _ => ⟨hq.1, c_misS (by omega) hv.1 t8 t1 t3 (Or.inl (by unfold sgn; decide)) (fun z => ⟨fun y => absurd y (by decide), fun _ => go25 47 (Or.inr rfl) z⟩) (fun z2 => ⟨fun _ => ⟨_, rfl, ?_⟩, fun y => absurd rfl y⟩)⟩, fun y => absurd rfl y⟩)⟩
  have z1' : kfT t a ≠ 42 := z1
  have z2' : kfT t a ≠ 47 := z2
  rw [if_neg (fun z => z.elim z1' z2')] at h
  exact v_end h hv hm0 hs0 ho
theorem v_sumG {B : pM} {r td dr : Nat} {tp : List Int32} {t : tK} {n0 : Nat} {b0 : bK} {N : List Nat} {n : Nat} (hone : vM B r td dr tp t n0 b0 N mX13_product 5 5 false n) (ht : vG B r td dr tp t n0 b0 N mX13_sum [none] 5 9 false n) : vG B r td dr tp t n0 b0 N mX13_sum [none] 5 9 false (n + 1) := by
  intro a dd ok a' s I er et nn tx d m0 s0 K h hv hm0 hs0 hd ho
  have hq := hv.1.1
  obtain ⟨t1, t2, t3, t4, t5, t6, t7, t8, t9, t10, t11⟩ := id hv.2.1
  have h400 := hv.1.2.2.2.2.2.1
  have e12 : pI (pset B I) r 12 = nI a := t1
  have ca : (nI a).toNatClampNeg = a := nI_clamp (by omega)
  rw [gP] at h
  have go25 : ∀ x : Int32, (x = 43 ∨ x = 45) → kfT t a = x → Go d mX13_sum (fun r M1 => ∃ v, r = .inl (some (.int v)) ∧ K v M1) 25 ([some (.ref r), some (.int (nI m0)), none], [], 0, 0) (pset B I) := by
    intro x hx hk
    have ev : pI (pset B I) (r + 3) a = x := val_S hv.1 t8 (Or.inl (by rcases hx with z | z <;> subst z <;> (unfold sgn; decide))) (by rw [hk]; rcases hx with z | z <;> subst z <;> decide)
    rw [if_pos (by rw [hk]; exact hx), hk] at h
    refine bX13_sum_25 ⟨hq.1, r + 3, hq.2.1.2.2.1, hq.1, 402, hq.2.2.2.1.2.2.1, by rw [e12]; exact vp_inN (by omega) (by omega), hq.1, hq.1, hq.1, dr, hq.2.1.2.2.2.2.2.2, hq.1, ?_⟩
    rw [e12, ca, ev, nI_1, psI_set]
    exact v_step hone ht (fun d J v Q h1 h2 h3 => t_sum0 h1 hq.1 h2 h3) h hk (by rcases hx with z | z <;> subst z <;> decide) (nvTwoS (by rcases hx with z | z <;> subst z <;> decide)) hv hm0 hs0 (by omega) (by omega) (by omega) ho
  refine bX13_sum_5 ⟨hq.1, c_misS (by omega) hv.1 t8 t1 t3 (Or.inl (by unfold sgn; decide)) (fun z => ⟨fun y => absurd y (by decide), fun _ => go25 43 (Or.inl rfl) z⟩) (fun z1 => ⟨fun _ => ⟨hq.1, c_misS (by omega) hv.1 t8 t1 t3 (Or.inl (by unfold sgn; decide)) (fun z => ⟨fun y => absurd y (by decide), fun _ => go25 45 (Or.inr rfl) z⟩) (fun z2 => ⟨fun _ => ⟨_, rfl, ?_⟩, fun y => absurd rfl y⟩)⟩, fun y => absurd rfl y⟩)⟩
  have z1' : kfT t a ≠ 43 := z1
  have z2' : kfT t a ≠ 45 := z2
  rw [if_neg (fun z => z.elim z1' z2')] at h
  exact v_end h hv hm0 hs0 ho
theorem v_sums {B : pM} {r td dr : Nat} {tp : List Int32} {t : tK} {n0 : Nat} {b0 : bK} {N : List Nat} : ∀ n, vM B r td dr tp t n0 b0 N mX13_one 4 6 false n ∧ vG B r td dr tp t n0 b0 N mX13_product [none] 4 10 false n ∧ vM B r td dr tp t n0 b0 N mX13_product 5 5 false n ∧ vG B r td dr tp t n0 b0 N mX13_sum [none] 5 9 false n ∧ vM B r td dr tp t n0 b0 N mX13_sum 6 4 false n := by
  intro n
  induction n with
  | zero =>
    refine ⟨?_, ?_, ?_, ?_, ?_⟩
    · intro a dd ok a' s I er et nn tx d K h; exact nomatch h
    · intro a dd ok a' s I er et nn tx d m0 s0 K h; exact nomatch h
    · intro a dd ok a' s I er et nn tx d K h; exact nomatch h
    · intro a dd ok a' s I er et nn tx d m0 s0 K h; exact nomatch h
    · intro a dd ok a' s I er et nn tx d K h; exact nomatch h
  | succ n ih =>
    obtain ⟨i1, i2, i3, i4, i5⟩ := ih
    refine ⟨v_one i5 i1, v_prodG i1 i2, ?_, v_sumG i3 i4, ?_⟩
    · intro a dd ok a' s I er et nn tx d K h hv hp hd ho
      rw [gP] at h
      refine CP_go (by omega) okX13_product (Nat.le_of_ble_eq_true rfl) ?_
      refine bX13_product_0 ⟨hv.1.1.1, ?_⟩
      exact v_comb i1 i2 (fun d J v Q h1 h2 h3 => t_prod0 h1 hv.1.1.1 h2 h3) h hv hp (by omega) (by omega) (by omega) ho
    · intro a dd ok a' s I er et nn tx d K h hv hp hd ho
      rw [gP] at h
      refine CP_go (by omega) okX13_sum (Nat.le_of_ble_eq_true rfl) ?_
      refine bX13_sum_0 ⟨hv.1.1.1, ?_⟩
      exact v_comb i3 i4 (fun d J v Q h1 h2 h3 => t_sum0 h1 hv.1.1.1 h2 h3) h hv hp (by omega) (by omega) (by omega) ho
/-- a name behind begins -/
theorem sF_begins {t : tK} {tp : List Int32} {b0 : bK} {a : Nat} (ha : a < 2000) (hk : kfT t a = 13) (h20 : kfT t (a + 1) = 20) : ((sF t tp b0 (a + 1)).1 ≠ 0 → sF t tp b0 (a + 2) = sF t tp b0 (a + 1)) ∧ ((sF t tp b0 (a + 1)).1 = 0 → (sF t tp b0 (a + 2)).1 = 0 ∧ bSm (sF t tp b0 (a + 1)).2.2.1 (sF t tp b0 (a + 2)).2.2.1) := by
  have e1 : rat t.1 (nI (a + 1)) = 20 := (rat_nI (by omega)).trans h20
  have e2 : rat t.1 (nI (a + 1) - 1) = 13 := by rw [nI_pred]; exact (rat_nI (by omega)).trans hk
  have es : sF t tp b0 (a + 2) = _ := sF_succ (t := t) (tp := tp) (b0 := b0) (a := a + 1)
  have el : (lkAt t tp (a + 1) (sF t tp b0 (a + 1)).2.2.1 (sF t tp b0 (a + 1)).2.2.2).1 = 0 ∧ bSm (sF t tp b0 (a + 1)).2.2.1 (lkAt t tp (a + 1) (sF t tp b0 (a + 1)).2.2.1 (sF t tp b0 (a + 1)).2.2.2).2.1 := by
    unfold lkAt lkName
    rw [e1, if_neg (by decide), if_pos rfl, e2, if_neg (by decide), if_neg (by decide), if_neg (by decide), if_neg (by decide), if_neg (by decide), if_pos rfl]
    split
    · exact ⟨rfl, bSm.rf⟩
    · exact ⟨rfl, bSm.rf⟩
  refine ⟨fun h => ?_, fun h => ?_⟩
  · rw [es, if_neg h]
  · rw [es, if_pos h, if_pos el.1]
    exact ⟨rfl, el.2⟩
theorem v_begins {B : pM} {I : pIm} {r td dr n0 a dd nn tx d : Nat} {tp : List Int32} {t : tK} {b0 : bK} {N : List Nat} {er et : Int32} {ok : Bool} {a' : Nat} {s : List (Int32 × Int32)} {K : Int32 → pM → Prop} (hd : 4 ≤ d) (hv : vIn B I r td dr tp t n0 b0 N a dd er et nn tx) (hk : kfT t a = 13) (h : (if kfT t (a + 1) = 20 then some (true, a + 2, [(kfT t a, nI (a + 1))]) else some (false, a + 1, [])) = some (ok, a', s)) (ho : vOut B r dr tp t n0 b0 true I a dd nn tx [] ok a' s K) : pCall_i d mX13_begins (0, 0) [.ref r] (pset B I) K := by
  have hq := hv.1.1
  have hy := hq.lay
  have hyd : dr = r + 6 ∨ dr = r + 17 := by omega
  have hne : dr ≠ r := by omega
  have sb := hq.2.2.2.2.2.1
  have h400 := hv.1.2.2.2.2.2.1
  have h2000 := hv.1.2.1.2.1
  obtain ⟨hv1, f1, p1, sm1, hlt⟩ := hv.skip (by rw [hk]; decide) (by rw [hk]; decide) (by rw [hk]; decide) (Or.inl (by rw [hk]; decide))
  obtain ⟨t1, t2, t3, t4, t5, t6, t7, t8, t9, t10, t11⟩ := id hv1.2.1
  have e12 : pI (pset B I) r 12 = nI a := hv.2.1.1
  have p9 := hq.2.1.2.2.2.2.2.2
  have hnn := hv.2.1.2.2.2.2.2.2.2.2.1
  refine CP_go (by omega) okX13_begins (Nat.le_of_ble_eq_true rfl) (bX13_begins_0 ⟨hq.1, hq.1, hq.1, ?_⟩)
  rw [e12, nI_1, psI_set]
  refine c_mname1 (by omega) hv1.1 t8 t1 t3 (fun h20 => ⟨hq.1, c_misOk1 (by omega) hq.1 (by rw [u2_j (by decide)]; exact t3) ⟨fun z => absurd z (by decide), fun _ => ⟨hq.1, dr, p9, sb.1, ?_⟩⟩⟩) (fun h20 => ⟨hq.1, c_misOk0 (by omega) hq.1 (by rw [u2_same]; exact fun z => nI_pos (n := a + 1) (by omega) (by rw [z]; decide)) ⟨fun _ => ⟨_, rfl, ?_⟩, fun z => absurd rfl z⟩⟩)
  · rw [if_pos h20] at h
    cases Option.some.inj h
    obtain ⟨p, hg⟩ := hv.1.2.2.2.2.2.2.2
    have htl := hv.1.2.2.2.2.1
    have hlt2 : a + 1 < n0 := hv.1.2.2.2.2.2.2.1.lt h20 (by decide) (by decide) (by decide)
    have hst := sT_mono hv.1.2.2.2.2.2.2.2 htl hlt2
    obtain ⟨n1, n2, n3, n4, n5⟩ := name_tok h2000 hv.1.2.2.1 hg (by omega) h20
    obtain ⟨q1, q2, q3, -⟩ := hg.2.2.1 (a + 1) n1
    have htx : tx ≤ sT t (a + 1) := t10
    have K1 := hq.2.2.2.1.1
    have K4 := hq.2.2.2.1.2.2.2.1
    have K5 := hq.2.2.2.1.2.2.2.2.1
    have KT := sb.2.2.2.2.2.2.2.2.2.2.2
    have PT := sb.2.1.2.2.2.2.2.2.2.2.2
    have va : vp_in (nI (a + 1)) 402 := vp_inN (by omega) (by omega)
    have ca : (nI (a + 1)).toNatClampNeg = a + 1 := nI_clamp (by omega)
    have ent : pI (pset B (u2 (u2 I r 12 (nI (a + 1))) r 12 (nI (a + 1 + 1)))) dr 14 = nI tx := by
      show u2 (u2 I r 12 _) r 12 _ dr 14 = _
      rw [u2_a hne]; exact t7
    rw [ent]
    have F12 : FrV r dr (u2 I r 12 (nI (a + 1))) (u2 (u2 I r 12 (nI (a + 1))) r 12 (nI (a + 1 + 1))) := FrV.u hne (by omega)
    have key : ∀ (m k : Nat) (J : pIm), lT tp t (a + 1) - k = m → k ≤ lT tp t (a + 1) → FrV r dr (u2 (u2 I r 12 (nI (a + 1))) r 12 (nI (a + 1 + 1))) J → J r = u2 (u2 I r 12 (nI (a + 1))) r 12 (nI (a + 1 + 1)) r → J dr 10 = nI nn → J dr 14 = nI (tx + k) → (∀ y, y ≠ dr → y ≠ dr + 10 → J y = u2 (u2 I r 12 (nI (a + 1))) r 12 (nI (a + 1 + 1)) y) → (∀ j, j < tx → J (dr + 10) j = u2 (u2 I r 12 (nI (a + 1))) r 12 (nI (a + 1 + 1)) (dr + 10) j) → (∀ j x, (copyl tp (nI (sT t (a + 1))) (lT tp t (a + 1)))[j]? = some x → j < k → J (dr + 10) (tx + j) = x) → Go (d - 1) mX13_begins (fun r M1 => ∃ v, r = .inl (some (.int v)) ∧ K v M1) 34 ([some (.ref r), some (.int (nI (a + 1))), some (.int (nI tx)), some (.int (nI k))], [], 0, 0) (pset B J) := by
      intro m
      induction m with
      | zero =>
        intro k J hm hk2 F jr j10 j14 jo jt jn
        have hE := (hv1.1.f F12.x).f F.x
        have e5 : pI (pset B J) (r + 5) (a + 1) = nI (lT tp t (a + 1)) := hE.2.2.2.1.2.2.2.1 _ _ q3
        have ek : k = lT tp t (a + 1) := by omega
        refine bX13_begins_34 ⟨hq.1, r + 5, hq.2.1.2.2.2.2.1, 402, K5, va, ?_⟩
        rw [ca, e5]
        refine ⟨fun _ => ⟨hq.1, dr, p9, hq.1, r + 5, hq.2.1.2.2.2.2.1, 402, K5, va, sb.1, ?_⟩, fun g => absurd (nI_le (by omega) (by omega)) g⟩
        rw [e5]
        refine c_mnode (by omega) sb j10 (by omega) ⟨_, rfl, ?_⟩
        obtain ⟨F2, P2, g1, g2, g3, -⟩ := nodeJ_fr (J := J) (r := r) (nn := nn) (tx := tx + k) (x := 13) (y := nI tx) (z := nI (lT tp t (a + 1))) hyd
        obtain ⟨s1, s2⟩ := sF_begins (b0 := b0) (tp := tp) (show a < 2000 by omega) hk h20
        have pj : pT J r dr tp t n0 (a + 2) dd er et nn (tx + k) := by
          refine ⟨by rw [jr]; exact u2_same, by rw [jr, u2_j (by decide)]; exact t2, by rw [jr, u2_j (by decide)]; exact t3, by rw [jr, u2_j (by decide)]; exact t4, by rw [jr, u2_j (by decide)]; exact t5, j10, j14, by omega, by omega, ?_, t11⟩
          show tx + k ≤ sT t (a + 1 + 1)
          omega
        have kp : kpV dr (u2 (u2 I r 12 (nI (a + 1))) r 12 (nI (a + 1 + 1))) J nn tx := ⟨fun j _ => by rw [jo _ (by omega) (by omega), jo _ (by omega) (by omega), jo _ (by omega) (by omega)]; exact ⟨rfl, rfl, rfl⟩, jt⟩
        have e1 : eT (sF t tp b0 (a + 2)) (a + 2) er et := by
          rcases hv1.2.2.1 with ⟨z, ez⟩ | ⟨z, q⟩
          · exact Or.inl ⟨(s2 z).1, ez⟩
          · rw [s1 z]; exact Or.inr ⟨z, q.1, by omega, q.2.2⟩
        have sm2 : smT (sF t tp b0 (a + 1)) (sF t tp b0 (a + 2)) := by
          rcases hv1.2.2.1 with ⟨z, ez⟩ | ⟨z, q⟩
          · exact fun _ => ⟨z, (s2 z).2⟩
          · rw [s1 z]; exact smT.rf
        refine ho (nodeJ J dr nn 13 (nI tx) (nI (lT tp t (a + 1)))) nn (nn + 1) (tx + k) er et (((f1.tr F12).tr F).tr F2) (((p1.tr (kpV.u (r := r) hyd) (Nat.le_refl _) (Nat.le_refl _)).tr kp (Nat.le_refl _) (Nat.le_refl _)).tr P2 (Nat.le_refl _) (by omega)) (pj.node hyd (by omega)) (by omega) (by omega) (by omega) e1 (sm1.tr sm2) (by omega) (fun _ => ?_)
        rw [hk]
        have pg : payG t tp b0 (13, nI (a + 1)) = (13, copyl tp (nI (sT t (a + 1))) (lT tp t (a + 1))) := by
          unfold payG
          show ((13 : Int32), if (13 : Int32) = 13 then spl tp t (nI (a + 1)) else _) = _
          rw [if_pos rfl, n5]
        show nvX true _ dr _ _ _ 1 nn [payG t tp b0 (13, nI (a + 1))]
        rw [pg]
        refine ⟨by omega, Or.inr (Or.inl ⟨g1, tx, copyl tp (nI (sT t (a + 1))) (lT tp t (a + 1)), g2, by rw [copyl_len]; exact g3, by rw [copyl_len]; omega, fun j x hx => ?_, rfl⟩)⟩
        have hj : j < lT tp t (a + 1) := by
          have := (List.getElem?_eq_some_iff.mp hx).1
          rw [copyl_len] at this
          exact this
        show nodeJ J dr nn 13 (nI tx) (nI (lT tp t (a + 1))) (dr + 10) (tx + j) = x
        rw [P2.2 (tx + j) (by omega)]
        exact jn j x hx (by omega)
      | succ m ih =>
        intro k J hm hk2 F jr j10 j14 jo jt jn
        have hE := (hv1.1.f F12.x).f F.x
        have e5 : pI (pset B J) (r + 5) (a + 1) = nI (lT tp t (a + 1)) := hE.2.2.2.1.2.2.2.1 _ _ q3
        have e4 : pI (pset B J) (r + 4) (a + 1) = nI (sT t (a + 1)) := hE.2.2.2.1.2.2.1 _ _ q1
        have e14 : pI (pset B J) dr 14 = nI (tx + k) := j14
        have hin : sT t (a + 1) + k < tp.length := by omega
        have eb : pI (pset B J) (r + 1) (sT t (a + 1) + k) = rat tp (nI (sT t (a + 1) + k)) := by
          have e := List.getElem?_eq_getElem hin
          rw [rat_in e (by omega)]
          exact hE.2.1.2.2 _ _ e
        refine bX13_begins_34 ⟨hq.1, r + 5, hq.2.1.2.2.2.2.1, 402, K5, va, ?_⟩
        rw [ca, e5]
        refine ⟨fun g => absurd ((nI_leI (by omega) (by omega)).mp g) (by omega), fun _ => ⟨hq.1, dr, p9, sb.1, dr + 10, PT, hq.1, dr, p9, sb.1, hq.1, r + 1, hq.2.1.1, hq.1, r + 4, hq.2.1.2.2.2.1, 402, K4, va, ?_⟩⟩
        rw [e4, nI_add, nI_clamp (show sT t (a + 1) + k < 2 ^ 31 by omega)]
        refine ⟨2000, K1, vp_inN (by omega) (by omega), 2000, KT, by rw [e14]; exact vp_inN (by omega) (by omega), hq.1, dr, p9, sb.1, sb.1, ?_⟩
        rw [e14, nI_clamp (show tx + k < 2 ^ 31 by omega), eb, psI_set]
        have e6 : pI (pset B (u2 J (dr + 10) (tx + k) (rat tp (nI (sT t (a + 1) + k))))) dr 14 = nI (tx + k) := by
          show u2 J (dr + 10) _ _ dr 14 = _
          rw [u2_a (by omega)]; exact j14
        rw [e6, nI_1, psI_set, nI_1]
        refine ih (k + 1) _ (by omega) (by omega) (F.tr ⟨fun y h1 h2 h3 => by rw [u2_a h2, u2_a (by omega)], fun f _ _ _ _ _ => by rw [u2_a (by omega), u2_a (by omega)], fun f h1 h2 => by rw [u2_j h2, u2_a (by omega)]⟩) (by rw [u2_a (by omega), u2_a (by omega)]; exact jr) (by rw [u2_j (by decide), u2_a (by omega)]; exact j10) u2_same (fun y h1 h2 => by rw [u2_a h1, u2_a h2]; exact jo y h1 h2) (fun j hj => by rw [u2_a (by omega), u2_j (by omega)]; exact jt j hj) (fun j x hx hj => ?_)
        rw [u2_a (by omega)]
        by_cases c : j = k
        · subst c
          rw [u2_same]
          rw [copyl_at (by omega) (by omega)] at hx
          exact Option.some.inj hx
        · rw [u2_j (by omega)]
          exact jn j x hx (by omega)
    exact key _ 0 _ rfl (by omega) FrV.rf rfl (by rw [u2_a hne]; exact t6) (by rw [u2_a hne]; exact t7) (fun _ _ _ => rfl) (fun _ _ => rfl) (fun j x _ hj => absurd hj (by omega))
  · rw [if_neg h20] at h
    cases Option.some.inj h
    exact ho _ 0 nn (f1.tr (FrV.u hne (by omega))) ⟨u2_same, by omega, by rw [u2_a hne]; exact t6⟩ (by omega)
