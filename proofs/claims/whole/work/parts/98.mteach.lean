/-! THE REFERENCE: teach -/
theorem c_mchange {d : Nat} (hd : 1 ≤ d) {B : pM} {J : pIm} {r td dr : Nat} {K : pM → Prop} (hq : mdS B r td dr) (h : K (pset (psP (psP B r 8 (dr + 1)) r 9 (td + 1)) (u2 (u2 (u2 J r 18 0) r 19 0) r 20 (-1)))) : pCall_v d mX13_change (0, 0) [.ref r] (pset B J) K := by
  have p8 := hq.2.1.2.2.2.2.2.1
  have p9 := hq.2.1.2.2.2.2.2.2
  refine CP_go (by omega) okX13_change (Nat.le_of_ble_eq_true rfl) (bX13_change_0 ⟨hq.1, td, p8, hq.1, dr, p9, hq.1, hq.1, hq.1, hq.1, hq.1, rfl, ?_⟩)
  rw [psP_pset, psP_pset, psI_set, psI_set, psI_set]
  exact h
theorem Ar.nil {f : Nat → Int32} : Ar f [] := fun j x hx => absurd hx (by simp)
theorem m_teach {d : Nat} (hd : 110 ≤ d) {B : pM} {I : pIm} {r td dr : Nat} {s : wS} {cd : String → Int32} {K : Int32 → pM → Prop} (hq : mdS B r td dr) (hl : modD I r td s) (htb : byteL s.1) (h : modO B I r cd (teachO s) K) : pCall_i d mX13_teach (0, 0) [.ref r] (pset B I) K := by
  obtain ⟨tp, w0, bk, hd0⟩ := s
  have htb : byteL tp := htb
  have hy := hq.lay
  have hne : dr ≠ r := by omega
  have sb := hq.2.2.2.2.2.1
  have p9 := hq.2.1.2.2.2.2.2.2
  have p6 := hq.2.1.2.2.2.1
  have K4 := hq.2.2.2.1.2.2.2.1
  have eO : teachO (tp, w0, bk, hd0) = if (rdOut tp).1 = 0 then (rI 0, ([], (rdOut tp).2.1, (rdOut tp).2.2, [], 0, -1, hd0.2.2.2)) else (rI (rdOut tp).1, ([], (rdOut tp).2.1, bk, hd0)) := rfl
  rw [eO] at h
  obtain ⟨hT, hW, hM, hH⟩ := hl
  have hT : Tp I r tp := hT
  have hM : mbD I td bk := hM
  have hH : mhD I r hd0 := hH
  have h2000 := hT.2.1
  obtain ⟨n0, hn1, hn2, hn3, hkm, hst⟩ := tk_kfM h2000
  obtain ⟨n0', g1, g2, g3, g4, g5⟩ := tkT_fin h2000
  have en : n0' = n0 := by omega
  subst en
  obtain ⟨⟨ok, a', sl⟩, hrd⟩ := gRd_tot hkm (nm := nmT tp (tkT tp)) 5000 0 (by omega)
  have hP : rdP tp = (ok, a', sl) := by unfold rdP; rw [hrd]; rfl
  have ha' : a' ≤ n0' := (gRd_m hkm _ _ _ hrd).2 (by omega)
  refine CP_go (by omega) okX13_teach (Nat.le_of_ble_eq_true rfl) (bX13_teach_0 ⟨hq.1, hq.1, ?_⟩)
  rw [psI_set]
  refine c_msplit (by omega) hq (hT.cg (u2_j (by decide)) (u2_a (by omega))) htb (fun J1 F1 T1 => ⟨hq.1, dr, p9, sb.1, c_mempty (by omega) sb (fun J2 e2 z2 k2 => ⟨hq.1, hq.1, hq.1, hq.1, ?_⟩)⟩)
  rw [psI_set, psI_set, psI_set, psI_set]
  have T1 : tkD J1 r tp (tkT tp) := T1
  have r1 : J1 r = u2 I r 0 0 r := F1 r (by omega)
  have r2 : J2 r = J1 r := e2 r (by omega) (by omega)
  generalize hJ3 : u2 (u2 (u2 (u2 J2 r 12 0) r 13 0) r 14 (-1)) r 15 0 = J3
  have j3 : ∀ y, y ≠ r → J3 y = J2 y := fun y hy2 => by rw [← hJ3, u2_a hy2, u2_a hy2, u2_a hy2, u2_a hy2]
  have f3 : ∀ f, f ≠ 12 → f ≠ 13 → f ≠ 14 → f ≠ 15 → J3 r f = J1 r f := fun f f1 f2 f3 f4 => by rw [← hJ3, u2_j f4, u2_j f3, u2_j f2, u2_j f1, r2]
  have v12 : J3 r 12 = 0 := by rw [← hJ3, u2_j (by decide), u2_j (by decide), u2_j (by decide)]; exact u2_same
  have v13 : J3 r 13 = 0 := by rw [← hJ3, u2_j (by decide), u2_j (by decide)]; exact u2_same
  have v14 : J3 r 14 = -1 := by rw [← hJ3, u2_j (by decide)]; exact u2_same
  have v15 : J3 r 15 = 0 := by rw [← hJ3]; exact u2_same
  clear hJ3
  have FX : FrX r dr J1 J3 := ⟨fun y y1 y2 y3 y4 => by rw [j3 y y1]; exact e2 y (by omega) (by omega), fun f f1 f2 f3' f4 _ => f3 f f1 f2 f3' f4⟩
  have hE1 : tkE B J1 r td dr tp (tkT tp) n0' := ⟨hq, hT.cg (by rw [r1]; exact u2_j (by decide)) (by rw [F1 (r + 1) (by omega), u2_a (by omega)]), htb, T1, hn2, hn1, hkm, tkT_geo h2000⟩
  have jdr : J3 dr = J2 dr := j3 dr hne
  have hv3 : lSx B r td dr tp (tkT tp) n0' (bKs sl) J3 0 0 0 0 (J3 r 16) [] [] 0 0 := ⟨hE1.f FX, ⟨v12, v13, v14, v15, rfl, by rw [jdr]; exact z2.2.2.2.2.1, by rw [jdr]; exact z2.2.2.2.2.2, Nat.zero_le _, Nat.le_refl _, Nat.zero_le _, by omega⟩, Or.inl ⟨rfl, rfl⟩, ⟨by rw [jdr]; exact z2.1, by simp, fun k x hx => absurd hx (by simp)⟩, ⟨by rw [jdr]; exact z2.2.1, by simp, fun k x hx => absurd hx (by simp)⟩, ⟨by rw [jdr]; exact z2.2.2.1, by omega⟩, ⟨by rw [jdr]; exact z2.2.2.2.1, by omega⟩⟩
  have tg : (bKs sl).2.2.2.2.2.1 = [] := bBs_1.1
  have nn0 : nsB (bKs sl) = [] := bBs_1.2
  have hS3 : (sF (tkT tp) tp (bKs sl) 0).1 = 0 → lSem (tkT tp) tp (bKs sl) J3 dr (sF (tkT tp) tp (bKs sl) 0).2.2.1 [] [] 0 0 0 0 [] := by
    intro _
    show lSem (tkT tp) tp (bKs sl) J3 dr (bKs sl) [] [] 0 0 0 0 []
    refine ⟨⟨rfl, rfl, rfl, by rw [tg]; rfl⟩, ⟨fun w l hm => absurd hm (by simp [bKs, bK0]), Ar.nil, Ar.nil, Ar.nil, ⟨List.length_replicate, List.length_replicate, fun c hc => Or.inl ⟨?_, ?_⟩⟩⟩, ⟨rfl, rfl, rfl⟩, fun i x hx => absurd hx (by simp)⟩
    · show rat (List.replicate 128 (-1)) (nI c) = -1
      exact rat_in (List.getElem?_replicate.trans (if_pos hc)) (by rw [List.length_replicate]; omega)
    · rw [j3 _ (by omega)]; exact k2 c hc
  -- what stands at the end
  have k0 : ∀ J : pIm, FrX r dr J1 J → J r 0 = 0 := fun J F => by rw [F.2 0 (by decide) (by decide) (by decide) (by decide) (by decide), r1]; exact u2_same
  have kI : ∀ J : pIm, FrX r dr J1 J → ∀ f, f ≠ 0 → f ≠ 12 → f ≠ 13 → f ≠ 14 → f ≠ 15 → f ≠ 16 → J r f = I r f := fun J F f f0 f1 f2 f3 f4 f5 => by rw [F.2 f f1 f2 f3 f4 f5, r1]; exact u2_j f0
  have kC : ∀ J : pIm, FrX r dr J1 J → ∀ y, y ≠ r → (y < dr ∨ dr + 11 ≤ y) → y ≠ r + 28 → y ≠ r + 29 → (y < r + 2 ∨ r + 6 ≤ y) → J y = I y := fun J F y y1 y2 y3 y4 y5 => by rw [F.1 y y1 y2 y3 y4, F1 y (by omega), u2_a y1]
  have fin : ∀ (J : pIm) (v w : Int32) (bb : bK), FrX r dr J1 J → rdOut tp = (v, w, bb) → v ≠ 0 → K v (pset B (u2 (u2 J r 3 w) r 2 0)) := by
    intro J v w bb F er hv0
    rw [er, if_neg (show ¬ (v, w, bb).1 = 0 from hv0)] at h
    have c2 : ∀ y, y ≠ r → u2 (u2 J r 3 w) r 2 0 y = J y := fun y hy2 => by rw [u2_a hy2, u2_a hy2]
    have c3 : ∀ f, f ≠ 2 → f ≠ 3 → u2 (u2 J r 3 w) r 2 0 r f = J r f := fun f f1 f2 => by rw [u2_j f1, u2_j f2]
    refine mod_stay hq ⟨⟨u2_same, by simp, fun j x hx => absurd hx (by simp)⟩, ?_, ?_, ?_⟩ (fun x hx => ?_) ?_ h
    · rw [u2_j (by decide)]; exact u2_same
    · exact hM.cg (fun x x1 x2 => by rw [c2 x (by omega)]; exact kC J F x (by omega) (by omega) (by omega) (by omega) (by omega))
    · exact hH.cg (fun f hf => by rw [c3 f (by omega) (by omega)]; exact kI J F f (by omega) (by omega) (by omega) (by omega) (by omega) (by omega)) (by rw [c2 _ (by omega)]; exact kC J F (r + 30) (by omega) (by omega) (by omega) (by omega) (by omega))
    · rw [c2 x (by omega)]; exact kC J F x (by omega) (by omega) (by omega) (by omega) (by omega)
    · rw [c3 0 (by decide) (by decide)]; exact k0 J F
  -- where a token begins
  have beg : ∀ (J : pIm) (x : Nat), FrX r dr J1 J → x ≤ n0' → pI (pset B J) (r + 4) x = rat (tkT tp).2.1 (nI x) := by
    intro J x F hx
    have e := List.getElem?_eq_getElem (show x < (tkT tp).2.1.length by omega)
    rw [rat_in e (by omega)]
    exact (hE1.f F).2.2.2.1.2.2.1 _ _ e
  refine v_lines (I0 := J3) (by omega) 5000 0 J3 0 0 0 (J3 r 16) [] [] 0 0 [] ok a' sl FrX.rf hv3 hS3 hrd (fun eo k24 J nn tx er et NT NW nr nb F hv hS => ?_) (fun eo J F h14 hf => ?_)
  rotate_left
  · subst eo
    have FJ := FX.tr F
    have n14 : ¬ J r 14 = -1 := by rw [h14]; exact fun z => nI_pos (n := a') (by omega) (by rw [z]; decide)
    have e14 : pI (pset B J) r 14 = nI a' := h14
    have eR : rdOut tp = (1, rat (tkT tp).2.1 (nI a'), bK0) := by unfold rdOut; rw [hP]
    refine bX13_teach_62 ⟨hq.1, c_misOk0 (by omega) hq.1 n14 ⟨fun _ => ⟨hq.1, hq.1, c_misOk0 (by omega) hq.1 n14 ⟨fun _ => ⟨fun z => absurd z (by decide), fun _ => ⟨hq.1, r + 4, p6, 402, K4, ?_⟩⟩, fun z => absurd rfl z⟩⟩, fun z => absurd rfl z⟩⟩
    rw [e14, nI_clamp (show a' < 2 ^ 31 by omega), beg J a' FJ ha']
    refine ⟨vp_inN (by omega) (by omega), hq.1, hq.1, fun z => absurd z (by decide), fun _ => ⟨_, rfl, ?_⟩⟩
    rw [psI_set, psI_set]
    exact fin J 1 _ bK0 FJ eR (by decide)
  · subst eo
    have FJ := FX.tr F
    have e : a' = n0' := by
      refine Decidable.not_not.mp (fun z => (g4 a' (by omega)).1 k24)
    subst e
    obtain ⟨hE, pt, et1, -⟩ := id hv
    obtain ⟨t1, t2, t3, t4, t5, t6, t7, t8, t9, t10, t11⟩ := pt
    obtain ⟨x1, x2⟩ := sF_skip (show a' < 2 ^ 31 by omega) (by rw [k24]; decide) (by rw [k24]; decide) (Or.inl (by rw [k24]; decide)) et1
    have eM : rdM tp = sF (tkT tp) tp (bKs sl) (a' + 1) := by unfold rdM; rw [hP, hn2]; rfl
    have eR : rdOut tp = if (sF (tkT tp) tp (bKs sl) (a' + 1)).1 = 0 then (0, -1, lnkB (sF (tkT tp) tp (bKs sl) (a' + 1)).2.2.1 (sF (tkT tp) tp (bKs sl) (a' + 1)).2.2.2) else ((sF (tkT tp) tp (bKs sl) (a' + 1)).1, rat (tkT tp).2.1 (nI (sF (tkT tp) tp (bKs sl) (a' + 1)).2.1), bK0) := by unfold rdOut; rw [hP, eM]
    have e15 : pI (pset B J) r 15 = er := t4
    have e16 : pI (pset B J) r 16 = et := t5
    refine bX13_teach_62 ⟨hq.1, c_misOk1 (by omega) hq.1 t3 ⟨fun z => absurd z (by decide), fun _ => ⟨hq.1, hq.1, c_misOk1 (by omega) hq.1 t3 ⟨fun z => absurd z (by decide), fun _ => ⟨hq.1, ?_⟩⟩⟩⟩⟩
    rw [e15, e16]
    rcases x1 with ⟨z, ez⟩ | ⟨z, ez, hlt, e2'⟩
    · rw [if_pos z] at eR
      rw [eR, if_pos (show ((0 : Int32), (-1 : Int32), lnkB (sF (tkT tp) tp (bKs sl) (a' + 1)).2.2.1 (sF (tkT tp) tp (bKs sl) (a' + 1)).2.2.2).1 = 0 from rfl)] at h
      refine ⟨fun _ => ⟨hq.1, hq.1, fun _ => ⟨hq.1, ?_⟩, fun y => absurd ez y⟩, fun y => absurd ez y⟩
      rw [psI_set, psI_set]
      obtain ⟨i1, i2, i3, i4⟩ := sF_inv nn0 (a' + 1) (by omega) z
      have hS' : lSem (tkT tp) tp (bKs sl) J dr (sF (tkT tp) tp (bKs sl) (a' + 1)).2.2.1 NT NW nr nb nn tx sl := (hS (x2 z).1).cg (fun _ _ _ => rfl) (x2 z).2
      have md := lSem.md hv hS' i1 (gRd_st hkm _ _ _ _ hrd).1 i4
      obtain ⟨sw, ex⟩ := hq.swap
      refine c_mchange (by omega) hq ⟨_, rfl, ?_⟩
      rw [ez]
      generalize hX : u2 (u2 (u2 (u2 (u2 J r 3 (-1)) r 2 0) r 18 0) r 19 0) r 20 (-1) = X
      have c2 : ∀ y, y ≠ r → X y = J y := fun y hy2 => by rw [← hX, u2_a hy2, u2_a hy2, u2_a hy2, u2_a hy2, u2_a hy2]
      have c3 : ∀ f, f ≠ 2 → f ≠ 3 → f ≠ 18 → f ≠ 19 → f ≠ 20 → X r f = J r f := fun f f1 f2 f3 f4 f5 => by rw [← hX, u2_j f5, u2_j f4, u2_j f3, u2_j f1, u2_j f2]
      have y2 : X r 2 = 0 := by rw [← hX, u2_j (by decide), u2_j (by decide), u2_j (by decide)]; exact u2_same
      have y3 : X r 3 = -1 := by rw [← hX, u2_j (by decide), u2_j (by decide), u2_j (by decide), u2_j (by decide)]; exact u2_same
      have y18 : X r 18 = 0 := by rw [← hX, u2_j (by decide), u2_j (by decide)]; exact u2_same
      have y19 : X r 19 = 0 := by rw [← hX, u2_j (by decide)]; exact u2_same
      have y20 : X r 20 = -1 := by rw [← hX]; exact u2_same
      clear hX
      refine h _ X dr td 0 ex sw ⟨⟨y2, by simp, fun j x hx => absurd hx (by simp)⟩, y3, ?_, y18, by simp, Ar.nil, y19, y20, ?_⟩ (fun x hx => ?_) ⟨?_, rfl⟩
      · exact md.cg (fun x x1 x2 => c2 x (by omega))
      · rw [c3 21 (by decide) (by decide) (by decide) (by decide) (by decide), kI J FJ 21 (by decide) (by decide) (by decide) (by decide) (by decide) (by decide)]
        exact hH.2.2.2.2.2
      · rw [c2 x (by omega)]; exact kC J FJ x (by omega) (by omega) (by omega) (by omega) (by omega)
      · rw [c3 0 (by decide) (by decide) (by decide) (by decide) (by decide)]; exact k0 J FJ
    · rw [if_neg z] at eR
      have er0 : er ≠ 0 := by rw [ez]; exact z
      refine ⟨fun y => absurd y er0, fun _ => ⟨hq.1, r + 4, p6, 402, K4, ?_⟩⟩
      rw [e2', nI_clamp (show (sF (tkT tp) tp (bKs sl) (a' + 1)).2.1 < 2 ^ 31 by omega), beg J _ FJ (by omega)]
      refine ⟨vp_inN (by omega) (by omega), hq.1, hq.1, fun y => absurd y er0, fun _ => ⟨_, rfl, ?_⟩⟩
      rw [psI_set, psI_set]
      refine fin J er _ bK0 FJ ?_ er0
      rw [eR, ez]
