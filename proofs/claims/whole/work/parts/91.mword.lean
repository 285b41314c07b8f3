/-! THE REFERENCE'S PARSER: a word's line -/
theorem c_mnumW {d : Nat} (hd : 2 ≤ d) {B : pM} {J : pIm} {r td dr n0 a : Nat} {tp : List Int32} {t : tK} {hi er et : Int32} {K : Int32 → pM → Prop} (hE : tkE B J r td dr tp t n0) (ha : a ≤ n0) (h12 : J r 12 = nI a) (h14 : J r 14 = -1) (h15 : J r 15 = er) (h16 : J r 16 = et) (het : er ≠ 0 → et ≠ nI a) (h1 : kfT t a = 21 → ∀ J', (∀ y, y ≠ r → J' y = J y) → (∀ f, f ≠ 12 → f ≠ 15 → f ≠ 16 → J' r f = J r f) → J' r 12 = nI (a + 1) → J' r 15 = (if er = 0 then (if isInI (nmT tp t a) 0 hi = 0 then 5 else 0) else er) → (er = 0 → J' r 15 ≠ 0 → J' r 16 = nI a) → (er ≠ 0 → J' r 16 = et) → K (nmT tp t a) (pset B J')) (h0 : kfT t a ≠ 21 → K 0 (pset B (u2 J r 14 (nI a)))) : pCall_i d mX13_number (0, 0) [.ref r, .int 0, .int hi] (pset B J) K := by
  refine CP_go (by omega) okX13_number (Nat.le_of_ble_eq_true rfl) ?_
  have hk1 := hE.1.1
  have h400 := hE.2.2.2.2.2.1
  have e12 : pI (pset B J) r 12 = nI a := h12
  have hN := kdR_N (kd_at hE ha)
  have va : vp_in (nI a) 402 := vp_inN (by omega) (by omega)
  have ca : (nI a).toNatClampNeg = a := nI_clamp (by omega)
  have e2 : pI (pset B J) (r + 2) a = J (r + 2) a := rfl
  refine bX13_number_0 ⟨hk1, c_misOk1 (by omega) hk1 h14 ⟨fun z => absurd z (by decide), fun _ => ⟨hk1, r + 2, hE.1.2.1.2.1, hk1, 402, hE.1.2.2.2.1.2.1, by rw [e12]; exact va, ?_⟩⟩⟩
  rw [e12, ca, e2]
  refine ⟨fun g => ⟨hk1, r + 3, hE.1.2.1.2.2.1, hk1, 402, hE.1.2.2.2.1.2.2.1, va, ?_⟩, fun g => bX13_number_20 ⟨hk1, c_mfail1 (by omega) hk1 h14 ⟨_, rfl, by rw [h12]; exact h0 (fun z => g (hN.2.1.mpr z))⟩⟩⟩
  have hk := hN.2.1.mp g
  have e3 : pI (pset B J) (r + 3) a = nmT tp t a := hN.2.2 hk
  rw [e3]
  -- at++ and the value
  have fin : ∀ (J1 : pIm), (∀ y, y ≠ r → J1 y = J y) → (∀ f, f ≠ 15 → f ≠ 16 → J1 r f = J r f) → J1 r 15 = (if er = 0 then (if isInI (nmT tp t a) 0 hi = 0 then 5 else 0) else er) → (er = 0 → J1 r 15 ≠ 0 → J1 r 16 = nI a) → (er ≠ 0 → J1 r 16 = et) → Go (d - 1) mX13_number (fun r M1 => ∃ v, r = .inl (some (.int v)) ∧ K v M1) 52 ([some (.ref r), none, none], [], 0, 0) (pset B J1) := by
    intro J1 q1 q2 q3 q4 q5
    have f12 : pI (pset B J1) r 12 = nI a := (q2 12 (by decide) (by decide)).trans h12
    have e4 : pI (psI (pset B J1) r 12 (nI a + 1)) r 12 = nI (a + 1) := by rw [nI_1]; exact u2_same
    refine bX13_number_52 ⟨hk1, hk1, hk1, r + 3, hE.1.2.1.2.2.1, hk1, 402, hE.1.2.2.2.1.2.2.1, ?_⟩
    rw [f12, e4, nI_pred]
    refine ⟨va, ?_⟩
    have e5 : pI (psI (pset B J1) r 12 (nI a + 1)) (r + 3) (Int32.toNatClampNeg (nI a)) = nmT tp t a := by
      rw [ca]
      show u2 J1 r 12 _ (r + 3) a = _
      rw [u2_a (by omega), q1 _ (by omega)]
      exact e3
    rw [e5, nI_1, psI_set]
    exact ⟨_, rfl, h1 hk _ (fun y hy => by rw [u2_a hy]; exact q1 y hy) (fun f f1 f2 f3 => by rw [u2_j f1]; exact q2 f f2 f3) u2_same (by rw [u2_j (by decide)]; exact q3) (fun z z2 => by rw [u2_j (by decide)] at z2 ⊢; exact q4 z z2) (fun z => by rw [u2_j (by decide)]; exact q5 z)⟩
  refine c_misIn (by omega) ⟨fun g2 => ⟨hk1, hk1, ?_⟩, fun g2 => fin J (fun _ _ => rfl) (fun _ _ _ => rfl) ?_ (fun z z2 => absurd (h15.trans z) z2) (fun _ => h16)⟩
  · rw [e12]
    by_cases c : er = 0
    · exact c_mtell1 (by omega) hk1 (h15.trans c) (fin _ (fun y hy => by rw [u2_a hy, u2_a hy]) (fun f f1 f2 => by rw [u2_j f2, u2_j f1]) (by rw [u2_j (by decide), if_pos c, if_pos g2]; exact u2_same) (fun _ _ => u2_same) (fun z => absurd c z))
    · exact c_mtell0 (by omega) hk1 (by rw [h15]; exact c) (fun z => absurd (h16.symm.trans z) (het c)) (fin J (fun _ _ => rfl) (fun _ _ _ => rfl) (by rw [if_neg c]; exact h15) (fun z => absurd z c) (fun _ => h16))
  · by_cases c : er = 0
    · rw [if_pos c, if_neg g2]; exact h15.trans c
    · rw [if_neg c]; exact h15
theorem sF_err {t : tK} {tp : List Int32} {b0 : bK} {a : Nat} (h : (sF t tp b0 (a + 1)).1 = 0) : (sF t tp b0 a).1 = 0 := by
  refine Decidable.not_not.mp (fun y => ?_)
  have es : sF t tp b0 (a + 1) = _ := sF_succ (t := t) (tp := tp) (b0 := b0) (a := a)
  rw [if_neg y] at es
  rw [es] at h
  exact y h
theorem sF_ok {t : tK} {tp : List Int32} {b0 : bK} {a : Nat} (h : (sF t tp b0 (a + 1)).1 = 0) : (lkAt t tp a (sF t tp b0 a).2.2.1 (sF t tp b0 a).2.2.2).1 = 0 ∧ (sF t tp b0 (a + 1)).2.2 = (lkAt t tp a (sF t tp b0 a).2.2.1 (sF t tp b0 a).2.2.2).2 := by
  have es : sF t tp b0 (a + 1) = _ := sF_succ (t := t) (tp := tp) (b0 := b0) (a := a)
  rw [if_pos (sF_err h)] at es
  by_cases c : (lkAt t tp a (sF t tp b0 a).2.2.1 (sF t tp b0 a).2.2.2).1 = 0
  · rw [if_pos c] at es
    rw [es]
    exact ⟨c, rfl⟩
  · rw [if_neg c] at es
    rw [es] at h
    exact absurd h c
/-- only r has changed: the state of a line goes on -/
theorem lSx.on {B : pM} {r td dr n0 a a2 nn tx : Nat} {tp : List Int32} {t : tK} {b0 : bK} {I J : pIm} {er et er' et' : Int32} {NT NW : List Nat} {nr nb : Nat} (h : lSx B r td dr tp t n0 b0 I a nn tx er et NT NW nr nb) (f : ∀ y, y ≠ r → J y = I y) (g : ∀ f, f ≠ 12 → f ≠ 15 → f ≠ 16 → J r f = I r f) (h12 : J r 12 = nI a2) (h15 : J r 15 = er') (h16 : J r 16 = et') (ha : a ≤ a2) (ha2 : a2 ≤ n0) (hst : sT t a ≤ sT t a2) (e : eT (sF t tp b0 a2) a2 er' et') : lSx B r td dr tp t n0 b0 J a2 nn tx er' et' NT NW nr nb ∧ FrX r dr I J := by
  obtain ⟨h1, ⟨p1, p2, p3, p4, p5, p6, p7, p8, p9, p10, p11⟩, h3, h4, h5, h6, h7⟩ := h
  have hy := h1.1.lay
  have hne : dr ≠ r := by omega
  have F : FrX r dr I J := ⟨fun y h1 _ _ _ => f y h1, fun x x1 x2 x3 x4 x5 => g x x1 x4 x5⟩
  have jd := f dr hne
  exact ⟨⟨h1.f F, ⟨h12, (g 13 (by decide) (by decide) (by decide)).trans p2, (g 14 (by decide) (by decide) (by decide)).trans p3, h15, h16, by rw [jd]; exact p6, by rw [jd]; exact p7, ha2, by omega, by omega, p11⟩, e, h4.cg (by rw [jd]) (f _ (by omega)), h5.cg (by rw [jd]) (f _ (by omega)), by rw [jd]; exact h6, by rw [jd]; exact h7⟩, F⟩
theorem v_word {B : pM} {r td dr n0 a nn tx d : Nat} {tp : List Int32} {t : tK} {b0 : bK} {I : pIm} {er et : Int32} {NT NW : List Nat} {nr nb : Nat} {L : List (List (Int32 × Int32) × List (Int32 × Int32))} {ok : Bool} {a' : Nat} {l : List (List (Int32 × Int32) × List (Int32 × Int32))} {K : pM → Prop} (hd : 5 ≤ d) (hv : lSx B r td dr tp t n0 b0 I a nn tx er et NT NW nr nb) (hS : (sF t tp b0 a).1 = 0 → lSem t tp b0 I dr (sF t tp b0 a).2.2.1 NT NW nr nb nn tx L) (hk : kfT t a = 1) (h : gWord (kfT t) a = some (ok, a', l)) (ho : lOut B r td dr tp t n0 b0 I L ok a' l K) : pCall_v d mX13_readEntry (0, 0) [.ref r] (pset B I) K := by
  have hq := hv.1.1
  have hy := hq.lay
  have hne : dr ≠ r := by omega
  have sb := hq.2.2.2.2.2.1
  have h400 := hv.1.2.2.2.2.2.1
  have hkm := hv.1.2.2.2.2.2.2.1
  have hgeo := hv.1.2.2.2.2.2.2.2
  have htl := hv.1.2.2.2.2.1
  have h2000 := hv.1.2.1.2.1
  have htb := hv.1.2.2.1
  have K28 := hq.2.2.2.1.2.2.2.2.2.1
  have K29 := hq.2.2.2.1.2.2.2.2.2.2.1
  have K1 := hq.2.2.2.1.1
  have K4 := hq.2.2.2.1.2.2.2.1
  have K5 := hq.2.2.2.1.2.2.2.2.1
  have p1 := hq.2.1.1
  have p6 := hq.2.1.2.2.2.1
  have p7 := hq.2.1.2.2.2.2.1
  have p9 := hq.2.1.2.2.2.2.2.2
  have p10 := hq.2.2.1.1
  have p11 := hq.2.2.1.2.1
  have d4 : 4 ≤ d - 1 := by omega
  have mono : ∀ j, j < n0 → sT t j ≤ sT t (j + 1) := fun j hj => by
    have := sT_mono hgeo htl hj
    omega
  obtain ⟨hv1, f1, sm1, hlt⟩ := hv.skip (by rw [hk]; decide) (by rw [hk]; decide) (by rw [hk]; decide) (by rw [hk]; decide)
  have fI1 : ∀ y, y ≠ r → u2 I r 12 (nI (a + 1)) y = I y := fun y hy => u2_a hy
  have e12 : pI (pset B I) r 12 = nI a := hv.2.1.1
  obtain ⟨hE1, pt1, et1, hT1, hW1, hR1, hB1⟩ := id hv1
  obtain ⟨t1, t2, t3, t4, t5, t6, t7, t8, t9, t10, t11⟩ := id pt1
  have hNT6 : NT.length ≤ 6 := hT1.2.1
  have hNW40 : NW.length ≤ 40 := hW1.2.1
  have hcnt : pI (pset B (u2 I r 12 (nI (a + 1)))) dr 1 = nI NW.length := hW1.1
  unfold gWord at h
  refine CP_go (by omega) okX13_readEntry (Nat.le_of_ble_eq_true rfl) ?_
  -- behind a failure
  have dead80 : ∀ (J : pIm) (v w tv : Int32) (f : Nat), FrX r dr I J → J r 14 = nI f → f ≤ 400 → ok = false → a' = f → Go (d - 1) mX13_readEntry (fun r M1 => r = .inl none ∧ K M1) 80 ([some (.ref r), some (.int v), some (.int w), some (.int tv), none], [], 0, 0) (pset B J) := by
    intro J v w tv f F h14 hf eo ea
    subst eo ea
    exact bX13_readEntry_80 ⟨hq.1, c_misOk0 (by omega) hq.1 (by rw [h14]; exact fun z => nI_pos (n := a') (by omega) (by rw [z]; decide)) ⟨fun _ => ⟨rfl, ho J F h14 hf⟩, fun z => absurd rfl z⟩⟩
  have no14 : ∀ (J : pIm) (f : Nat), J r 14 = nI f → f ≤ 400 → ¬ J r 14 = -1 := fun J f e hf z => nI_pos (n := f) (by omega) (by rw [← e, z]; decide)
  refine bX13_readEntry_0 ⟨hq.1, hq.1, hq.1, r + 29, p11, hq.1, dr, p9, sb.1, hq.1, ?_⟩
  rw [e12, nI_1, psI_set]
  refine c_mfresh (mx := 40) (by omega) hE1 K29 (by omega) (by omega) hW1 t8 t1 t3 t4 t5 ((eT_er et1).2 (by omega)) (fun h20 J1 q1 q2 q3 q4 q5 q6 => ⟨hq.1, ?_⟩) (fun h20 => ⟨hq.1, ?_⟩)
  rotate_left
  · rw [if_neg h20] at h
    cases Option.some.inj h
    have F14 : FrX r dr I (u2 (u2 I r 12 (nI (a + 1))) r 14 (nI (a + 1))) := f1.tr (FrV.u hne (by omega)).x
    have n14 := no14 (u2 (u2 I r 12 (nI (a + 1))) r 14 (nI (a + 1))) (a + 1) u2_same (by omega)
    exact c_mtake0 (by omega) hq.1 n14 ⟨hq.1, c_mnum0 (by omega) hq.1 n14 ⟨hq.1, c_mis0 (by omega) hq.1 n14 ⟨fun _ => dead80 _ _ _ _ (a + 1) F14 u2_same (by omega) rfl rfl, fun z => absurd rfl z⟩⟩⟩
  rw [if_pos h20] at h
  have hlt2 : a + 1 < n0 := hkm.lt h20 (by decide) (by decide) (by decide)
  obtain ⟨p, hg⟩ := hgeo
  obtain ⟨n1, n2, n3, n4, n5⟩ := name_tok h2000 htb hg (by omega) h20
  obtain ⟨g1, g2, g3, -⟩ := hg.2.2.1 (a + 1) n1
  -- the name, in the reading
  have eE2 : eT (sF t tp b0 (a + 2)) (a + 2) (J1 r 15) (J1 r 16) ∧ ((sF t tp b0 (a + 2)).1 = 0 → (sF t tp b0 a).1 = 0 ∧ NW.length < 40 ∧ (sF t tp b0 (a + 2)).2.2.1 = ((sF t tp b0 a).2.2.1.1, (sF t tp b0 a).2.2.1.2.1 ++ [spl tp t (nI (a + 1))], pushL 40 (sF t tp b0 a).2.2.1.2.2.1 0, pushL 40 (sF t tp b0 a).2.2.1.2.2.2.1 (-1), (sF t tp b0 (a + 2)).2.2.1.2.2.2.2) ∧ (sF t tp b0 (a + 2)).2.2.1.2.2.2.2.1 = (sF t tp b0 a).2.2.1.2.2.2.2.1 ∧ (sF t tp b0 (a + 2)).2.2.1.2.2.2.2.2.1 = (sF t tp b0 a).2.2.1.2.2.2.2.2.1) := by
    have lk : (sF t tp b0 (a + 1)).1 = 0 → er = 0 ∧ (sF t tp b0 a).1 = 0 ∧ lkAt t tp (a + 1) (sF t tp b0 (a + 1)).2.2.1 (sF t tp b0 (a + 1)).2.2.2 = (if fidx (NW.map (fun x => spl tp t (nI x))) (spl tp t (nI (a + 1))) 0 = -1 then (if NW.length < 40 then (0, ((sF t tp b0 (a + 1)).2.2.1.1, (sF t tp b0 (a + 1)).2.2.1.2.1 ++ [spl tp t (nI (a + 1))], pushL 40 (sF t tp b0 (a + 1)).2.2.1.2.2.1 0, pushL 40 (sF t tp b0 (a + 1)).2.2.1.2.2.2.1 (-1), (sF t tp b0 (a + 1)).2.2.1.2.2.2.2), (sF t tp b0 (a + 1)).2.2.2) else (4, (sF t tp b0 (a + 1)).2.2.1, (sF t tp b0 (a + 1)).2.2.2)) else (2, (sF t tp b0 (a + 1)).2.2.1, (sF t tp b0 (a + 1)).2.2.2)) := by
      intro z
      have z0 := (sm1 z).1
      obtain ⟨⟨s1, s2, s3, s4⟩, -⟩ := hS z0
      have eb : (sF t tp b0 (a + 1)).2.2.1.2.1 = (sF t tp b0 a).2.2.1.2.1 := (sm1 z).2.2.1
      refine ⟨(eT_er et1).1.mpr z, z0, ?_⟩
      rw [lk_name (by omega) h20, hk]
      unfold lkName
      rw [if_neg (by decide), if_pos rfl]
      have ew : (sF t tp b0 (a + 1)).2.2.1.2.1 = NW.map (fun x => spl tp t (nI x)) := by rw [eb, s2]
      have hn := fidx_neg (ls := NW.map (fun x => spl tp t (nI x))) (l := spl tp t (nI (a + 1))) (by rw [List.length_map]; omega)
      rw [ew]
      by_cases c : fidx (NW.map (fun x => spl tp t (nI x))) (spl tp t (nI (a + 1))) 0 = -1
      · rw [if_pos (hn.mpr c), if_pos c, List.length_map]
      · rw [if_neg (fun y => c (hn.mp y)), if_neg c]
    constructor
    · refine eT_step et1 (fun z => ?_) (fun z => ⟨by rw [q4]; unfold frE; rw [if_neg z], q6 z⟩)
      obtain ⟨er0, -, el⟩ := lk z
      rw [el]
      refine ⟨?_, q5 er0⟩
      rw [q4, hcnt]
      unfold frE
      rw [if_pos er0]
      by_cases c : fidx (NW.map (fun x => spl tp t (nI x))) (spl tp t (nI (a + 1))) 0 = -1
      · rw [if_pos c, if_pos c]
        by_cases c2 : NW.length < 40
        · rw [if_neg (fun y => by have := (nI_eq (b := 40) (by omega) (by omega)).mp y; omega), if_pos c2]
        · rw [if_pos (by congr 1; omega), if_neg c2]
      · rw [if_neg c, if_neg c]
    · intro z
      have z1 := sF_err z
      obtain ⟨er0, z0, el⟩ := lk z1
      obtain ⟨o1, o2⟩ := sF_ok z
      rw [el] at o1 o2
      have sbm := (sm1 z1).2
      by_cases c : fidx (NW.map (fun x => spl tp t (nI x))) (spl tp t (nI (a + 1))) 0 = -1
      · rw [if_pos c] at o1 o2
        by_cases c2 : NW.length < 40
        · rw [if_pos c2] at o2
          have o3 := congrArg Prod.fst o2
          refine ⟨z0, c2, ?_, ?_, ?_⟩
          · rw [o3, sbm.1, sbm.2.1, sbm.2.2.1, sbm.2.2.2.1]
          · rw [o3]; exact sbm.2.2.2.2.1
          · rw [o3]; exact sbm.2.2.2.2.2
        · rw [if_neg c2] at o1; exact absurd (show (4 : Int32) = 0 from o1) (by decide)
      · rw [if_neg c] at o1; exact absurd (show (2 : Int32) = 0 from o1) (by decide)
  obtain ⟨eE2, eS2⟩ := eE2
  have m1 := mono (a + 1) hlt2
  obtain ⟨hv2, F2⟩ := hv1.on (er' := J1 r 15) (et' := J1 r 16) q1 q2 q3 rfl rfl (show a + 1 ≤ a + 2 by omega) (by omega) m1 eE2
  have j1 : ∀ y, y ≠ r → J1 y = I y := fun y hy => (q1 y hy).trans (fI1 y hy)
  -- the word's end: at b, of weight v and tag tv
  have fin : ∀ (J : pIm) (b : Nat) (erb etb v tv : Int32), (∀ y, y ≠ r → J y = I y) → FrX r dr I J → lSx B r td dr tp t n0 b0 J b nn tx erb etb NT NW nr nb → ((sF t tp b0 b).1 = 0 → (sF t tp b0 a).1 = 0 ∧ NW.length < 40 ∧ (sF t tp b0 b).2.2.1 = ((sF t tp b0 a).2.2.1.1, (sF t tp b0 a).2.2.1.2.1 ++ [spl tp t (nI (a + 1))], (sF t tp b0 a).2.2.1.2.2.1 ++ [v], (sF t tp b0 a).2.2.1.2.2.2.1 ++ [tv], (sF t tp b0 b).2.2.1.2.2.2.2) ∧ (sF t tp b0 b).2.2.1.2.2.2.2.1 = (sF t tp b0 a).2.2.1.2.2.2.2.1 ∧ (sF t tp b0 b).2.2.1.2.2.2.2.2.1 = (sF t tp b0 a).2.2.1.2.2.2.2.2.1) → ok = true → a' = b → l = [] → Go (d - 1) mX13_readEntry (fun r M1 => r = .inl none ∧ K M1) 80 ([some (.ref r), some (.int (nI (a + 1))), some (.int v), some (.int tv), none], [], 0, 0) (pset B J) := by
    intro J b erb etb v tv jI FJ hvb hsem eo ea el
    subst eo ea el
    obtain ⟨hEb, ptb, etb', hTb, hWb, hRb, hBb⟩ := id hvb
    have jd := jI dr hne
    have ecnt : pI (pset B J) dr 1 = nI NW.length := hWb.1
    refine bX13_readEntry_80 ⟨hq.1, c_misOk1 (by omega) hq.1 ptb.2.2.1 ⟨fun z => absurd z (by decide), fun _ => ⟨hq.1, dr, p9, sb.1, ?_⟩⟩⟩
    rw [ecnt]
    refine ⟨fun g => ⟨rfl, ?_⟩, fun g => ?_⟩
    · have l40 := (nI_eq (b := 40) (by omega) (by omega)).mp g
      exact ho J nn tx erb etb NT NW nr nb FJ hvb (fun z => by have := (hsem z).2.1; omega)
    have l40 : NW.length < 40 := by
      have : NW.length ≠ 40 := fun z => g (by rw [z]; rfl)
      omega
    have vn : vp_in (nI NW.length) 40 := vp_inN l40 (by omega)
    have cn : (nI NW.length).toNatClampNeg = NW.length := nI_clamp (by omega)
    have va : vp_in (nI (a + 1)) 402 := vp_inN (by omega) (by omega)
    have ca : (nI (a + 1)).toNatClampNeg = a + 1 := nI_clamp (by omega)
    have key : ∀ (m k : Nat) (M : pIm), lT tp t (a + 1) - k = m → k ≤ lT tp t (a + 1) → (∀ y, y ≠ dr + 1 → M y = J y) → (∀ j, j < 10 * NW.length → M (dr + 1) j = J (dr + 1) j) → (∀ j x, (spl tp t (nI (a + 1)))[j]? = some x → j < k → M (dr + 1) (10 * NW.length + j) = x) → Go (d - 1) mX13_readEntry (fun r M1 => r = .inl none ∧ K M1) 103 ([some (.ref r), some (.int (nI (a + 1))), some (.int v), some (.int tv), some (.int (nI k))], [], 0, 0) (pset B M) := by
      intro m
      induction m with
      | zero =>
        intro k M hm hk2 mo ml mk
        have FM : FrX r dr J M := ⟨fun y y1 y2 y3 y4 => mo y (by omega), fun f _ _ _ _ _ => by rw [mo r (by omega)]⟩
        have hEM := hEb.f FM
        have e5 : pI (pset B M) (r + 5) (a + 1) = nI (lT tp t (a + 1)) := hEM.2.2.2.1.2.2.2.1 _ _ g3
        have ed1 : M dr 1 = nI NW.length := by rw [mo dr (by omega)]; exact ecnt
        have w0 : pI (pset B M) dr 1 = nI NW.length := ed1
        refine bX13_readEntry_103 ⟨hq.1, r + 5, p7, 402, K5, va, ?_⟩
        rw [ca, e5]
        refine ⟨fun _ => ⟨hq.1, dr, p9, sb.1, dr + 2, sb.2.1.2.1, hq.1, dr, p9, sb.1, hq.1, r + 5, p7, 402, K5, va, ?_⟩, fun gg => absurd (nI_le (by omega) (by omega)) gg⟩
        rw [w0, e5, cn]
        have w1 : pI (psI (pset B M) (dr + 2) NW.length (nI (lT tp t (a + 1)))) dr 1 = nI NW.length := by
          show u2 M (dr + 2) _ _ dr 1 = _
          rw [u2_a (by omega)]; exact ed1
        refine ⟨40, sb.2.2.2.1, vn, hq.1, dr, p9, sb.1, dr + 3, sb.2.1.2.2.1, hq.1, dr, p9, sb.1, ?_⟩
        rw [w1, cn]
        have w2 : pI (psI (psI (pset B M) (dr + 2) NW.length (nI (lT tp t (a + 1)))) (dr + 3) NW.length v) dr 1 = nI NW.length := by
          show u2 (u2 M (dr + 2) _ _) (dr + 3) _ _ dr 1 = _
          rw [u2_a (by omega), u2_a (by omega)]; exact ed1
        refine ⟨40, sb.2.2.2.2.1, vn, hq.1, dr, p9, sb.1, dr + 4, sb.2.1.2.2.2.1, hq.1, dr, p9, sb.1, ?_⟩
        rw [w2, cn]
        have w3 : pI (psI (psI (psI (pset B M) (dr + 2) NW.length (nI (lT tp t (a + 1)))) (dr + 3) NW.length v) (dr + 4) NW.length tv) dr 1 = nI NW.length := by
          show u2 (u2 (u2 M (dr + 2) _ _) (dr + 3) _ _) (dr + 4) _ _ dr 1 = _
          rw [u2_a (by omega), u2_a (by omega), u2_a (by omega)]; exact ed1
        refine ⟨40, sb.2.2.2.2.2.1, vn, hq.1, r + 29, p11, hq.1, dr, p9, sb.1, ?_⟩
        rw [w3, cn]
        have w4 : pI (psI (psI (psI (psI (pset B M) (dr + 2) NW.length (nI (lT tp t (a + 1)))) (dr + 3) NW.length v) (dr + 4) NW.length tv) (r + 29) NW.length (nI (a + 1))) dr 1 = nI NW.length := by
          show u2 (u2 (u2 (u2 M (dr + 2) _ _) (dr + 3) _ _) (dr + 4) _ _) (r + 29) _ _ dr 1 = _
          rw [u2_a (by omega), u2_a (by omega), u2_a (by omega), u2_a (by omega)]; exact ed1
        refine ⟨40, K29, vn, hq.1, dr, p9, sb.1, sb.1, rfl, ?_⟩
        rw [w4, nI_1, psI_set, psI_set, psI_set, psI_set, psI_set]
        generalize hX : u2 (u2 (u2 (u2 (u2 M (dr + 2) NW.length (nI (lT tp t (a + 1)))) (dr + 3) NW.length v) (dr + 4) NW.length tv) (r + 29) NW.length (nI (a + 1))) dr 1 (nI (NW.length + 1)) = X
        have x0 : ∀ f, f ≠ 1 → X dr f = J dr f := fun f hf => by rw [← hX, u2_j hf, u2_a (by omega), u2_a (by omega), u2_a (by omega), u2_a (by omega), mo dr (by omega)]
        have x1 : X dr 1 = nI (NW.length + 1) := by rw [← hX]; exact u2_same
        have x2 : ∀ j, j ≠ NW.length → X (dr + 2) j = J (dr + 2) j := fun j hj => by rw [← hX, u2_a (by omega), u2_a (by omega), u2_a (by omega), u2_a (by omega), u2_j hj, mo _ (by omega)]
        have x2' : X (dr + 2) NW.length = nI (lT tp t (a + 1)) := by rw [← hX, u2_a (by omega), u2_a (by omega), u2_a (by omega), u2_a (by omega)]; exact u2_same
        have x3 : ∀ j, j ≠ NW.length → X (dr + 3) j = J (dr + 3) j := fun j hj => by rw [← hX, u2_a (by omega), u2_a (by omega), u2_a (by omega), u2_j hj, u2_a (by omega), mo _ (by omega)]
        have x3' : X (dr + 3) NW.length = v := by rw [← hX, u2_a (by omega), u2_a (by omega), u2_a (by omega)]; exact u2_same
        have x4 : ∀ j, j ≠ NW.length → X (dr + 4) j = J (dr + 4) j := fun j hj => by rw [← hX, u2_a (by omega), u2_a (by omega), u2_j hj, u2_a (by omega), u2_a (by omega), mo _ (by omega)]
        have x4' : X (dr + 4) NW.length = tv := by rw [← hX, u2_a (by omega), u2_a (by omega)]; exact u2_same
        have x5 : ∀ j, j ≠ NW.length → X (r + 29) j = J (r + 29) j := fun j hj => by rw [← hX, u2_a (by omega), u2_j hj, u2_a (by omega), u2_a (by omega), u2_a (by omega), mo _ (by omega)]
        have x5' : X (r + 29) NW.length = nI (a + 1) := by rw [← hX, u2_a (by omega)]; exact u2_same
        have x6 : X (dr + 1) = M (dr + 1) := by rw [← hX, u2_a (by omega), u2_a (by omega), u2_a (by omega), u2_a (by omega), u2_a (by omega)]
        have x7 : ∀ y, y ≠ dr → y ≠ dr + 1 → y ≠ dr + 2 → y ≠ dr + 3 → y ≠ dr + 4 → y ≠ r + 29 → X y = J y := fun y y0 y1 y2 y3 y4 y5 => by rw [← hX, u2_a y0, u2_a y5, u2_a y4, u2_a y3, u2_a y2, mo y y1]
        clear hX
        have FX : FrX r dr J X := ⟨fun y y1 y2 y3 y4 => x7 y (by omega) (by omega) (by omega) (by omega) (by omega) y4, fun f _ _ _ _ _ => by rw [x7 r (by omega) (by omega) (by omega) (by omega) (by omega) (by omega)]⟩
        have xr : X r = J r := x7 r (by omega) (by omega) (by omega) (by omega) (by omega) (by omega)
        refine ho X nn tx erb etb NT (NW ++ [a + 1]) nr nb (FJ.tr FX) ⟨hEb.f FX, ?_, etb', hTb.cg (x0 0 (by decide)) (x7 _ (by omega) (by omega) (by omega) (by omega) (by omega) (by omega)), ?_, by rw [x0 2 (by decide)]; exact hRb, by rw [x0 3 (by decide)]; exact hBb⟩ (fun z => ?_)
        · obtain ⟨y1, y2, y3, y4, y5, y6, y7, y8⟩ := ptb
          exact ⟨by rw [xr]; exact y1, by rw [xr]; exact y2, by rw [xr]; exact y3, by rw [xr]; exact y4, by rw [xr]; exact y5, by rw [x0 10 (by decide)]; exact y6, by rw [x0 14 (by decide)]; exact y7, y8⟩
        · rw [x1]
          exact hWb.add l40 (by omega) h20 (fun j hj => x5 j (by omega)) x5'
        · obtain ⟨z0, -, z2, z3, z4⟩ := hsem z
          have base := (hS z0).cg (J := J) (fun x x1 x2 => jI x (by omega)) bSm.rf
          obtain ⟨⟨c1, c2, c3, c4⟩, ⟨d1, d2, d3, d4', d5⟩, ⟨f1', f2', f3'⟩, c7⟩ := base
          have hnw : (sF t tp b0 a).2.2.1.2.1.length = NW.length := by rw [← c2, List.length_map]
          have hlen10 : (spl tp t (nI (a + 1))).length = lT tp t (a + 1) := by rw [n5, copyl_len]
          have kp : kpV dr J X nn tx := ⟨fun j _ => by rw [x7 (dr + 7) (by omega) (by omega) (by omega) (by omega) (by omega) (by omega), x7 (dr + 8) (by omega) (by omega) (by omega) (by omega) (by omega) (by omega), x7 (dr + 9) (by omega) (by omega) (by omega) (by omega) (by omega) (by omega)]; exact ⟨rfl, rfl, rfl⟩, fun j _ => by rw [x7 (dr + 10) (by omega) (by omega) (by omega) (by omega) (by omega) (by omega)]⟩
          have w10 : ∀ l ∈ (sF t tp b0 a).2.2.1.2.1, l.length ≤ 10 := fun l hl => by
            rw [← c2] at hl
            obtain ⟨x, -, rfl⟩ := List.mem_map.mp hl
            exact spl_len
          rw [List.append_nil]
          unfold lSem
          rw [z2, z3, z4]
          refine ⟨⟨c1, by rw [List.map_append, c2]; rfl, c3, c4⟩, ⟨?_, ?_, ?_, ?_, ?_⟩, ⟨?_, ?_, f3'⟩, fun i x hx => ?_⟩
          · intro w m hm k x hx
            have hm' : ((sF t tp b0 a).2.2.1.2.1 ++ [spl tp t (nI (a + 1))])[w]? = some m := hm
            rw [x6]
            by_cases c : w < NW.length
            · rw [List.getElem?_append_left (by omega)] at hm'
              have hk10 := (List.getElem?_eq_some_iff.mp hx).1
              have := w10 m (List.mem_of_getElem? hm')
              rw [ml _ (by omega)]
              exact d1 w m hm' k x hx
            · have hw : w = NW.length := by
                have := (List.getElem?_eq_some_iff.mp hm').1
                rw [List.length_append] at this
                have e : [spl tp t (nI (a + 1))].length = 1 := rfl
                omega
              subst hw
              rw [List.getElem?_append_right (by omega), hnw, Nat.sub_self] at hm'
              have em : spl tp t (nI (a + 1)) = m := Option.some.inj hm'
              subst em
              have hk10 := (List.getElem?_eq_some_iff.mp hx).1
              exact mk k x hx (by omega)
          · have e : ((sF t tp b0 a).2.2.1.2.1 ++ [spl tp t (nI (a + 1))]).map (fun l => nI l.length) = (sF t tp b0 a).2.2.1.2.1.map (fun l => nI l.length) ++ [nI (spl tp t (nI (a + 1))).length] := by rw [List.map_append]; rfl
            show Ar (X (dr + 2)) (((sF t tp b0 a).2.2.1.2.1 ++ [spl tp t (nI (a + 1))]).map (fun l => nI l.length))
            rw [e]
            exact d2.push _ (fun j hj => x2 j (by rw [List.length_map] at hj; omega)) (by rw [List.length_map, hnw, hlen10]; exact x2')
          · exact d3.push _ (fun j hj => x3 j (by omega)) (by rw [f1', hnw]; exact x3')
          · exact d4'.push _ (fun j hj => x4 j (by omega)) (by rw [f2', hnw]; exact x4')
          · rw [x7 (dr + 5) (by omega) (by omega) (by omega) (by omega) (by omega) (by omega)]; exact d5
          · show ((sF t tp b0 a).2.2.1.2.2.1 ++ [v]).length = ((sF t tp b0 a).2.2.1.2.1 ++ [spl tp t (nI (a + 1))]).length
            rw [List.length_append, List.length_append, f1']; rfl
          · show ((sF t tp b0 a).2.2.1.2.2.2.1 ++ [tv]).length = ((sF t tp b0 a).2.2.1.2.1 ++ [spl tp t (nI (a + 1))]).length
            rw [List.length_append, List.length_append, f2']; rfl
          · obtain ⟨y1, ⟨m1', y2, y3⟩, m2', y4, y5⟩ := c7 i x hx
            rw [x7 (dr + 6) (by omega) (by omega) (by omega) (by omega) (by omega) (by omega)]
            have hnl : (sF t tp b0 a).2.2.1.2.1.length ≤ ((sF t tp b0 a).2.2.1.2.1 ++ [spl tp t (nI (a + 1))]).length := by rw [List.length_append]; omega
            exact ⟨y1, ⟨m1', y2, y3.up kp (Nat.le_refl _) hnl (Nat.le_refl _) (Nat.le_refl _)⟩, m2', y4, y5.up kp (Nat.le_refl _) hnl (Nat.le_refl _) (Nat.le_refl _)⟩
      | succ m ih =>
        intro k M hm hk2 mo ml mk
        have FM : FrX r dr J M := ⟨fun y y1 y2 y3 y4 => mo y (by omega), fun f _ _ _ _ _ => by rw [mo r (by omega)]⟩
        have hEM := hEb.f FM
        have e5 : pI (pset B M) (r + 5) (a + 1) = nI (lT tp t (a + 1)) := hEM.2.2.2.1.2.2.2.1 _ _ g3
        have e4 : pI (pset B M) (r + 4) (a + 1) = nI (sT t (a + 1)) := hEM.2.2.2.1.2.2.1 _ _ g1
        have w0 : pI (pset B M) dr 1 = nI NW.length := by
          show M dr 1 = _
          rw [mo dr (by omega)]; exact ecnt
        have hin : sT t (a + 1) + k < tp.length := by omega
        have eb : pI (pset B M) (r + 1) (sT t (a + 1) + k) = rat tp (nI (sT t (a + 1) + k)) := by
          have e := List.getElem?_eq_getElem hin
          rw [rat_in e (by omega)]
          exact hEM.2.1.2.2 _ _ e
        have e10 : (10 : Int32) * nI NW.length + nI k = nI (10 * NW.length + k) := by
          rw [show (10 : Int32) * nI NW.length = nI (10 * NW.length) from nI_mul 10 _, nI_add]
        refine bX13_readEntry_103 ⟨hq.1, r + 5, p7, 402, K5, va, ?_⟩
        rw [ca, e5]
        refine ⟨fun gg => absurd ((nI_leI (by omega) (by omega)).mp gg) (by omega), fun _ => ⟨hq.1, dr, p9, sb.1, dr + 1, sb.2.1.1, hq.1, dr, p9, sb.1, hq.1, r + 1, p1, hq.1, r + 4, p6, 402, K4, va, ?_⟩⟩
        rw [e4, nI_add, nI_clamp (show sT t (a + 1) + k < 2 ^ 31 by omega), w0, e10]
        refine ⟨2000, K1, vp_inN (by omega) (by omega), 400, sb.2.2.1, vp_inN (by omega) (by omega), ?_⟩
        rw [nI_clamp (show 10 * NW.length + k < 2 ^ 31 by omega), eb, psI_set, nI_1]
        refine ih (k + 1) _ (by omega) (by omega) (fun y hy2 => by rw [u2_a hy2]; exact mo y hy2) (fun j hj => by rw [u2_j (by omega)]; exact ml j hj) (fun j x hx hj => ?_)
        by_cases c : j = k
        · subst c
          rw [u2_same]
          rw [n5, copyl_at (by omega) (by omega)] at hx
          exact Option.some.inj hx
        · rw [u2_j (by omega)]
          exact mk j x hx (by omega)
    exact key _ 0 J rfl (by omega) (fun _ _ => rfl) (fun _ _ => rfl) (fun j x _ hj => absurd hj (by omega))
  -- weight
  refine c_mtakeK (by omega) 2 hv2.1 (by omega) q3 ((q2 14 (by decide) (by decide) (by decide)).trans t3) (by decide) rfl (fun k2 => ⟨hq.1, ?_⟩) (fun k2 => ⟨hq.1, ?_⟩)
  rotate_left
  · rw [if_neg k2] at h
    cases Option.some.inj h
    have F14 : FrX r dr I (u2 J1 r 14 (nI (a + 2))) := (f1.tr F2).tr (FrV.u hne (by omega)).x
    have n14 := no14 (u2 J1 r 14 (nI (a + 2))) (a + 2) u2_same (by omega)
    exact c_mnum0 (by omega) hq.1 n14 ⟨hq.1, c_mis0 (by omega) hq.1 n14 ⟨fun _ => dead80 _ _ _ _ (a + 2) F14 u2_same (by omega) rfl rfl, fun z => absurd rfl z⟩⟩
  rw [if_pos k2] at h
  obtain ⟨hv3, F3, sm3, hlt3⟩ := hv2.skip (by rw [k2]; decide) (by rw [k2]; decide) (by rw [k2]; decide) (by rw [k2]; decide)
  obtain ⟨hE3, pt3, et3, -⟩ := id hv3
  obtain ⟨y1, y2, y3, y4, y5, y6, y7, y8, y9, y10, y11⟩ := id pt3
  have j3 : ∀ y, y ≠ r → u2 J1 r 12 (nI (a + 2 + 1)) y = I y := fun y hy => (u2_a hy).trans (j1 y hy)
  refine c_mnumW (by omega) hE3 y8 y1 y3 y4 y5 ((eT_er et3).2 (by omega)) (fun k21 J4 r1 r2 r3 r4 r5 r6 => ⟨hq.1, ?_⟩) (fun k21 => ⟨hq.1, ?_⟩)
  rotate_left
  · rw [if_neg k21] at h
    cases Option.some.inj h
    have F14 : FrX r dr I (u2 (u2 J1 r 12 (nI (a + 2 + 1))) r 14 (nI (a + 3))) := ((f1.tr F2).tr F3).tr (FrV.u hne (by omega)).x
    have n14 := no14 (u2 (u2 J1 r 12 (nI (a + 2 + 1))) r 14 (nI (a + 3))) (a + 3) u2_same (by omega)
    exact c_mis0 (by omega) hq.1 n14 ⟨fun _ => dead80 _ _ _ _ (a + 3) F14 u2_same (by omega) rfl rfl, fun z => absurd rfl z⟩
  rw [if_pos k21] at h
  have hlt4 : a + 3 < n0 := hkm.lt k21 (by decide) (by decide) (by decide)
  obtain ⟨nv, hnv, env⟩ := num_tok h2000 htb hg (by omega) k21
  -- the weight, in the reading
  have lk3 : lkAt t tp (a + 3) (sF t tp b0 (a + 3)).2.2.1 (sF t tp b0 (a + 3)).2.2.2 = (if nmT tp t (a + 3) ≤ 9999 then 0 else 5, ((sF t tp b0 (a + 3)).2.2.1.1, (sF t tp b0 (a + 3)).2.2.1.2.1, rput (sF t tp b0 (a + 3)).2.2.1.2.2.1 (nI (sF t tp b0 (a + 3)).2.2.1.2.1.length - 1) (nmT tp t (a + 3)), (sF t tp b0 (a + 3)).2.2.1.2.2.2), (sF t tp b0 (a + 3)).2.2.2) := by
    have e1 : rat t.1 (nI (a + 3)) = 21 := (rat_nI (by omega)).trans k21
    have e2 : rat t.1 (nI (a + 3) - 1) = 2 := by rw [show nI (a + 3) - 1 = nI (a + 2) from nI_pred (a + 2)]; exact (rat_nI (by omega)).trans k2
    unfold lkAt
    rw [e1, if_neg (by decide), if_neg (by decide), if_pos rfl, e2, if_pos rfl]
    rfl
  have in9 : isInI (nmT tp t (a + 3)) 0 9999 = 0 ↔ ¬ nmT tp t (a + 3) ≤ 9999 := by
    rw [env]
    constructor
    · intro z y
      rw [isInI_t (nI_pos (by omega)) (Int32.not_lt.mpr y)] at z
      exact absurd z (by decide)
    · intro z
      exact isInI_f (Or.inr (Int32.not_le.mp z))
  have eE4 : eT (sF t tp b0 (a + 4)) (a + 4) (J4 r 15) (J4 r 16) := by
    refine eT_step et3 (fun z => ?_) (fun z => ⟨by rw [r4, if_neg z], r6 z⟩)
    have er0 := (eT_er et3).1.mpr z
    rw [lk3]
    refine ⟨?_, r5 er0⟩
    rw [r4, if_pos er0]
    by_cases c : nmT tp t (a + 3) ≤ 9999
    · rw [if_neg (fun y => in9.mp y c)]; exact (if_pos c).symm
    · rw [if_pos (in9.mpr c)]; exact (if_neg c).symm
  have eS4 : (sF t tp b0 (a + 4)).1 = 0 → (sF t tp b0 a).1 = 0 ∧ NW.length < 40 ∧ (sF t tp b0 (a + 4)).2.2.1 = ((sF t tp b0 a).2.2.1.1, (sF t tp b0 a).2.2.1.2.1 ++ [spl tp t (nI (a + 1))], (sF t tp b0 a).2.2.1.2.2.1 ++ [nmT tp t (a + 3)], (sF t tp b0 a).2.2.1.2.2.2.1 ++ [-1], (sF t tp b0 (a + 4)).2.2.1.2.2.2.2) ∧ (sF t tp b0 (a + 4)).2.2.1.2.2.2.2.1 = (sF t tp b0 a).2.2.1.2.2.2.2.1 ∧ (sF t tp b0 (a + 4)).2.2.1.2.2.2.2.2.1 = (sF t tp b0 a).2.2.1.2.2.2.2.2.1 := by
    intro z
    have z3 := sF_err z
    obtain ⟨o1, o2⟩ := sF_ok z
    rw [lk3] at o2
    have o3 := congrArg Prod.fst o2
    obtain ⟨z2, sbm⟩ := sm3 z3
    obtain ⟨u1, u2', u3, u4, u5⟩ := eS2 z2
    obtain ⟨v1, v2, v3, v4, v5, v6⟩ := sbm
    obtain ⟨⟨s1, s2, -, -⟩, -, ⟨w1, w2, -⟩, -⟩ := hS u1
    have hnw : (sF t tp b0 a).2.2.1.2.1.length = NW.length := by rw [← s2, List.length_map]
    have b1 : (sF t tp b0 (a + 3)).2.2.1.1 = (sF t tp b0 a).2.2.1.1 := by rw [v1, u3]
    have b2 : (sF t tp b0 (a + 3)).2.2.1.2.1 = (sF t tp b0 a).2.2.1.2.1 ++ [spl tp t (nI (a + 1))] := by rw [v2, u3]
    have b3 : (sF t tp b0 (a + 3)).2.2.1.2.2.1 = (sF t tp b0 a).2.2.1.2.2.1 ++ [0] := by rw [v3, u3]; exact pushL_lt (by omega)
    have b4 : (sF t tp b0 (a + 3)).2.2.1.2.2.2.1 = (sF t tp b0 a).2.2.1.2.2.2.1 ++ [-1] := by rw [v4, u3]; exact pushL_lt (by omega)
    have ewt : rput (sF t tp b0 (a + 3)).2.2.1.2.2.1 (nI (sF t tp b0 (a + 3)).2.2.1.2.1.length - 1) (nmT tp t (a + 3)) = (sF t tp b0 a).2.2.1.2.2.1 ++ [nmT tp t (a + 3)] := by
      have ei : nI (sF t tp b0 (a + 3)).2.2.1.2.1.length - 1 = nI (sF t tp b0 a).2.2.1.2.2.1.length := by
        rw [b2, List.length_append, hnw, w1, hnw]
        exact nI_pred NW.length
      rw [ei, rput_nI (by omega), b3]
      simp
    refine ⟨u1, u2', ?_, ?_, ?_⟩
    · have o3' : (sF t tp b0 (a + 4)).2.2.1 = _ := o3
      rw [o3', ewt, b1, b2]
      show (_, _, _, (sF t tp b0 (a + 3)).2.2.1.2.2.2.1, _) = _
      rw [b4]
    · have o3' : (sF t tp b0 (a + 4)).2.2.1 = _ := o3
      rw [o3']
      exact v5.trans u4
    · have o3' : (sF t tp b0 (a + 4)).2.2.1 = _ := o3
      rw [o3']
      exact v6.trans u5
  obtain ⟨hv4, F4⟩ := hv3.on (er' := J4 r 15) (et' := J4 r 16) r1 r2 r3 rfl rfl (show a + 2 + 1 ≤ a + 4 by omega) (by omega) (mono (a + 3) hlt4) eE4
  have j4 : ∀ y, y ≠ r → J4 y = I y := fun y hy => (r1 y hy).trans (j3 y hy)
  have FI4 := ((f1.tr F2).tr F3).tr F4
  refine c_misK (by omega) 3 hv4.1 (by omega) r3 ((r2 14 (by decide) (by decide) (by decide)).trans y3) (by decide) rfl (fun k3 => ⟨fun z => absurd z (by decide), fun _ => ⟨hq.1, hq.1, hq.1, r + 28, p10, hq.1, dr, p9, sb.1, hq.1, ?_⟩⟩) (fun k3 => ⟨fun _ => ?_, fun z => absurd rfl z⟩)
  rotate_left
  · rw [if_neg k3] at h
    cases Option.some.inj h
    exact fin J4 (a + 4) _ _ _ _ j4 FI4 hv4 eS4 rfl rfl rfl
  rw [if_pos k3] at h
  obtain ⟨hv5, F5, sm5, hlt5⟩ := hv4.skip (by rw [k3]; decide) (by rw [k3]; decide) (by rw [k3]; decide) (by rw [k3]; decide)
  obtain ⟨hE5, pt5, et5, hT5, -⟩ := id hv5
  obtain ⟨x1, x2, x3, x4, x5, x6, x7, x8, x9, x10, x11⟩ := id pt5
  have f12 : pI (pset B J4) r 12 = nI (a + 4) := r3
  rw [f12, nI_1, psI_set]
  have j5 : ∀ y, y ≠ r → u2 J4 r 12 (nI (a + 4 + 1)) y = I y := fun y hy => (u2_a hy).trans (j4 y hy)
  have lk5 : kfT t (a + 5) = 20 → lkAt t tp (a + 5) (sF t tp b0 (a + 5)).2.2.1 (sF t tp b0 (a + 5)).2.2.2 = (if 0 ≤ fidx (sF t tp b0 (a + 5)).2.2.1.1 (spl tp t (nI (a + 5))) 0 then 0 else 3, ((sF t tp b0 (a + 5)).2.2.1.1, (sF t tp b0 (a + 5)).2.2.1.2.1, (sF t tp b0 (a + 5)).2.2.1.2.2.1, rput (sF t tp b0 (a + 5)).2.2.1.2.2.2.1 (nI (sF t tp b0 (a + 5)).2.2.1.2.1.length - 1) (fidx (sF t tp b0 (a + 5)).2.2.1.1 (spl tp t (nI (a + 5))) 0), (sF t tp b0 (a + 5)).2.2.1.2.2.2.2), (sF t tp b0 (a + 5)).2.2.2) := by
    intro h20'
    have := lk_name (tp := tp) (a := a + 4) (b := (sF t tp b0 (a + 5)).2.2.1) (me := (sF t tp b0 (a + 5)).2.2.2) (by omega) h20'
    rw [this, k3]
    unfold lkName
    rw [if_neg (by decide), if_neg (by decide), if_neg (by decide), if_pos rfl]
  have tagsE : (sF t tp b0 (a + 5)).1 = 0 → fidx (NT.map (fun x => spl tp t (nI x))) (spl tp t (nI (a + 5))) 0 = fidx (sF t tp b0 (a + 5)).2.2.1.1 (spl tp t (nI (a + 5))) 0 := by
    intro z
    obtain ⟨z4, sbm⟩ := sm5 z
    obtain ⟨u1, u2', u3, u4, u5⟩ := eS4 z4
    obtain ⟨⟨s1, s2, -, -⟩, -⟩ := hS u1
    rw [sbm.1, u3, s1]
  have hn28 : (NT.map (fun x => spl tp t (nI x))).length < 1000 := by rw [List.length_map]; omega
  have tag5 : ∀ (w : Int32), kfT t (a + 5) = 20 → w = fidx (NT.map (fun x => spl tp t (nI x))) (spl tp t (nI (a + 5))) 0 → (sF t tp b0 (a + 6)).1 = 0 → (sF t tp b0 a).1 = 0 ∧ NW.length < 40 ∧ (sF t tp b0 (a + 6)).2.2.1 = ((sF t tp b0 a).2.2.1.1, (sF t tp b0 a).2.2.1.2.1 ++ [spl tp t (nI (a + 1))], (sF t tp b0 a).2.2.1.2.2.1 ++ [nmT tp t (a + 3)], (sF t tp b0 a).2.2.1.2.2.2.1 ++ [w], (sF t tp b0 (a + 6)).2.2.1.2.2.2.2) ∧ (sF t tp b0 (a + 6)).2.2.1.2.2.2.2.1 = (sF t tp b0 a).2.2.1.2.2.2.2.1 ∧ (sF t tp b0 (a + 6)).2.2.1.2.2.2.2.2.1 = (sF t tp b0 a).2.2.1.2.2.2.2.2.1 := by
    intro w h20' ew z
    have z5 := sF_err z
    obtain ⟨o1, o2⟩ := sF_ok z
    rw [lk5 h20'] at o2
    have o3 : (sF t tp b0 (a + 6)).2.2.1 = _ := congrArg Prod.fst o2
    obtain ⟨z4, v1, v2, v3, v4, v5, v6⟩ := sm5 z5
    obtain ⟨u1, u2', u3, u4, u5⟩ := eS4 z4
    obtain ⟨⟨s1, s2, -, -⟩, -, ⟨w1, w2, -⟩, -⟩ := hS u1
    have hnw : (sF t tp b0 a).2.2.1.2.1.length = NW.length := by rw [← s2, List.length_map]
    have b1 : (sF t tp b0 (a + 5)).2.2.1.1 = (sF t tp b0 a).2.2.1.1 := by rw [v1, u3]
    have b2 : (sF t tp b0 (a + 5)).2.2.1.2.1 = (sF t tp b0 a).2.2.1.2.1 ++ [spl tp t (nI (a + 1))] := by rw [v2, u3]
    have b3 : (sF t tp b0 (a + 5)).2.2.1.2.2.1 = (sF t tp b0 a).2.2.1.2.2.1 ++ [nmT tp t (a + 3)] := by rw [v3, u3]
    have b4 : (sF t tp b0 (a + 5)).2.2.1.2.2.2.1 = (sF t tp b0 a).2.2.1.2.2.2.1 ++ [-1] := by rw [v4, u3]
    have etg : rput (sF t tp b0 (a + 5)).2.2.1.2.2.2.1 (nI (sF t tp b0 (a + 5)).2.2.1.2.1.length - 1) (fidx (sF t tp b0 (a + 5)).2.2.1.1 (spl tp t (nI (a + 5))) 0) = (sF t tp b0 a).2.2.1.2.2.2.1 ++ [w] := by
      have ei : nI (sF t tp b0 (a + 5)).2.2.1.2.1.length - 1 = nI (sF t tp b0 a).2.2.1.2.2.2.1.length := by
        rw [b2, List.length_append, hnw, w2, hnw]
        exact nI_pred NW.length
      rw [ei, rput_nI (by omega), b4, ew, tagsE z5]
      simp
    refine ⟨u1, u2', ?_, ?_, ?_⟩
    · rw [o3, etg, b1, b2, b3]
    · rw [o3]; exact v5.trans u4
    · rw [o3]; exact v6.trans u5
  refine c_mknown1 (by omega) hE5 K28 (by omega) (by omega) hT5 x8 x1 x3 x4 x5 (fun h20' hw => ?_) (fun h20' hw he => ?_) (fun h20' hw he => ?_) ((eT_er et5).2 (by omega)) (fun h20' => ?_)
  · rw [if_pos h20'] at h
    cases Option.some.inj h
    have hlt6 : a + 5 < n0 := hkm.lt h20' (by decide) (by decide) (by decide)
    have ge0 : 0 ≤ fidx (NT.map (fun x => spl tp t (nI x))) (spl tp t (nI (a + 5))) 0 := by
      rcases fidx_m1 (l := spl tp t (nI (a + 5))) hn28 with ⟨q, -⟩ | ⟨k, -, -, q, -⟩
      · exact absurd q hw
      · exact q
    have eE6 : eT (sF t tp b0 (a + 6)) (a + 6) (J4 r 15) (J4 r 16) := by
      refine eT_step et5 (fun z => ?_) (fun _ => ⟨rfl, rfl⟩)
      rw [lk5 h20']
      have e0 := (eT_er et5).1.mpr z
      refine ⟨?_, fun y => absurd e0 y⟩
      rw [← tagsE z]
      exact e0.trans (if_pos ge0).symm
    obtain ⟨hv6, F6⟩ := hv5.on (J := u2 (u2 J4 r 12 (nI (a + 4 + 1))) r 12 (nI (a + 4 + 1 + 1))) (er' := J4 r 15) (et' := J4 r 16) (fun y hy => u2_a hy) (fun f f1 _ _ => u2_j f1) u2_same (by rw [u2_j (by decide)]; exact x4) (by rw [u2_j (by decide)]; exact x5) (show a + 4 + 1 ≤ a + 6 by omega) (by omega) (mono (a + 5) hlt6) eE6
    exact fin _ (a + 6) _ _ _ _ (fun y hy => (u2_a hy).trans (j5 y hy)) ((FI4.tr F5).tr F6) hv6 (tag5 _ h20' rfl) rfl rfl rfl
  · rw [if_pos h20'] at h
    cases Option.some.inj h
    have hlt6 : a + 5 < n0 := hkm.lt h20' (by decide) (by decide) (by decide)
    have eE6 : eT (sF t tp b0 (a + 6)) (a + 6) 3 (nI (a + 4 + 1)) := by
      refine eT_step et5 (fun z => ?_) (fun y => absurd he y)
      rw [lk5 h20']
      refine ⟨?_, fun _ => rfl⟩
      rw [← tagsE z, hw]
      rw [if_neg (show ¬ (0 : Int32) ≤ -1 by decide)]
    obtain ⟨hv6, F6⟩ := hv5.on (J := u2 (u2 (u2 (u2 J4 r 12 (nI (a + 4 + 1))) r 12 (nI (a + 4 + 1 + 1))) r 15 3) r 16 (nI (a + 4 + 1))) (er' := 3) (et' := nI (a + 4 + 1)) (fun y hy => by rw [u2_a hy, u2_a hy, u2_a hy]) (fun f f1 f2 f3 => by rw [u2_j f3, u2_j f2, u2_j f1]) (by rw [u2_j (by decide), u2_j (by decide)]; exact u2_same) (by rw [u2_j (by decide)]; exact u2_same) u2_same (show a + 4 + 1 ≤ a + 6 by omega) (by omega) (mono (a + 5) hlt6) eE6
    exact fin _ (a + 6) _ _ _ _ (fun y hy => by rw [u2_a hy, u2_a hy, u2_a hy]; exact j5 y hy) ((FI4.tr F5).tr F6) hv6 (tag5 _ h20' hw.symm) rfl rfl rfl
  · rw [if_pos h20'] at h
    cases Option.some.inj h
    have hlt6 : a + 5 < n0 := hkm.lt h20' (by decide) (by decide) (by decide)
    have eE6 : eT (sF t tp b0 (a + 6)) (a + 6) (J4 r 15) (J4 r 16) := by
      refine eT_step et5 (fun z => ?_) (fun _ => ⟨rfl, rfl⟩)
      exact absurd ((eT_er et5).1.mpr z) he
    obtain ⟨hv6, F6⟩ := hv5.on (J := u2 (u2 J4 r 12 (nI (a + 4 + 1))) r 12 (nI (a + 4 + 1 + 1))) (er' := J4 r 15) (et' := J4 r 16) (fun y hy => u2_a hy) (fun f f1 _ _ => u2_j f1) u2_same (by rw [u2_j (by decide)]; exact x4) (by rw [u2_j (by decide)]; exact x5) (show a + 4 + 1 ≤ a + 6 by omega) (by omega) (mono (a + 5) hlt6) eE6
    exact fin _ (a + 6) _ _ _ _ (fun y hy => (u2_a hy).trans (j5 y hy)) ((FI4.tr F5).tr F6) hv6 (tag5 _ h20' hw.symm) rfl rfl rfl
  · rw [if_neg h20'] at h
    cases Option.some.inj h
    exact dead80 _ _ _ _ (a + 5) ((FI4.tr F5).tr (FrV.u hne (by omega)).x) u2_same (by omega) rfl rfl
