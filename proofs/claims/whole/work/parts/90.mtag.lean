/-! THE REFERENCE'S PARSER: tags, words -/
theorem fidx_neg {ls : List (List Int32)} {l : List Int32} (h : ls.length < 1000) : fidx ls l 0 < 0 ↔ fidx ls l 0 = -1 := by
  rcases fidx_m1 (l := l) h with ⟨e, h2⟩ | ⟨k, hk, e, h2, h3⟩
  · rw [e]; decide
  · exact ⟨fun z => absurd z (Int32.not_lt.mpr h2), fun z => absurd z h3⟩
theorem lk_name {t : tK} {tp : List Int32} {a : Nat} {b : bK} {me : List Int32} (ha : a + 1 < 2 ^ 31) (h20 : kfT t (a + 1) = 20) : lkAt t tp (a + 1) b me = lkName (kfT t a) (spl tp t (nI (a + 1))) (nI (a + 1)) b me := by
  have e1 : rat t.1 (nI (a + 1)) = 20 := (rat_nI ha).trans h20
  have e2 : rat t.1 (nI (a + 1) - 1) = kfT t a := by rw [nI_pred]; exact rat_nI (by omega)
  unfold lkAt
  rw [e1, if_neg (by decide), if_pos rfl, e2]
theorem v_tag {B : pM} {r td dr n0 a nn tx d : Nat} {tp : List Int32} {t : tK} {b0 : bK} {I : pIm} {er et : Int32} {NT NW : List Nat} {nr nb : Nat} {L : List (List (Int32 × Int32) × List (Int32 × Int32))} {ok : Bool} {a' : Nat} {l : List (List (Int32 × Int32) × List (Int32 × Int32))} {K : pM → Prop} (hd : 4 ≤ d) (hv : lSx B r td dr tp t n0 b0 I a nn tx er et NT NW nr nb) (hS : (sF t tp b0 a).1 = 0 → lSem t tp b0 I dr (sF t tp b0 a).2.2.1 NT NW nr nb nn tx L) (hk : kfT t a = 0) (h : gTag (kfT t) a = some (ok, a', l)) (ho : lOut B r td dr tp t n0 b0 I L ok a' l K) : pCall_v d mX13_readTag (0, 0) [.ref r] (pset B I) K := by
  have hq := hv.1.1
  have hy := hq.lay
  have hne : dr ≠ r := by omega
  have sb := hq.2.2.2.2.2.1
  have h400 := hv.1.2.2.2.2.2.1
  have K28 := hq.2.2.2.1.2.2.2.2.2.1
  have p9 := hq.2.1.2.2.2.2.2.2
  have p10 := hq.2.2.1.1
  obtain ⟨hv1, f1, sm1, hlt⟩ := hv.skip (by rw [hk]; decide) (by rw [hk]; decide) (by rw [hk]; decide) (by rw [hk]; decide)
  have e12 : pI (pset B I) r 12 = nI a := hv.2.1.1
  obtain ⟨hE1, pt1, et1, hT1, hW1, hR1, hB1⟩ := id hv1
  obtain ⟨t1, t2, t3, t4, t5, t6, t7, t8, t9, t10, t11⟩ := id pt1
  unfold gTag at h
  refine CP_go (by omega) okX13_readTag (Nat.le_of_ble_eq_true rfl) ?_
  refine bX13_readTag_0 ⟨hq.1, hq.1, hq.1, r + 28, p10, hq.1, dr, p9, sb.1, hq.1, ?_⟩
  rw [e12, nI_1, psI_set]
  have hcnt : pI (pset B (u2 I r 12 (nI (a + 1)))) dr 0 = nI NT.length := hT1.1
  refine c_mfresh (mx := 6) (by omega) hE1 K28 (by omega) (by omega) hT1 t8 t1 t3 t4 t5 ((eT_er et1).2 (by omega)) (fun h20 J q1 q2 q3 q4 q5 q6 => ⟨hq.1, dr, p9, sb.1, ?_⟩) (fun h20 => ⟨hq.1, dr, p9, sb.1, ?_⟩)
  · rw [if_pos h20] at h
    cases Option.some.inj h
    have hlt2 : a + 1 < n0 := hE1.2.2.2.2.2.2.1.lt h20 (by decide) (by decide) (by decide)
    have hst := sT_mono hE1.2.2.2.2.2.2.2 hE1.2.2.2.2.1 hlt2
    have jd : J dr = u2 I r 12 (nI (a + 1)) dr := q1 dr hne
    have e0 : pI (pset B J) dr 0 = nI NT.length := by
      show J dr 0 = _
      rw [jd]; exact hT1.1
    have FJ : FrX r dr (u2 I r 12 (nI (a + 1))) J := ⟨fun y h1 _ _ _ => q1 y h1, fun f h1 h2 h3 h4 h5 => q2 f h1 h4 h5⟩
    have pj : pT J r dr tp t n0 (a + 2) 0 (J r 15) (J r 16) nn tx := ⟨q3, (q2 13 (by decide) (by decide) (by decide)).trans t2, (q2 14 (by decide) (by decide) (by decide)).trans t3, rfl, rfl, by rw [jd]; exact t6, by rw [jd]; exact t7, by omega, by omega, by
      show tx ≤ sT t (a + 1 + 1)
      omega, t11⟩
    have hNT6 : NT.length ≤ 6 := hT1.2.1
    -- the reading's error is the reference's
    have eE : eT (sF t tp b0 (a + 2)) (a + 2) (J r 15) (J r 16) := by
      refine eT_step et1 (fun z => ?_) (fun z => ⟨by rw [q4]; unfold frE; rw [if_neg z], q6 z⟩)
      have z0 := (sm1 z).1
      obtain ⟨⟨s1, s2, s3, s4⟩, -⟩ := hS z0
      have eb : (sF t tp b0 (a + 1)).2.2.1.1 = (sF t tp b0 a).2.2.1.1 := (sm1 z).2.1
      have er0 : er = 0 := (eT_er et1).1.mpr z
      have hl : (sF t tp b0 (a + 1)).2.2.1.1.length = NT.length := by rw [eb, ← s1, List.length_map]
      rw [lk_name (by omega) h20, hk]
      refine ⟨?_, q5 er0⟩
      rw [q4]
      unfold frE lkName
      rw [if_pos er0, if_pos rfl, s1, ← eb]
      have hn := fidx_neg (ls := (sF t tp b0 (a + 1)).2.2.1.1) (l := spl tp t (nI (a + 1))) (by omega)
      by_cases c : fidx (sF t tp b0 (a + 1)).2.2.1.1 (spl tp t (nI (a + 1))) 0 = -1
      · rw [if_pos c, if_pos (hn.mpr c), hl]
        by_cases c2 : NT.length < 6
        · rw [if_neg (fun y => by rw [hcnt] at y; have := (nI_eq (b := 6) (by omega) (by omega)).mp y; omega), if_pos c2]
        · rw [if_pos (by rw [hcnt]; congr 1; omega), if_neg c2]
      · rw [if_neg c, if_neg (fun y => c (hn.mp y))]
    rw [e0]
    refine ⟨fun g => ⟨rfl, ?_⟩, fun g => ⟨hq.1, r + 28, p10, hq.1, dr, p9, sb.1, ?_⟩⟩
    · have l6 : NT.length = 6 := (nI_eq (b := 6) (by omega) (by omega)).mp g
      have hne0 : J r 15 ≠ 0 := by
        rw [q4]
        unfold frE
        by_cases c : er = 0
        · rw [if_pos c]
          split
          · rw [if_pos (by rw [hcnt, l6])]; decide
          · decide
        · rw [if_neg c]; exact c
      refine ho J nn tx _ _ NT NW nr nb (f1.tr FJ) ⟨hE1.f FJ, pj, eE, hT1.cg (by rw [jd]) (q1 _ (by omega)), hW1.cg (by rw [jd]) (q1 _ (by omega)), by rw [jd]; exact hR1, by rw [jd]; exact hB1⟩ (fun z => absurd ((eT_er eE).1.mpr z) hne0)
    · have l6 : NT.length ≠ 6 := fun z => g (by rw [z]; rfl)
      rw [e0]
      refine ⟨6, K28, vp_inN (by omega) (by omega), hq.1, dr, p9, sb.1, sb.1, rfl, ?_⟩
      rw [nI_clamp (by omega), psI_set]
      have e0' : pI (pset B (u2 J (r + 28) NT.length (nI (a + 1)))) dr 0 = nI NT.length := by
        show u2 J (r + 28) _ _ dr 0 = _
        rw [u2_a (by omega)]; exact e0
      rw [e0', nI_1, psI_set]
      have F2 : FrX r dr J (u2 (u2 J (r + 28) NT.length (nI (a + 1))) dr 0 (nI (NT.length + 1))) := ⟨fun y h1 h2 h3 h4 => by rw [u2_a (by omega), u2_a h3], fun f _ _ _ _ _ => by rw [u2_a (by omega), u2_a (by omega)]⟩
      have jr : u2 (u2 J (r + 28) NT.length (nI (a + 1))) dr 0 (nI (NT.length + 1)) r = J r := by rw [u2_a (by omega), u2_a (by omega)]
      have jdf : ∀ f, f ≠ 0 → u2 (u2 J (r + 28) NT.length (nI (a + 1))) dr 0 (nI (NT.length + 1)) dr f = J dr f := fun f hf => by rw [u2_j hf, u2_a (by omega)]
      have pj2 : pT (u2 (u2 J (r + 28) NT.length (nI (a + 1))) dr 0 (nI (NT.length + 1))) r dr tp t n0 (a + 2) 0 (J r 15) (J r 16) nn tx := by
        obtain ⟨y1, y2, y3, y4, y5, y6, y7, y8⟩ := pj
        exact ⟨by rw [jr]; exact y1, by rw [jr]; exact y2, by rw [jr]; exact y3, by rw [jr], by rw [jr], by rw [jdf 10 (by decide)]; exact y6, by rw [jdf 14 (by decide)]; exact y7, y8⟩
      refine ho _ nn tx _ _ (NT ++ [a + 1]) NW nr nb ((f1.tr FJ).tr F2) ⟨(hE1.f FJ).f F2, pj2, eE, ?_, ?_, ?_, ?_⟩ (fun z => ?_)
      · rw [u2_same]
        refine hT1.add (by omega) (by omega) h20 (fun j hj => ?_) ?_
        · rw [u2_a (by omega), u2_j (by omega), q1 _ (by omega)]
        · rw [u2_a (by omega)]; exact u2_same
      · exact hW1.cg (by rw [jdf 1 (by decide), jd]) (by rw [u2_a (by omega), u2_a (by omega), q1 _ (by omega)])
      · rw [jdf 2 (by decide), jd]; exact hR1
      · rw [jdf 3 (by decide), jd]; exact hB1
      · have er' := (eT_er eE).1.mpr z
        have z1 : (sF t tp b0 (a + 1)).1 = 0 := by
          refine Decidable.not_not.mp (fun y => ?_)
          have es : sF t tp b0 (a + 2) = _ := sF_succ (t := t) (tp := tp) (b0 := b0) (a := a + 1)
          rw [if_neg y] at es
          rw [es] at z
          exact y z
        have er0 : er = 0 := (eT_er et1).1.mpr z1
        have w1 : fidx (NT.map (fun x => spl tp t (nI x))) (spl tp t (nI (a + 1))) 0 = -1 := by
          refine Decidable.not_not.mp (fun y => ?_)
          rw [q4] at er'
          unfold frE at er'
          rw [if_pos er0, if_neg y] at er'
          exact absurd er' (by decide)
        obtain ⟨⟨s1, s2, s3, s4⟩, s5, s6, s7⟩ := hS (sm1 z1).1
        have sb1 := (sm1 z1).2
        have eb : (sF t tp b0 (a + 2)).2.2.1 = ((sF t tp b0 (a + 1)).2.2.1.1 ++ [spl tp t (nI (a + 1))], (sF t tp b0 (a + 1)).2.2.1.2) := by
          have es : sF t tp b0 (a + 2) = _ := sF_succ (t := t) (tp := tp) (b0 := b0) (a := a + 1)
          have el : lkAt t tp (a + 1) (sF t tp b0 (a + 1)).2.2.1 (sF t tp b0 (a + 1)).2.2.2 = (0, ((sF t tp b0 (a + 1)).2.2.1.1 ++ [spl tp t (nI (a + 1))], (sF t tp b0 (a + 1)).2.2.1.2), (sF t tp b0 (a + 1)).2.2.2) := by
            rw [lk_name (by omega) h20, hk]
            unfold lkName
            rw [if_pos rfl, sb1.1, ← s1]
            have hn := fidx_neg (ls := NT.map (fun x => spl tp t (nI x))) (l := spl tp t (nI (a + 1))) (by rw [List.length_map]; omega)
            rw [if_pos (hn.mpr w1), if_pos (by rw [List.length_map]; omega)]
          rw [el, if_pos z1, if_pos rfl] at es
          rw [es]
        have cgA : ∀ x, dr < x → x < dr + 11 → u2 (u2 J (r + 28) NT.length (nI (a + 1))) dr 0 (nI (NT.length + 1)) x = I x := fun x h1 h2 => by rw [u2_a (by omega), u2_a (by omega), q1 x (by omega), u2_a (by omega)]
        have base := (hS (sm1 z1).1).cg cgA sb1
        rw [eb, List.append_nil]
        obtain ⟨⟨-, c2, c3, c4⟩, c5, c6, c7⟩ := base
        exact ⟨⟨by rw [List.map_append, s1, sb1.1]; rfl, c2, c3, c4⟩, c5, c6, c7⟩
  · -- no name: the line has failed
    rw [if_neg h20] at h
    cases Option.some.inj h
    have hNT6 : NT.length ≤ 6 := hT1.2.1
    have e0 : pI (pset B (u2 (u2 I r 12 (nI (a + 1))) r 14 (nI (a + 1)))) dr 0 = nI NT.length := by
      show u2 (u2 I r 12 _) r 14 _ dr 0 = _
      rw [u2_a hne]; exact hT1.1
    have F14 : FrX r dr (u2 I r 12 (nI (a + 1))) (u2 (u2 I r 12 (nI (a + 1))) r 14 (nI (a + 1))) := (FrV.u hne (by omega)).x
    rw [e0]
    refine ⟨fun _ => ⟨rfl, ho _ (f1.tr F14) u2_same (by omega)⟩, fun g => ⟨hq.1, r + 28, p10, hq.1, dr, p9, sb.1, ?_⟩⟩
    have l6 : NT.length ≠ 6 := fun z => g (by rw [z]; rfl)
    rw [e0]
    refine ⟨6, K28, vp_inN (by omega) (by omega), hq.1, dr, p9, sb.1, sb.1, rfl, ?_⟩
    rw [psI_set, psI_set]
    refine ho _ ((f1.tr F14).tr ⟨fun y h1 h2 h3 h4 => by rw [u2_a (by omega), u2_a h3], fun f _ _ _ _ _ => by rw [u2_a (by omega), u2_a (by omega)]⟩) ?_ (by omega)
    rw [u2_a (by omega), u2_a (by omega)]
    exact u2_same
