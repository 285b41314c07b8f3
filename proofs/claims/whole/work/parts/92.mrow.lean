/-! THE REFERENCE'S PARSER: rows of keys -/
theorem rnl_one {tp : List Int32} (h2 : tp.length ≤ 2000) : ∀ (n s : Nat), rnl 1 (tp.drop s) = n → ∀ j, j < n → isDg (rat tp (nI (s + j))) ≠ 0 ∨ isLt (rat tp (nI (s + j))) ≠ 0 := by
  intro n
  induction n with
  | zero => intro s _ j hj; exact absurd hj (by omega)
  | succ n ih =>
    intro s e j hj
    have hs : s < tp.length := by
      refine Nat.not_le.mp (fun z => ?_)
      rw [rnl_end z] at e
      omega
    rw [rnl_step hs] at e
    split at e
    · omega
    · rename_i c
      by_cases c2 : j = 0
      · subst c2
        rw [Nat.add_zero, rat_in (List.getElem?_eq_getElem hs) (by omega)]
        by_cases y : isDg tp[s] = 0
        · exact Or.inr (fun z => c ⟨y, Or.inr z⟩)
        · exact Or.inl y
      · have := ih (s + 1) (by omega) (j - 1) (by omega)
        rw [show s + 1 + (j - 1) = s + j by omega] at this
        exact this
theorem let_nI {x : Int32} (h : isLt x ≠ 0) : ∃ c, c < 128 ∧ x = nI c := by
  unfold isLt at h
  by_cases c1 : x < 97
  · rw [if_pos c1] at h; exact absurd rfl h
  rw [if_neg c1] at h
  by_cases c2 : (122 : Int32) < x
  · rw [if_pos c2] at h; exact absurd rfl h
  have p : ¬ x < 0 := fun z => c1 (Int32.lt_trans z (by decide))
  obtain ⟨k, hk, rfl⟩ := nI_of p
  have := (nI_leI (b := 122) hk (by omega)).mp (Int32.not_lt.mp c2)
  exact ⟨k, by omega, rfl⟩
theorem name_byte {tp : List Int32} {t : tK} {p a : Nat} (h2 : tp.length ≤ 2000) (hb : byteL tp) (g : geo tp t p) (hl : t.1.length ≤ 401) (h : kfT t a = 20) {j : Nat} (hj : j < lT tp t a) : ∃ c, c < 128 ∧ rat tp (nI (sT t a + j)) = nI c := by
  obtain ⟨n1, n2, n3, n4, n5⟩ := name_tok h2 hb g hl h
  obtain ⟨q1, q2, q3, q4⟩ := g.2.2.1 a n1
  have hk : tkK tp a (sT t a) = 20 := by
    unfold kfT at h
    rw [List.getD_eq_getElem?_getD, q4] at h
    exact h
  have hk2 : kindI tp (sT t a) (lT tp t a) = 20 := by
    unfold tkK at hk
    unfold lT
    split at hk
    · split at hk
      · exact hk
      · exact absurd hk (by decide)
    · exact hk
  obtain ⟨k1, k2⟩ := kind20 hb hk2
  have e1 : isLt (rat tp (nI (sT t a))) = 1 := isLt_01.resolve_left k2
  have el : lT tp t a = rnl 1 (tp.drop (sT t a)) := by
    unfold lT lenI
    rw [if_neg (fun z => k2 z.1), e1]
  rcases rnl_one h2 _ _ el.symm j hj with y | y
  · obtain ⟨c, _, c2, e⟩ := dig_nI y
    exact ⟨c, by omega, e⟩
  · exact let_nI y
theorem kqD.put {ky ky' : Nat → Int32} {ro po : List Int32} {c r p : Nat} (h : kqD ky ro po) (hc : c < 128) (hr : r < 4) (hp : p < 10) (h1 : ky' c = nI (16 * r + p)) (h2 : ∀ j, j ≠ c → ky' j = ky j) : kqD ky' (rput ro (nI c) (nI r)) (rput po (nI c) (nI p)) := by
  obtain ⟨a1, a2, a3⟩ := h
  rw [rput_nI (by omega), rput_nI (by omega)]
  refine ⟨by rw [List.length_set]; exact a1, by rw [List.length_set]; exact a2, fun j hj => ?_⟩
  have a4 := a3 j hj
  rw [rat_nI (by omega), rat_nI (by omega), List.getD_eq_getElem?_getD, List.getD_eq_getElem?_getD] at a4 ⊢
  by_cases e : j = c
  · subst e
    rw [List.getElem?_set_self (by omega), List.getElem?_set_self (by omega)]
    exact Or.inr ⟨r, p, hr, hp, rfl, rfl, h1⟩
  · rw [List.getElem?_set_ne (Ne.symm e), List.getElem?_set_ne (Ne.symm e), h2 j e]
    exact a4
theorem v_row {B : pM} {r td dr n0 a nn tx d : Nat} {tp : List Int32} {t : tK} {b0 : bK} {I : pIm} {er et : Int32} {NT NW : List Nat} {nr nb : Nat} {L : List (List (Int32 × Int32) × List (Int32 × Int32))} {K : pM → Prop} (hd : 4 ≤ d) (hv : lSx B r td dr tp t n0 b0 I (a + 1) nn tx er et NT NW nr nb) (hS : (sF t tp b0 (a + 1)).1 = 0 → lSem t tp b0 I dr (sF t tp b0 (a + 1)).2.2.1 NT NW nr nb nn tx L) (hk : kfT t a = 4 ∨ kfT t a = 44)
    (h1 : kfT t (a + 1) = 20 → ∀ (J : pIm) (er' et' : Int32) (nr' : Nat), FrX r dr I J → lSx B r td dr tp t n0 b0 J (a + 2) nn tx er' et' NT NW nr' nb → ((sF t tp b0 (a + 2)).1 = 0 → lSem t tp b0 J dr (sF t tp b0 (a + 2)).2.2.1 NT NW nr' nb nn tx L) → K (pset B J)) (h0 : kfT t (a + 1) ≠ 20 → K (pset B (u2 I r 14 (nI (a + 1))))) : pCall_v d mX13_readRow (0, 0) [.ref r] (pset B I) K := by
  have hq := hv.1.1
  have hy := hq.lay
  have hne : dr ≠ r := by omega
  have sb := hq.2.2.2.2.2.1
  have h400 := hv.1.2.2.2.2.2.1
  have hkm := hv.1.2.2.2.2.2.2.1
  have hgeo := hv.1.2.2.2.2.2.2.2
  have htl := hv.1.2.2.2.2.1
  have h2000 := hv.1.2.1.2.1
  have htb := hv.1.2.2.1
  have K1 := hq.2.2.2.1.1
  have K4 := hq.2.2.2.1.2.2.2.1
  have K5 := hq.2.2.2.1.2.2.2.2.1
  have p1 := hq.2.1.1
  have p6 := hq.2.1.2.2.2.1
  have p7 := hq.2.1.2.2.2.2.1
  have p9 := hq.2.1.2.2.2.2.2.2
  have kk := sb.2.2.2.2.2.2.1
  have pk := sb.2.1.2.2.2.2.1
  obtain ⟨hE, pt, et1, hT, hW, hR, hB⟩ := id hv
  obtain ⟨t1, t2, t3, t4, t5, t6, t7, t8, t9, t10, t11⟩ := id pt
  refine CP_go (by omega) okX13_readRow (Nat.le_of_ble_eq_true rfl) ?_
  refine bX13_readRow_0 ⟨hq.1, c_mname1 (by omega) hE t8 t1 t3 (fun h20 => ⟨hq.1, c_misOk1 (by omega) hq.1 ((u2_j (by decide)).trans t3) ⟨fun z => absurd z (by decide), fun _ => ⟨hq.1, dr, p9, sb.1, ?_⟩⟩⟩) (fun h20 => ⟨hq.1, c_misOk0 (by omega) hq.1 (by rw [u2_same]; exact fun z => nI_pos (n := a + 1) (by omega) (by rw [z]; decide)) ⟨fun _ => ⟨rfl, h0 h20⟩, fun z => absurd rfl z⟩⟩)⟩
  have hlt : a + 1 < n0 := hkm.lt h20 (by decide) (by decide) (by decide)
  obtain ⟨p, hg⟩ := id hgeo
  obtain ⟨n1, n2, n3, n4, n5⟩ := name_tok h2000 htb hg (by omega) h20
  obtain ⟨g1, g2, g3, -⟩ := hg.2.2.1 (a + 1) n1
  have hst := sT_mono hgeo htl hlt
  have hlen : (spl tp t (nI (a + 1))).length = lT tp t (a + 1) := by rw [n5, copyl_len]
  have va : vp_in (nI (a + 1)) 402 := vp_inN (by omega) (by omega)
  have ca : (nI (a + 1)).toNatClampNeg = a + 1 := nI_clamp (by omega)
  -- what the reading does with the name
  have lk : lkAt t tp (a + 1) (sF t tp b0 (a + 1)).2.2.1 (sF t tp b0 (a + 1)).2.2.2 = lkKey (spl tp t (nI (a + 1))) (sF t tp b0 (a + 1)).2.2.1 (sF t tp b0 (a + 1)).2.2.2 := by
    rw [lk_name (by omega) h20]
    unfold lkName
    rcases hk with z | z
    · rw [z, if_neg (by decide), if_neg (by decide), if_neg (by decide), if_neg (by decide), if_neg (by decide), if_neg (by decide)]
    · rw [z, if_neg (by decide), if_neg (by decide), if_neg (by decide), if_neg (by decide), if_neg (by decide), if_neg (by decide)]
  generalize hnm : spl tp t (nI (a + 1)) = nm at lk hlen n5
  generalize hbb : (sF t tp b0 (a + 1)).2.2.1 = bb at lk hS
  generalize hmm : (sF t tp b0 (a + 1)).2.2.2 = mm at lk
  have er0 := (eT_er et1).1
  have etn : er ≠ 0 → et ≠ nI (a + 1) := (eT_er et1).2 (by omega)
  have St : ∀ (m k : Nat) (J : pIm), lT tp t (a + 1) - k = m → k ≤ lT tp t (a + 1) → (∀ y, y ≠ r → y ≠ dr + 5 → J y = I y) → (∀ f, f ≠ 12 → f ≠ 15 → f ≠ 16 → J r f = I r f) → J r 12 = nI (a + 2) → (er ≠ 0 → J r 15 = er ∧ J r 16 = et) → (er = 0 → nr = 4 → J r 15 = 4 ∧ J r 16 = nI (a + 1)) → (er = 0 → nr < 4 → (J r 15 = 0 ∧ ∃ r2 p2, addK (nI nr) nm 0 (bb.2.2.2.2.1.1, bb.2.2.2.2.1.2.1) = addK (nI nr) (nm.drop k) k (r2, p2) ∧ kqD (J (dr + 5)) r2 p2) ∨ (J r 15 = 6 ∧ J r 16 = nI (a + 1) ∧ addK (nI nr) nm 0 (bb.2.2.2.2.1.1, bb.2.2.2.2.1.2.1) = none)) → Go (d - 1) mX13_readRow (fun r M1 => r = .inl none ∧ K M1) 32 ([some (.ref r), some (.int (nI (a + 1))), some (.int (nI k)), none], [], 0, 0) (pset B J) := by
    intro m
    induction m with
    | zero =>
      intro k J hm hk2 jo jr j12 s1 s2 s3
      have jd : J dr = I dr := jo dr hne (by omega)
      have FJ : FrX r dr I J := ⟨fun y y1 y2 y3 y4 => jo y y1 (by omega), fun f f1 f2 f3 f4 f5 => jr f f1 f4 f5⟩
      have hEJ := hE.f FJ
      have e5 : pI (pset B J) (r + 5) (a + 1) = nI (lT tp t (a + 1)) := hEJ.2.2.2.1.2.2.2.1 _ _ g3
      have e2 : pI (pset B J) dr 2 = nI nr := by
        show J dr 2 = _
        rw [jd]; exact hR.1
      refine bX13_readRow_32 ⟨hq.1, r + 5, p7, 402, K5, va, ?_⟩
      rw [ca, e5]
      refine ⟨fun _ => ⟨hq.1, dr, p9, hq.1, dr, p9, sb.1, sb.1, rfl, ?_⟩, fun gg => absurd (nI_le (by omega) (by omega)) gg⟩
      have ev : (if nI nr + 1 < 4 then nI nr + 1 else 4) = nI (min (nr + 1) 4) := by
        rw [nI_1]
        by_cases c : nr + 1 < 4
        · rw [if_pos (show nI (nr + 1) < 4 from (nI_ltI (b := 4) (by omega) (by omega)).mpr c), Nat.min_eq_left (by omega)]
        · rw [if_neg (show ¬ nI (nr + 1) < 4 from fun z => c ((nI_ltI (b := 4) (by have := hR.2; omega) (by omega)).mp z)), Nat.min_eq_right (by omega)]; rfl
      rw [e2, ev, psI_set]
      have FX : FrX r dr J (u2 J dr 2 (nI (min (nr + 1) 4))) := ⟨fun y y1 y2 y3 y4 => u2_a (by omega), fun f _ _ _ _ _ => by rw [u2_a hne.symm]⟩
      generalize hX : u2 J dr 2 (nI (min (nr + 1) 4)) = X at FX
      have xr : X r = J r := by rw [← hX, u2_a hne.symm]
      have x0 : ∀ f, f ≠ 2 → X dr f = I dr f := fun f hf => by rw [← hX, u2_j hf, jd]
      have x2 : X dr 2 = nI (min (nr + 1) 4) := by rw [← hX]; exact u2_same
      have x5 : X (dr + 5) = J (dr + 5) := by rw [← hX, u2_a (by omega)]
      have xo : ∀ y, y ≠ r → y ≠ dr → y ≠ dr + 5 → X y = I y := fun y y1 y2 y3 => by rw [← hX, u2_a y2]; exact jo y y1 y3
      clear hX
      have eE : eT (sF t tp b0 (a + 2)) (a + 2) (J r 15) (J r 16) := by
        refine eT_step et1 (fun z => ?_) (fun z => s1 z)
        have e0 := er0.mpr z
        have enr : bb.2.2.2.2.1.2.2 = nI nr := (hS z).1.2.2.1
        rw [hbb, hmm, lk]
        unfold lkKey
        rw [enr]
        by_cases c : nr < 4
        · rw [if_pos (show nI nr < 4 from (nI_ltI (b := 4) (by omega) (by omega)).mpr c)]
          rcases s3 e0 c with ⟨u1, r2, p2, u2', u3⟩ | ⟨u1, u2', u3⟩
          · rw [List.drop_of_length_le (by omega)] at u2'
            rw [u2']
            exact ⟨u1, fun y => absurd u1 y⟩
          · rw [u3]
            exact ⟨u1, fun _ => u2'⟩
        · have c4 : nr = 4 := by have := hR.2; omega
          rw [if_neg (show ¬ nI nr < 4 from fun z => c ((nI_ltI (b := 4) (by omega) (by omega)).mp z))]
          exact ⟨(s2 e0 c4).1, fun _ => (s2 e0 c4).2⟩
      refine h1 h20 X (J r 15) (J r 16) (min (nr + 1) 4) (FJ.tr FX) ⟨hEJ.f FX, ⟨by rw [xr]; exact j12, by rw [xr, jr 13 (by decide) (by decide) (by decide)]; exact t2, by rw [xr, jr 14 (by decide) (by decide) (by decide)]; exact t3, by rw [xr], by rw [xr], by rw [x0 10 (by decide)]; exact t6, by rw [x0 14 (by decide)]; exact t7, by omega, by omega, by
        show tx ≤ sT t (a + 1 + 1)
        omega, t11⟩, eE, hT.cg (x0 0 (by decide)) (xo _ (by omega) (by omega) (by omega)), hW.cg (x0 1 (by decide)) (xo _ (by omega) (by omega) (by omega)), ⟨x2, by omega⟩, by rw [x0 3 (by decide)]; exact hB⟩ (fun z => ?_)
      have z1 := sF_err z
      obtain ⟨o1, o2⟩ := sF_ok z
      have e0 := er0.mpr z1
      obtain ⟨⟨c1, c2, c3, c4⟩, ⟨d1, d2, d3, d4, d5⟩, ⟨f1, f2, f3⟩, c7⟩ := hS z1
      rw [hbb, hmm, lk] at o1 o2
      unfold lkKey at o1 o2
      rw [c3] at o1 o2
      by_cases c : nr < 4
      · rw [if_pos (show nI nr < 4 from (nI_ltI (b := 4) (by omega) (by omega)).mpr c)] at o1 o2
        rcases s3 e0 c with ⟨u1, r2, p2, u2', u3⟩ | ⟨u1, u2', u3⟩
        · rw [List.drop_of_length_le (by omega)] at u2'
          rw [u2'] at o2
          have o3 : (sF t tp b0 (a + 2)).2.2.1 = (bb.1, bb.2.1, bb.2.2.1, bb.2.2.2.1, (r2, p2, nI nr + 1), bb.2.2.2.2.2) := congrArg Prod.fst o2
          have kp : kpV dr I X nn tx := ⟨fun j _ => by rw [xo (dr + 7) (by omega) (by omega) (by omega), xo (dr + 8) (by omega) (by omega) (by omega), xo (dr + 9) (by omega) (by omega) (by omega)]; exact ⟨rfl, rfl, rfl⟩, fun j _ => by rw [xo (dr + 10) (by omega) (by omega) (by omega)]⟩
          unfold lSem
          rw [o3, xo (dr + 1) (by omega) (by omega) (by omega), xo (dr + 2) (by omega) (by omega) (by omega), xo (dr + 3) (by omega) (by omega) (by omega), xo (dr + 4) (by omega) (by omega) (by omega), xo (dr + 6) (by omega) (by omega) (by omega), x5]
          refine ⟨⟨c1, c2, ?_, c4⟩, ⟨d1, d2, d3, d4, u3⟩, ⟨f1, f2, f3⟩, fun i x hx => ?_⟩
          · show nI nr + 1 = nI (min (nr + 1) 4)
            rw [nI_1, Nat.min_eq_left (by omega)]
          · obtain ⟨y1, ⟨m1', y2, y3⟩, m2', y4, y5⟩ := c7 i x hx
            exact ⟨y1, ⟨m1', y2, y3.up kp (Nat.le_refl _) (Nat.le_refl _) (Nat.le_refl _) (Nat.le_refl _)⟩, m2', y4, y5.up kp (Nat.le_refl _) (Nat.le_refl _) (Nat.le_refl _) (Nat.le_refl _)⟩
        · rw [u3] at o1
          exact absurd (show (6 : Int32) = 0 from o1) (by decide)
      · rw [if_neg (show ¬ nI nr < 4 from fun z => c ((nI_ltI (b := 4) (by have := hR.2; omega) (by omega)).mp z))] at o1
        exact absurd (show (4 : Int32) = 0 from o1) (by decide)
    | succ m ih =>
      intro k J hm hk2 jo jr j12 s1 s2 s3
      have jd : J dr = I dr := jo dr hne (by omega)
      have FJ : FrX r dr I J := ⟨fun y y1 y2 y3 y4 => jo y y1 (by omega), fun f f1 f2 f3 f4 f5 => jr f f1 f4 f5⟩
      have hEJ := hE.f FJ
      have e5 : pI (pset B J) (r + 5) (a + 1) = nI (lT tp t (a + 1)) := hEJ.2.2.2.1.2.2.2.1 _ _ g3
      have e4 : pI (pset B J) (r + 4) (a + 1) = nI (sT t (a + 1)) := hEJ.2.2.2.1.2.2.1 _ _ g1
      have hin : sT t (a + 1) + k < tp.length := by omega
      have hkl : k < nm.length := by omega
      obtain ⟨c, hc, ec⟩ := name_byte h2000 htb hg (by omega) h20 (j := k) (by omega)
      have eb : pI (pset B J) (r + 1) (sT t (a + 1) + k) = nI c := by
        have e := List.getElem?_eq_getElem hin
        rw [← ec, rat_in e (by omega)]
        exact hEJ.2.1.2.2 _ _ e
      have enk : nm[k]? = some (nI c) := by rw [n5, copyl_at (by omega) (by omega), ec]
      have cc : (nI c).toNatClampNeg = c := nI_clamp (by omega)
      refine bX13_readRow_32 ⟨hq.1, r + 5, p7, 402, K5, va, ?_⟩
      rw [ca, e5]
      refine ⟨fun gg => absurd ((nI_leI (by omega) (by omega)).mp gg) (by omega), fun _ => ⟨hq.1, r + 1, p1, hq.1, r + 4, p6, 402, K4, va, ?_⟩⟩
      rw [e4, nI_add, nI_clamp (show sT t (a + 1) + k < 2 ^ 31 by omega), eb]
      refine ⟨2000, K1, vp_inN (by omega) (by omega), hq.1, dr, p9, sb.1, dr + 5, pk, 128, kk, vp_inN (by omega) (by omega), ?_⟩
      rw [cc]
      -- writing
      have wr : ∀ J1 : pIm, (∀ y, y ≠ r → J1 y = J y) → (∀ f, f ≠ 15 → f ≠ 16 → J1 r f = J r f) → (er ≠ 0 → J1 r 15 = er ∧ J1 r 16 = et) → (er = 0 → nr = 4 → J1 r 15 = 4 ∧ J1 r 16 = nI (a + 1)) → (er = 0 → nr < 4 → (J (dr + 5) c = -1 ∧ J1 r 15 = 0 ∧ ∃ r2 p2, addK (nI nr) nm 0 (bb.2.2.2.2.1.1, bb.2.2.2.2.1.2.1) = addK (nI nr) (nm.drop k) k (r2, p2) ∧ kqD (J (dr + 5)) r2 p2) ∨ (J1 r 15 = 6 ∧ J1 r 16 = nI (a + 1) ∧ addK (nI nr) nm 0 (bb.2.2.2.2.1.1, bb.2.2.2.2.1.2.1) = none)) → Go (d - 1) mX13_readRow (fun r M1 => r = .inl none ∧ K M1) 76 ([some (.ref r), some (.int (nI (a + 1))), some (.int (nI k)), some (.int (nI c))], [], 0, 0) (pset B J1) := by
        intro J1 q1 q2 q3 q4 q5
        have e2 : pI (pset B J1) dr 2 = nI nr := by
          show J1 dr 2 = _
          rw [q1 dr hne, jd]; exact hR.1
        refine bX13_readRow_76 ⟨hq.1, dr, p9, sb.1, dr + 5, pk, hq.1, dr, p9, sb.1, 128, kk, vp_inN (by omega) (by omega), ?_⟩
        rw [cc, e2, psI_set, nI_1]
        refine ih (k + 1) _ (by omega) (by omega) (fun y y1 y2 => by rw [u2_a y2, q1 y y1]; exact jo y y1 y2) (fun f f1 f2 f3 => by rw [u2_a (by omega), q2 f f2 f3]; exact jr f f1 f2 f3) (by rw [u2_a (by omega), q2 12 (by decide) (by decide)]; exact j12) (by rw [u2_a (by omega)]; exact q3) (by rw [u2_a (by omega)]; exact q4) (fun e0 c4 => ?_)
        rw [u2_a (show r ≠ dr + 5 by omega)]
        rcases q5 e0 c4 with ⟨w1, w2, r2, p2, w3, w4⟩ | w
        · refine Or.inl ⟨w2, rput r2 (nI c) (nI nr), rput p2 (nI c) (nI k), ?_, ?_⟩
          · rw [w3, List.drop_eq_getElem_cons hkl, addK]
            have ee : nm[k] = nI c := Option.some.inj ((List.getElem?_eq_getElem hkl).symm.trans enk)
            rw [ee]
            have neg : rat r2 (nI c) < 0 := by
              rcases w4.2.2 c hc with ⟨v1, v2⟩ | ⟨x, y, v1, v2, v3, v4, v5⟩
              · rw [v1]; decide
              · rw [w1] at v5
                exact absurd v5.symm (fun z => nI_pos (n := 16 * x + y) (by omega) (by rw [z]; decide))
            rw [if_pos neg]
          · refine w4.put hc c4 (by omega) ?_ (fun j hj => by rw [u2_j hj, q1 _ (by omega)])
            rw [u2_same, if_pos (show nI nr < 4 from (nI_ltI (b := 4) (by omega) (by omega)).mpr c4)]
            rw [show (16 : Int32) * nI nr = nI (16 * nr) from nI_mul 16 _, nI_add]
        · exact Or.inr w
      refine ⟨fun gk => wr J (fun _ _ => rfl) (fun _ _ _ => rfl) s1 s2 (fun e0 c4 => ?_), fun gk => ⟨hq.1, ?_⟩⟩
      · rcases s3 e0 c4 with w | w
        · exact Or.inl ⟨gk, w⟩
        · exact Or.inr w
      by_cases c0 : J r 15 = 0
      · have e0 : er = 0 := Decidable.not_not.mp (fun z => z ((s1 z).1.symm.trans c0))
        have n4' : nr ≠ 4 := fun z => absurd ((s2 e0 z).1.symm.trans c0) (by decide)
        have c4 : nr < 4 := by have := hR.2; omega
        refine c_mtell1 (by omega) hq.1 c0 (wr _ (fun y hy2 => by rw [u2_a hy2, u2_a hy2]) (fun f f1 f2 => by rw [u2_j f2, u2_j f1]) (fun z => absurd e0 z) (fun _ z => absurd z n4') (fun _ _ => Or.inr ⟨by rw [u2_j (by decide)]; exact u2_same, u2_same, ?_⟩))
        rcases s3 e0 c4 with ⟨w2, r2, p2, w3, w4⟩ | w
        · rw [w3, List.drop_eq_getElem_cons hkl, addK]
          have ee : nm[k] = nI c := Option.some.inj ((List.getElem?_eq_getElem hkl).symm.trans enk)
          rw [ee]
          have neg : ¬ rat r2 (nI c) < 0 := by
            rcases w4.2.2 c hc with ⟨v1, v2⟩ | ⟨x, y, v1, v2, v3, v4, v5⟩
            · exact absurd v2 gk
            · rw [v3]; exact nI_pos (by omega)
          rw [if_neg neg]
        · exact w.2.2
      · refine c_mtell0 (by omega) hq.1 c0 (fun z => ?_) (wr J (fun _ _ => rfl) (fun _ _ _ => rfl) s1 s2 (fun e0 c4 => ?_))
        · by_cases e0 : er = 0
          · by_cases c4 : nr = 4
            · rw [(s2 e0 c4).1]; decide
            · rcases s3 e0 (by have := hR.2; omega) with w | w
              · exact absurd w.1 c0
              · rw [w.1]; decide
          · exact absurd ((s1 e0).2.symm.trans z) (etn e0)
        · rcases s3 e0 c4 with w | w
          · exact absurd w.1 c0
          · exact Or.inr w
  have hcnt : pI (pset B (u2 I r 12 (nI (a + 1 + 1)))) dr 2 = nI nr := by
    show u2 I r 12 _ dr 2 = _
    rw [u2_a hne]; exact hR.1
  rw [hcnt]
  have n4k : nI nr = 4 ↔ nr = 4 := nI_eq (b := 4) (by have := hR.2; omega) (by omega)
  have sta : (er = 0 → nr < 4) → Go (d - 1) mX13_readRow (fun r M1 => r = .inl none ∧ K M1) 30 ([some (.ref r), some (.int (nI (a + 1))), none, none], [], 0, 0) (pset B (u2 I r 12 (nI (a + 1 + 1)))) := by
    intro hc
    refine bX13_readRow_30 (St _ 0 _ rfl (by omega) (fun y y1 _ => u2_a y1) (fun f f1 _ _ => u2_j f1) u2_same (fun z => ⟨by rw [u2_j (by decide)]; exact t4, by rw [u2_j (by decide)]; exact t5⟩) (fun e0 z => absurd (hc e0) (by omega)) (fun e0 c4 => Or.inl ⟨by rw [u2_j (by decide)]; exact t4.trans e0, _, _, rfl, ?_⟩))
    rw [u2_a (by omega)]
    exact (hS (er0.mp e0)).2.1.2.2.2.2
  refine ⟨fun g => ⟨hq.1, ?_⟩, fun g => sta (fun _ => by have := hR.2; have : nr ≠ 4 := fun z => g (n4k.mpr z); omega)⟩
  have c4 := n4k.mp g
  by_cases e0 : er = 0
  · refine c_mtell1 (by omega) hq.1 (by rw [u2_j (by decide)]; exact t4.trans e0) ?_
    exact bX13_readRow_30 (St _ 0 _ rfl (by omega) (fun y y1 _ => by rw [u2_a y1, u2_a y1, u2_a y1]) (fun f f1 f2 f3 => by rw [u2_j f3, u2_j f2, u2_j f1]) (by rw [u2_j (by decide), u2_j (by decide)]; exact u2_same) (fun z => absurd e0 z) (fun _ _ => ⟨by rw [u2_j (by decide)]; exact u2_same, u2_same⟩) (fun _ z => absurd z (by omega)))
  · exact c_mtell0 (by omega) hq.1 (by rw [u2_j (by decide), t4]; exact e0) (fun z => by rw [u2_j (by decide), t5] at z; exact absurd z (etn e0)) (sta (fun z => absurd z e0))
theorem v_keys {B : pM} {r td dr n0 a nn tx d : Nat} {tp : List Int32} {t : tK} {b0 : bK} {I : pIm} {er et : Int32} {NT NW : List Nat} {nr nb : Nat} {L : List (List (Int32 × Int32) × List (Int32 × Int32))} {ok : Bool} {a' n : Nat} {l : List (List (Int32 × Int32) × List (Int32 × Int32))} {K : pM → Prop} (hd : 5 ≤ d) (hv : lSx B r td dr tp t n0 b0 I a nn tx er et NT NW nr nb) (hS : (sF t tp b0 a).1 = 0 → lSem t tp b0 I dr (sF t tp b0 a).2.2.1 NT NW nr nb nn tx L) (hk : kfT t a = 4) (h : gKeys (kfT t) n a = some (ok, a', l)) (ho : lOut B r td dr tp t n0 b0 I L ok a' l K) : pCall_v d mX13_readRows (0, 0) [.ref r] (pset B I) K := by
  have hq := hv.1.1
  have hy := hq.lay
  have hne : dr ≠ r := by omega
  have h400 := hv.1.2.2.2.2.2.1
  refine CP_go (by omega) okX13_readRows (Nat.le_of_ble_eq_true rfl) ?_
  -- behind a failure
  have dead : ∀ (J : pIm) (f : Nat), FrX r dr I J → J r 14 = nI f → f ≤ 400 → ok = false → a' = f → Go (d - 1) mX13_readRows (fun r M1 => r = .inl none ∧ K M1) 14 ([some (.ref r)], [], 0, 0) (pset B J) := by
    intro J f F h14 hf eo ea
    subst eo ea
    exact bX13_readRows_14 ⟨hq.1, c_mis0 (by omega) hq.1 (by rw [h14]; exact fun z => nI_pos (n := a') (by omega) (by rw [z]; decide)) ⟨fun _ => ⟨rfl, ho J F h14 hf⟩, fun z => absurd rfl z⟩⟩
  have loop : ∀ (n b : Nat) (J : pIm) (er et : Int32) (nr : Nat), FrX r dr I J → lSx B r td dr tp t n0 b0 J b nn tx er et NT NW nr nb → ((sF t tp b0 b).1 = 0 → lSem t tp b0 J dr (sF t tp b0 b).2.2.1 NT NW nr nb nn tx L) → gRows (kfT t) n b = some (ok, a', l) → Go (d - 1) mX13_readRows (fun r M1 => r = .inl none ∧ K M1) 14 ([some (.ref r)], [], 0, 0) (pset B J) := by
    intro n
    induction n with
    | zero => intro b J er et nr F hv2 hS2 hg; exact nomatch hg
    | succ n ih =>
      intro b J er et nr F hv2 hS2 hg
      rw [gRows] at hg
      obtain ⟨hE2, pt2, -⟩ := id hv2
      obtain ⟨y1, y2, y3, y4, y5, y6, y7, y8, y9, y10, y11⟩ := id pt2
      refine bX13_readRows_14 ⟨hq.1, c_misS (by omega) hE2 y8 y1 y3 (Or.inl (by unfold sgn; decide)) (fun k44 => ⟨fun z => absurd z (by decide), fun _ => ⟨hq.1, hq.1, hq.1, ?_⟩⟩) (fun k44 => ⟨fun _ => ⟨rfl, ?_⟩, fun z => absurd rfl z⟩)⟩
      rotate_left
      · have k44' : ¬ kfT t b = 44 := k44
        rw [if_neg k44'] at hg
        cases Option.some.inj hg
        exact ho J nn tx er et NT NW nr nb F hv2 (fun z => by rw [List.append_nil]; exact hS2 z)
      have k44' : kfT t b = 44 := k44
      rw [if_pos k44'] at hg
      obtain ⟨hv3, F3, sm3, hlt3⟩ := hv2.skip (by rw [k44']; decide) (by rw [k44']; decide) (by rw [k44']; decide) (by rw [k44']; decide)
      have e12 : pI (pset B J) r 12 = nI b := y1
      rw [e12, nI_1, psI_set]
      refine v_row (L := L) (by omega) hv3 (fun z => (hS2 (sm3 z).1).cg (fun x x1 x2 => u2_a (by omega)) (sm3 z).2) (Or.inr k44') (fun h20 J2 er2 et2 nr2 F4 hv4 hS4 => ?_) (fun h20 => ?_)
      · rw [if_pos h20] at hg
        exact ih (b + 2) J2 er2 et2 nr2 ((F.tr F3).tr F4) hv4 hS4 hg
      · rw [if_neg h20] at hg
        cases Option.some.inj hg
        exact dead _ (b + 1) ((F.tr F3).tr (FrV.u hne (by omega)).x) u2_same (by omega) rfl rfl
  unfold gKeys at h
  obtain ⟨hv1, F1, sm1, hlt1⟩ := hv.skip (by rw [hk]; decide) (by rw [hk]; decide) (by rw [hk]; decide) (by rw [hk]; decide)
  have e12 : pI (pset B I) r 12 = nI a := hv.2.1.1
  refine bX13_readRows_0 ⟨hq.1, hq.1, hq.1, ?_⟩
  rw [e12, nI_1, psI_set]
  refine v_row (L := L) (by omega) hv1 (fun z => (hS (sm1 z).1).cg (fun x x1 x2 => u2_a (by omega)) (sm1 z).2) (Or.inl hk) (fun h20 J2 er2 et2 nr2 F4 hv4 hS4 => ?_) (fun h20 => ?_)
  · rw [if_pos h20] at h
    exact loop n (a + 2) J2 er2 et2 nr2 (F1.tr F4) hv4 hS4 h
  · rw [if_neg h20] at h
    cases Option.some.inj h
    exact dead _ (a + 1) (F1.tr (FrV.u hne (by omega)).x) u2_same (by omega) rfl rfl
