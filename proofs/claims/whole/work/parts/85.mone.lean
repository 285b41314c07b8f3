/-! THE REFERENCE'S PARSER: numbers, names in values -/
theorem rnl_dig {tp : List Int32} (h2 : tp.length ≤ 2000) : ∀ (n s : Nat), rnl 0 (tp.drop s) = n → ∀ j, j < n → s + j < tp.length ∧ isDg (rat tp (nI (s + j))) ≠ 0 := by
  intro n
  induction n with
  | zero => intro s _ j hj; exact absurd hj (by omega)
  | succ n ih =>
    intro s e j hj
    have hs : s < tp.length := by
      refine Nat.not_le.mp (fun z => ?_)
      rw [rnl_end z] at e
      omega
    rw [rnl_step hs] at e
    split at e
    · omega
    · rename_i c
      by_cases c2 : j = 0
      · subst c2
        refine ⟨hs, fun z => c ⟨?_, Or.inl rfl⟩⟩
        rw [Nat.add_zero, rat_in (List.getElem?_eq_getElem hs) (by omega)] at z
        exact z
      · have := ih (s + 1) (by omega) (j - 1) (by omega)
        rw [show s + 1 + (j - 1) = s + j by omega] at this
        exact this
theorem dig_nI {x : Int32} (h : isDg x ≠ 0) : ∃ c, 48 ≤ c ∧ c ≤ 57 ∧ x = nI c := by
  unfold isDg at h
  by_cases c1 : x < 48
  · rw [if_pos c1] at h; exact absurd rfl h
  rw [if_neg c1] at h
  by_cases c2 : (57 : Int32) < x
  · rw [if_pos c2] at h; exact absurd rfl h
  have h0 : ¬ x < 0 := fun z => c1 (Int32.lt_of_lt_of_le z (by decide))
  obtain ⟨k, hk, rfl⟩ := nI_of h0
  refine ⟨k, Nat.not_lt.mp (fun z => c1 (nI_lt (b := 48) z (by omega))), Nat.not_lt.mp (fun z => c2 (nI_lt (a := 57) z hk)), rfl⟩
theorem num_nI {tp : List Int32} {s : Nat} (hs : s ≤ 2000) : ∀ n, n ≤ 6 → (∀ j, j < n → isDg (rat tp (nI (s + j))) ≠ 0) → ∃ v, v + 1 ≤ 10 ^ n ∧ numL tp (nI s) n = nI v := by
  intro n
  induction n with
  | zero => intro _ _; exact ⟨0, by decide, rfl⟩
  | succ n ih =>
    intro hn h
    obtain ⟨v, hv, ev⟩ := ih (by omega) (fun j hj => h j (by omega))
    obtain ⟨c, c1, c2, ec⟩ := dig_nI (h n (by omega))
    refine ⟨v * 10 + c - 48, ?_, ?_⟩
    · rw [Nat.pow_succ]; omega
    · rw [numL, ev, nI_add, ec, show nI v * 10 = nI (v * 10) from nI_mul v 10, nI_add]
      exact nI_sub (b := 48) (by omega)
theorem num_tok {tp : List Int32} {t : tK} {p a : Nat} (h2 : tp.length ≤ 2000) (hb : byteL tp) (g : geo tp t p) (hl : t.1.length ≤ 401) (h : kfT t a = 21) : ∃ v, v ≤ 999999 ∧ nmT tp t a = nI v := by
  have ha : a < t.1.length := by
    refine Nat.not_le.mp (fun z => ?_)
    unfold kfT at h
    rw [List.getD_eq_getElem?_getD, List.getElem?_eq_none z] at h
    exact absurd h (by decide)
  obtain ⟨q1, q2, q3, q4⟩ := g.2.2.1 a ha
  have hk : tkK tp a (sT t a) = 21 := by
    unfold kfT at h
    rw [List.getD_eq_getElem?_getD, q4] at h
    exact h
  have hk2 : kindI tp (sT t a) (lT tp t a) = 21 := by
    unfold tkK at hk
    unfold lT
    split at hk
    · split at hk
      · exact hk
      · exact absurd hk (by decide)
    · exact hk
  have hd : isLt (rat tp (nI (sT t a))) = 0 ∧ isDg (rat tp (nI (sT t a))) ≠ 0 ∧ lT tp t a ≤ 6 := by
    unfold kindI at hk2
    by_cases c0 : rat tp (nI (sT t a)) < 0
    · rw [if_pos c0] at hk2; exact absurd hk2 (by decide)
    rw [if_neg c0] at hk2
    by_cases c1 : isLt (rat tp (nI (sT t a))) = 0
    · rw [if_pos c1] at hk2
      by_cases c2 : isDg (rat tp (nI (sT t a))) = 0
      · rw [if_pos c2] at hk2
        by_cases c3 : lT tp t a = 2
        · rw [if_pos c3] at hk2
          split at hk2
          · exact absurd hk2 (by decide)
          · exact absurd hk2 (by decide)
        · rw [if_neg c3] at hk2
          by_cases c4 : fiI (rat tp (nI (sT t a))).toInt8.toInt32 (sB 1) 0 < 0
          · rw [if_pos c4] at hk2; exact absurd hk2 (by decide)
          · rw [if_neg c4] at hk2
            have hb2 := (rat_byte hb (nI (sT t a))).resolve_left (fun z => c0 (by rw [z]; decide))
            have := fun z => c4 ((sgn_fi hb2.1 hb2.2).mpr z)
            rw [hk2] at this
            exact absurd (by unfold sgn; decide) this
      · rw [if_neg c2] at hk2
        refine ⟨c1, c2, ?_⟩
        split at hk2
        · assumption
        · exact absurd hk2 (by decide)
    · rw [if_neg c1] at hk2
      by_cases c2 : lT tp t a ≤ 10
      · rw [if_pos c2] at hk2
        split at hk2
        · rcases fidx_cases (ls := keyw) (l := copyl tp (nI (sT t a)) (lT tp t a)) 0 with e | ⟨k, hk, e⟩
          · rw [e] at hk2; exact absurd hk2 (by decide)
          · rw [e, Nat.zero_add] at hk2
            have hk19 : k < 19 := hk
            have := (nI_eq (b := 21) (by omega) (by omega)).mp hk2
            omega
        · exact absurd hk2 (by decide)
      · rw [if_neg c2] at hk2; exact absurd hk2 (by decide)
  have el : lT tp t a = rnl 0 (tp.drop (sT t a)) := by
    unfold lT lenI
    rw [if_neg (fun z => hd.2.1 z.2), hd.1]
  have r1 : rat t.2.1 (nI a) = nI (sT t a) := rat_in q1 (by rw [g.1]; omega)
  have r2 : rat t.2.2 (nI a) = nI (lT tp t a) := rat_in q3 (by rw [g.2.1]; omega)
  obtain ⟨v, hv, ev⟩ := num_nI (tp := tp) (s := sT t a) (by omega) (lT tp t a) hd.2.2 (fun j hj => (rnl_dig h2 _ _ el.symm j hj).2)
  have hp : (10 : Nat) ^ lT tp t a ≤ 10 ^ 6 := Nat.pow_le_pow_right (by decide) hd.2.2
  refine ⟨v, by have e6 : (10 : Nat) ^ 6 = 1000000 := by decide
                omega, ?_⟩
  unfold nmT numO
  rw [r1, r2, nI_clamp (by omega), Nat.min_eq_left hd.2.2]
  exact ev
/-- a number, in its bounds -/
theorem c_mnumV {d : Nat} (hd : 2 ≤ d) {B : pM} {J : pIm} {r td dr n0 a : Nat} {tp : List Int32} {t : tK} {hi : Int32} {K : Int32 → pM → Prop} (hE : tkE B J r td dr tp t n0) (ha : a ≤ n0) (h12 : J r 12 = nI a) (h14 : J r 14 = -1) (hk : kfT t a = 21) (hr : isInI (nmT tp t a) 0 hi = 1) (h : K (nmT tp t a) (pset B (u2 J r 12 (nI (a + 1))))) : pCall_i d mX13_number (0, 0) [.ref r, .int 0, .int hi] (pset B J) K := by
  refine CP_go (by omega) okX13_number (Nat.le_of_ble_eq_true rfl) ?_
  have hk1 := hE.1.1
  have h400 := hE.2.2.2.2.2.1
  have e12 : pI (pset B J) r 12 = nI a := h12
  have hN := kdR_N (kd_at hE ha)
  have va : vp_in (nI a) 402 := vp_inN (by omega) (by omega)
  have ca : (nI a).toNatClampNeg = a := nI_clamp (by omega)
  have e2 : pI (pset B J) (r + 2) a = 3 := hN.2.1.mpr hk
  have e3 : pI (pset B J) (r + 3) a = nmT tp t a := hN.2.2 hk
  refine bX13_number_0 ⟨hk1, c_misOk1 (by omega) hk1 h14 ⟨fun z => absurd z (by decide), fun _ => ⟨hk1, r + 2, hE.1.2.1.2.1, hk1, 402, hE.1.2.2.2.1.2.1, by rw [e12]; exact va, ?_⟩⟩⟩
  rw [e12, ca, e2]
  refine ⟨fun _ => ⟨hk1, r + 3, hE.1.2.1.2.2.1, hk1, 402, hE.1.2.2.2.1.2.2.1, va, ?_⟩, fun z => absurd rfl z⟩
  rw [e3]
  refine c_misIn (by omega) ?_
  rw [hr]
  refine ⟨fun z => absurd z (by decide), fun _ => bX13_number_52 ⟨hk1, hk1, hk1, r + 3, hE.1.2.1.2.2.1, hk1, 402, hE.1.2.2.2.1.2.2.1, ?_⟩⟩
  have e4 : pI (psI (pset B J) r 12 (nI a + 1)) r 12 = nI (a + 1) := by rw [nI_1]; exact u2_same
  rw [e12, e4, nI_pred]
  refine ⟨va, ?_⟩
  have e5 : pI (psI (pset B J) r 12 (nI a + 1)) (r + 3) (Int32.toNatClampNeg (nI a)) = nmT tp t a := by
    rw [ca]
    show u2 J r 12 _ (r + 3) a = _
    rw [u2_a (by omega)]
    exact e3
  rw [e5, nI_1, psI_set]
  exact ⟨_, rfl, h⟩
theorem val_S {B : pM} {J : pIm} {r td dr n0 a : Nat} {tp : List Int32} {t : tK} {x : Int32} (hE : tkE B J r td dr tp t n0) (ha : a ≤ n0) (hx : sgn x ∨ x = 108 ∨ x = 103) (hk : kfT t a = cmpK x) : J (r + 3) a = x := ((kdR_S (kd_at hE ha) hx).mpr hk).2
theorem val_K {B : pM} {J : pIm} {r td dr n0 a k : Nat} {tp : List Int32} {t : tK} {x : Int32} (hE : tkE B J r td dr tp t n0) (ha : a ≤ n0) (hk : k < 19) (hx : x = nI k) (hk2 : kfT t a = x) : J (r + 3) a = x := ((kdR_K (kd_at hE ha) hk hx).mpr hk2).2
/-- the reading at a name behind weight or last -/
theorem sF_known {t : tK} {tp : List Int32} {b0 : bK} {a : Nat} (ha : a < 2000) (hk : kfT t a = 2 ∨ kfT t a = 12) (h20 : kfT t (a + 1) = 20) : ((sF t tp b0 (a + 1)).1 ≠ 0 → sF t tp b0 (a + 2) = sF t tp b0 (a + 1)) ∧ ((sF t tp b0 (a + 1)).1 = 0 → 0 ≤ fidx (sF t tp b0 (a + 1)).2.2.1.2.1 (spl tp t (nI (a + 1))) 0 → (sF t tp b0 (a + 2)).1 = 0 ∧ (sF t tp b0 (a + 2)).2.2.1 = (sF t tp b0 (a + 1)).2.2.1 ∧ (sF t tp b0 (a + 2)).2.2.2 = rput (sF t tp b0 (a + 1)).2.2.2 (nI (a + 1)) (fidx (sF t tp b0 (a + 1)).2.2.1.2.1 (spl tp t (nI (a + 1))) 0)) ∧ ((sF t tp b0 (a + 1)).1 = 0 → ¬ 0 ≤ fidx (sF t tp b0 (a + 1)).2.2.1.2.1 (spl tp t (nI (a + 1))) 0 → (sF t tp b0 (a + 2)).1 = 3 ∧ (sF t tp b0 (a + 2)).2.1 = a + 1) := by
  have e1 : rat t.1 (nI (a + 1)) = 20 := (rat_nI (by omega)).trans h20
  have e2 : rat t.1 (nI (a + 1) - 1) = kfT t a := by rw [nI_pred]; exact rat_nI (by omega)
  have n1 : kfT t a ≠ 0 ∧ kfT t a ≠ 1 := by rcases hk with e | e <;> rw [e] <;> decide
  have el : lkAt t tp (a + 1) (sF t tp b0 (a + 1)).2.2.1 (sF t tp b0 (a + 1)).2.2.2 = (if 0 ≤ fidx (sF t tp b0 (a + 1)).2.2.1.2.1 (spl tp t (nI (a + 1))) 0 then 0 else 3, (sF t tp b0 (a + 1)).2.2.1, rput (sF t tp b0 (a + 1)).2.2.2 (nI (a + 1)) (fidx (sF t tp b0 (a + 1)).2.2.1.2.1 (spl tp t (nI (a + 1))) 0)) := by
    unfold lkAt lkName
    rw [e1, if_neg (by decide), if_pos rfl, e2, if_neg n1.1, if_neg n1.2, if_pos hk]
  have es : sF t tp b0 (a + 2) = _ := sF_succ (t := t) (tp := tp) (b0 := b0) (a := a + 1)
  rw [el] at es
  refine ⟨fun h => ?_, fun h h2 => ?_, fun h h2 => ?_⟩
  · rw [es, if_neg h]
  · rw [es, if_pos h, if_pos (if_pos h2)]
    exact ⟨rfl, rfl, rfl⟩
  · have n3 : ¬ (if 0 ≤ fidx (sF t tp b0 (a + 1)).2.2.1.2.1 (spl tp t (nI (a + 1))) 0 then (0 : Int32) else 3) = 0 := by rw [if_neg h2]; decide
    rw [es, if_pos h, if_neg n3]
    exact ⟨if_neg h2, rfl⟩
theorem fidx_m1 {ls : List (List Int32)} {l : List Int32} (h : ls.length < 1000) : (fidx ls l 0 = -1 ∧ ¬ 0 ≤ fidx ls l 0) ∨ ∃ k, k < ls.length ∧ fidx ls l 0 = nI k ∧ 0 ≤ fidx ls l 0 ∧ fidx ls l 0 ≠ -1 := by
  rcases fidx_cases (ls := ls) (l := l) 0 with e | ⟨k, hk, e⟩
  · exact Or.inl ⟨e, by rw [e]; decide⟩
  · rw [Nat.zero_add] at e
    refine Or.inr ⟨k, hk, e, by rw [e]; exact nI_pos' (by omega), fun z => nI_pos (n := k) (by omega) (by rw [← e, z]; decide)⟩
/-- weight or last, and a name -/
theorem v_known {B : pM} {I : pIm} {r td dr n0 a dd nn tx d : Nat} {tp : List Int32} {t : tK} {b0 : bK} {N : List Nat} {er et : Int32} {T : Bool} {x : Int32} {ok : Bool} {a' : Nat} {s : List (Int32 × Int32)} {K : Int32 → pM → Prop} (hd : 3 ≤ d) (hv : vIn B I r td dr tp t n0 b0 N a dd er et nn tx) (hx : x = 2 ∨ x = 12) (hT : (x = 2 ∧ T = false) ∨ (x = 12 ∧ T = true)) (hk : kfT t a = x) (h : (if kfT t (a + 1) = 20 then some (true, a + 2, [(x, nI (a + 1))]) else some (false, a + 1, [])) = some (ok, a', s)) (ho : vOut B r dr tp t n0 b0 T I a dd nn tx [] ok a' s K) : pCall_i d mX13_known (0, 0) [.ref r, .ref (r + 29), .int (I dr 1)] (pset B (u2 I r 12 (nI (a + 1)))) (fun v1 M1 => pK M1 dr = (1, 12) ∧ pCall_i d mX12_node (0, 0) [.ref dr, .int x, .int v1, .int 0] M1 (fun v2 M2 => K v2 M2)) := by
  have hy := hv.1.1.lay
  have hyd : dr = r + 6 ∨ dr = r + 17 := by omega
  have hne : dr ≠ r := by omega
  have sb := hv.1.1.2.2.2.2.2.1
  have K29 := hv.1.1.2.2.2.1.2.2.2.2.2.2.1
  have h400 := hv.1.2.2.2.2.2.1
  have hx2 : x ≠ 24 ∧ x ≠ 25 ∧ x ≠ -1 ∧ x ≠ 5 ∧ x ≠ 20 ∧ x ≠ 21 := by rcases hx with e | e <;> subst e <;> decide
  obtain ⟨hv1, f1, p1, sm1, hlt⟩ := hv.skip (by rw [hk]; exact ⟨hx2.1, hx2.2.1, hx2.2.2.1⟩) (by rw [hk]; exact hx2.2.2.2.1) (by rw [hk]; exact hx2.2.2.2.2.1) (Or.inl (by rw [hk]; exact hx2.2.2.2.2.2))
  obtain ⟨hE1, pt1, et1, hN1, hW1⟩ := id hv1
  obtain ⟨t1, t2, t3, t4, t5, t6, t7, t8, t9, t10, t11⟩ := id pt1
  have hk' : kfT t a = 2 ∨ kfT t a = 12 := by rw [hk]; exact hx
  have hnn := hv.2.1.2.2.2.2.2.2.2.2.1
  have hcnt : nmV t n0 (u2 I r 12 (nI (a + 1))) (r + 29) (I dr 1) 40 N := by
    have := hN1
    rw [u2_a hne] at this
    exact this
  have hNl := hN1.2.1
  -- the name is one: the node, whatever it is worth
  have fin : kfT t (a + 1) = 20 → ∀ (w : Int32) (J : pIm) (er' et' : Int32), FrV r dr (u2 I r 12 (nI (a + 1))) J → kpV dr (u2 I r 12 (nI (a + 1))) J nn tx → J r 12 = nI (a + 2) → J r 13 = nI dd → J r 14 = -1 → J r 15 = er' → J r 16 = et' → J dr 10 = nI nn → J dr 14 = nI tx → eT (sF t tp b0 (a + 2)) (a + 2) er' et' → smT (sF t tp b0 (a + 1)) (sF t tp b0 (a + 2)) → ((sF t tp b0 (a + 2)).1 = 0 → w = fidx (sF t tp b0 (a + 1)).2.2.1.2.1 (spl tp t (nI (a + 1))) 0 ∧ 0 ≤ w) → pK (pset B J) dr = (1, 12) ∧ pCall_i d mX12_node (0, 0) [.ref dr, .int x, .int w, .int 0] (pset B J) (fun v2 M2 => K v2 M2) := by
    intro h20 w J er' et' F P j12 j13 j14 j15 j16 j10 jt eE sm2 hw
    rw [if_pos h20] at h
    cases Option.some.inj h
    have hlt2 : a + 1 < n0 := hE1.2.2.2.2.2.2.1.lt h20 (by decide) (by decide) (by decide)
    have hst := sT_mono hE1.2.2.2.2.2.2.2 hE1.2.2.2.2.1 hlt2
    have pj : pT J r dr tp t n0 (a + 2) dd er' et' nn tx := ⟨j12, j13, j14, j15, j16, j10, jt, by omega, by omega, by
      show tx ≤ sT t (a + 1 + 1)
      omega, t11⟩
    refine ⟨sb.1, c_mnode (by omega) sb j10 (by omega) ?_⟩
    obtain ⟨F2, P2, g1, g2, g3, -⟩ := nodeJ_fr (J := J) (r := r) (nn := nn) (tx := tx) (x := x) (y := w) (z := 0) hyd
    refine ho _ nn (nn + 1) tx er' et' ((f1.tr F).tr F2) ((p1.tr P (Nat.le_refl _) (Nat.le_refl _)).tr P2 (Nat.le_refl _) (Nat.le_refl _)) (pj.node hyd (by omega)) (by omega) (Nat.le_refl _) (by omega) eE (sm1.tr sm2) (by omega) (fun z => ?_)
    obtain ⟨w1, w2⟩ := hw z
    have sz := sm2 z
    have ew : (sF t tp b0 (a + 2)).2.2.1.2.1 = (sF t tp b0 (a + 1)).2.2.1.2.1 := sz.2.2.1
    have hl1000 : (sF t tp b0 (a + 1)).2.2.1.2.1.length < 1000 := by
      rw [← hW1 sz.1, List.length_map]; omega
    have pg : payG t tp b0 (x, nI (a + 1)) = (x, [w]) := by
      unfold payG
      show (x, if x = 13 then _ else if x = 2 ∨ x = 12 then [fidx (sF t tp b0 (nI (a + 1)).toNatClampNeg).2.2.1.2.1 (spl tp t (nI (a + 1))) 0] else _) = _
      rw [if_neg (by rcases hx with e | e <;> rw [e] <;> decide), if_pos hx, nI_clamp (by omega), ← w1]
    show nvX T _ dr _ _ _ 1 nn [payG t tp b0 (x, nI (a + 1))]
    rw [pg]
    rcases fidx_m1 (l := spl tp t (nI (a + 1))) hl1000 with ⟨-, q⟩ | ⟨k, hk2, e, -⟩
    · rw [← w1] at q; exact absurd w2 q
    · rw [← w1] at e
      rcases hT with ⟨e1, e2⟩ | ⟨e1, e2⟩
      · subst e1 e2
        exact ⟨by omega, Or.inr (Or.inr (Or.inl ⟨g1, k, by rw [ew]; exact hk2, g2.trans e, by rw [e]⟩))⟩
      · subst e1 e2
        exact ⟨by omega, Or.inl ⟨g1, by
          show [((12 : Int32), [w])] = [(12, [nodeJ J dr nn 12 w 0 (dr + 8) nn])]
          rw [g2]⟩⟩
  have F12 : ∀ v, FrV r dr (u2 I r 12 (nI (a + 1))) (u2 (u2 I r 12 (nI (a + 1))) r 12 v) := fun v => FrV.u hne (by omega)
  have P12 : ∀ v, kpV dr (u2 I r 12 (nI (a + 1))) (u2 (u2 I r 12 (nI (a + 1))) r 12 v) nn tx := fun v => kpV.u (r := r) hyd
  have stay : ∀ f, f ≠ 12 → u2 (u2 I r 12 (nI (a + 1))) r 12 (nI (a + 1 + 1)) r f = u2 I r 12 (nI (a + 1)) r f := fun f hf => u2_j hf
  have stayd : u2 (u2 I r 12 (nI (a + 1))) r 12 (nI (a + 1 + 1)) dr = u2 I r 12 (nI (a + 1)) dr := u2_a hne
  have hNW : (sF t tp b0 (a + 1)).1 = 0 → fidx (N.map (fun x => spl tp t (nI x))) (spl tp t (nI (a + 1))) 0 = fidx (sF t tp b0 (a + 1)).2.2.1.2.1 (spl tp t (nI (a + 1))) 0 := fun z => by rw [hW1 z]
  have hN1000 : (N.map (fun x => spl tp t (nI x))).length < 1000 := by rw [List.length_map]; omega
  refine c_mknown1 hd hE1 K29 (by omega) (by omega) hcnt t8 t1 t3 t4 t5 (fun h20 hw => ?_) (fun h20 hw he => ?_) (fun h20 hw he => ?_) (fun he z => ?_) (fun h20 => ?_)
  · obtain ⟨s1, s2, s3⟩ := sF_known (b0 := b0) (tp := tp) (show a < 2000 by omega) hk' h20
    have hpos : 0 ≤ fidx (N.map (fun x => spl tp t (nI x))) (spl tp t (nI (a + 1))) 0 := by
      rcases fidx_m1 (l := spl tp t (nI (a + 1))) hN1000 with ⟨q, -⟩ | ⟨k, -, -, q, -⟩
      · exact absurd q hw
      · exact q
    refine fin h20 _ _ er et (F12 _) (P12 _) u2_same ((stay 13 (by decide)).trans t2) ((stay 14 (by decide)).trans t3) ((stay 15 (by decide)).trans t4) ((stay 16 (by decide)).trans t5) (by rw [stayd]; exact t6) (by rw [stayd]; exact t7) ?_ ?_ (fun z => ?_)
    · rcases et1 with ⟨z, ez⟩ | ⟨z, q⟩
      · exact Or.inl ⟨(s2 z (by rw [← hNW z]; exact hpos)).1, ez⟩
      · rw [s1 z]; exact Or.inr ⟨z, q.1, by omega, q.2.2⟩
    · rcases et1 with ⟨z, ez⟩ | ⟨z, q⟩
      · have := s2 z (by rw [← hNW z]; exact hpos)
        exact fun _ => ⟨z, by rw [this.2.1]; exact bSm.rf⟩
      · rw [s1 z]; exact smT.rf
    · have z1 : (sF t tp b0 (a + 1)).1 = 0 := by
        rcases et1 with ⟨z, ez⟩ | ⟨z', q⟩
        · exact z
        · rw [s1 z'] at z; exact absurd z z'
      exact ⟨hNW z1, hpos⟩
  · obtain ⟨s1, s2, s3⟩ := sF_known (b0 := b0) (tp := tp) (show a < 2000 by omega) hk' h20
    have z1 : (sF t tp b0 (a + 1)).1 = 0 := by
      rcases et1 with ⟨z, ez⟩ | ⟨z', q⟩
      · exact z
      · exact absurd (q.1.symm.trans he) z'
    have neg : ¬ 0 ≤ fidx (sF t tp b0 (a + 1)).2.2.1.2.1 (spl tp t (nI (a + 1))) 0 := by rw [← hNW z1, hw]; decide
    obtain ⟨e3, e4⟩ := s3 z1 neg
    have FA := ((F12 (nI (a + 1 + 1))).tr (FrV.u (f := 15) (v := 3) hne (by omega))).tr (FrV.u (f := 16) (v := nI (a + 1)) hne (by omega))
    have PA : kpV dr (u2 I r 12 (nI (a + 1))) (u2 (u2 (u2 (u2 I r 12 (nI (a + 1))) r 12 (nI (a + 1 + 1))) r 15 3) r 16 (nI (a + 1))) nn tx := ((P12 (nI (a + 1 + 1))).tr (kpV.u (r := r) hyd) (Nat.le_refl _) (Nat.le_refl _)).tr (kpV.u (r := r) hyd) (Nat.le_refl _) (Nat.le_refl _)
    refine fin h20 (-1) _ 3 (nI (a + 1)) FA PA (by rw [u2_j (by decide), u2_j (by decide)]; exact u2_same) (by rw [u2_j (by decide), u2_j (by decide)]; exact (stay 13 (by decide)).trans t2) (by rw [u2_j (by decide), u2_j (by decide)]; exact (stay 14 (by decide)).trans t3) (by rw [u2_j (by decide)]; exact u2_same) u2_same (by rw [u2_a hne, u2_a hne, stayd]; exact t6) (by rw [u2_a hne, u2_a hne, stayd]; exact t7) ?_ ?_ (fun z => ?_)
    · exact Or.inr ⟨by rw [e3]; decide, e3.symm, by rw [e4]; omega, by rw [e4]⟩
    · intro z; rw [e3] at z; exact absurd z (by decide)
    · rw [e3] at z; exact absurd z (by decide)
  · obtain ⟨s1, s2, s3⟩ := sF_known (b0 := b0) (tp := tp) (show a < 2000 by omega) hk' h20
    have z1 : (sF t tp b0 (a + 1)).1 ≠ 0 := by
      rcases et1 with ⟨z, ez⟩ | ⟨z', q⟩
      · exact absurd ez he
      · exact z'
    refine fin h20 (-1) _ er et (F12 _) (P12 _) u2_same ((stay 13 (by decide)).trans t2) ((stay 14 (by decide)).trans t3) ((stay 15 (by decide)).trans t4) ((stay 16 (by decide)).trans t5) (by rw [stayd]; exact t6) (by rw [stayd]; exact t7) ?_ ?_ (fun z => ?_)
    · rw [s1 z1]
      rcases et1 with ⟨z, ez⟩ | ⟨z', q⟩
      · exact absurd z z1
      · exact Or.inr ⟨z', q.1, by omega, q.2.2⟩
    · rw [s1 z1]; exact smT.rf
    · rw [s1 z1] at z; exact absurd z z1
  · rcases et1 with ⟨-, ez⟩ | ⟨-, q⟩
    · exact he ez
    · have q2 := q.2.1
      have := (nI_eq (show (sF t tp b0 (a + 1)).2.1 < 2 ^ 31 by omega) (show a + 1 < 2 ^ 31 by omega)).mp (q.2.2.symm.trans z)
      omega
  · rw [if_neg h20] at h
    cases Option.some.inj h
    have F14 : FrV r dr (u2 I r 12 (nI (a + 1))) (u2 (u2 I r 12 (nI (a + 1))) r 14 (nI (a + 1))) := FrV.u hne (by omega)
    have j10 : u2 (u2 I r 12 (nI (a + 1))) r 14 (nI (a + 1)) dr 10 = nI nn := by rw [u2_a hne]; exact t6
    have fT0 : fT (u2 (u2 I r 12 (nI (a + 1))) r 14 (nI (a + 1))) r dr (a + 1) nn := ⟨u2_same, by omega, j10⟩
    refine ⟨sb.1, c_mnode (by omega) sb j10 (by omega) ?_⟩
    have F2 := (nodeJ_fr (J := u2 (u2 I r 12 (nI (a + 1))) r 14 (nI (a + 1))) (r := r) (nn := nn) (tx := 0) (x := x) (y := 0) (z := 0) hyd).1
    exact ho _ _ (nn + 1) ((f1.tr F14).tr F2) (fT0.node hyd) (by omega)
