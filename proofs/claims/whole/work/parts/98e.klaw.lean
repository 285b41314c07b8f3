/-! THE LAW, BLOCK BY BLOCK, THE SCRIPT KEPT -/
theorem st_callI_vK {d : Nat} {mi y : pMI} {Q : pR → pM → Prop} {pc : Nat} {L : List (Option Value)} {S R : List Value} {c s : Nat} {M : pM} {k n a : Nat} {res : Nat × Nat} (as : List Value) (hs : OpS mi pc (o_callI y k n)) (hS : S = as.reverse ++ .ref a :: R) (hl : as.length = k) (hr : psum R ≤ 8) (h1 : res.1 ≤ c) (h2 : res.2 ≤ s) (h : pCall_v d y res (.ref a :: as) M (fun M1 => Go d mi Q n (L, R, c - res.1, s - res.2) (keepM M M1))) : Go d mi Q pc (L, S, c, s) M := by
  refine st_keep hs ⟨res, as, R, a, hS, hl, hr, h1, h2, CP_q h (fun r M1 q => ?_)⟩
  obtain ⟨rfl, q⟩ := q
  exact q
theorem st_callS_iK {d : Nat} {mi y : pMI} {Q : pR → pM → Prop} {pc : Nat} {L : List (Option Value)} {S R : List Value} {c s : Nat} {M : pM} {k n : Nat} {res : Nat × Nat} (as : List Value) (hs : OpS mi pc (o_callS y k n)) (hS : S = as.reverse ++ R) (hl : as.length = k) (hr : psum R ≤ 8) (h1 : res.1 ≤ c) (h2 : res.2 ≤ s) (h : pCall_i d y res (as) M (fun v M1 => Go d mi Q n (L, .int v :: R, c - res.1, s - res.2) (keepM M M1))) : Go d mi Q pc (L, S, c, s) M := by
  refine st_keep hs ⟨res, as, R, hS, hl, hr, h1, h2, CP_q h (fun r M1 q => ?_)⟩
  obtain ⟨v, rfl, q⟩ := q
  exact q
theorem st_callV_dK {d : Nat} {mi y : pMI} {Q : pR → pM → Prop} {pc : Nat} {L : List (Option Value)} {S R : List Value} {c s : Nat} {M : pM} {ci k n a : Nat} {res : Nat × Nat} (as : List Value) (hs : OpS mi pc (o_callV y ci k n)) (hS : S = as.reverse ++ .ref a :: R) (hl : as.length = k) (hK : pK M a = (1, ci)) (hr : psum R ≤ 8) (h1 : res.1 ≤ c) (h2 : res.2 ≤ s) (h : pCall_d d y res (.ref a :: as) M (fun v M1 => Go d mi Q n (L, .double v :: R, c - res.1, s - res.2) (keepM M M1))) : Go d mi Q pc (L, S, c, s) M := by
  refine st_keep hs ⟨res, as, R, a, hS, hl, hK, hr, h1, h2, CP_q h (fun r M1 q => ?_)⟩
  obtain ⟨v, rfl, q⟩ := q
  exact q
theorem st_callV_iK {d : Nat} {mi y : pMI} {Q : pR → pM → Prop} {pc : Nat} {L : List (Option Value)} {S R : List Value} {c s : Nat} {M : pM} {ci k n a : Nat} {res : Nat × Nat} (as : List Value) (hs : OpS mi pc (o_callV y ci k n)) (hS : S = as.reverse ++ .ref a :: R) (hl : as.length = k) (hK : pK M a = (1, ci)) (hr : psum R ≤ 8) (h1 : res.1 ≤ c) (h2 : res.2 ≤ s) (h : pCall_i d y res (.ref a :: as) M (fun v M1 => Go d mi Q n (L, .int v :: R, c - res.1, s - res.2) (keepM M M1))) : Go d mi Q pc (L, S, c, s) M := by
  refine st_keep hs ⟨res, as, R, a, hS, hl, hK, hr, h1, h2, CP_q h (fun r M1 q => ?_)⟩
  obtain ⟨v, rfl, q⟩ := q
  exact q
theorem st_callV_lK {d : Nat} {mi y : pMI} {Q : pR → pM → Prop} {pc : Nat} {L : List (Option Value)} {S R : List Value} {c s : Nat} {M : pM} {ci k n a : Nat} {res : Nat × Nat} (as : List Value) (hs : OpS mi pc (o_callV y ci k n)) (hS : S = as.reverse ++ .ref a :: R) (hl : as.length = k) (hK : pK M a = (1, ci)) (hr : psum R ≤ 8) (h1 : res.1 ≤ c) (h2 : res.2 ≤ s) (h : pCall_l d y res (.ref a :: as) M (fun v M1 => Go d mi Q n (L, .long v :: R, c - res.1, s - res.2) (keepM M M1))) : Go d mi Q pc (L, S, c, s) M := by
  refine st_keep hs ⟨res, as, R, a, hS, hl, hK, hr, h1, h2, CP_q h (fun r M1 q => ?_)⟩
  obtain ⟨v, rfl, q⟩ := q
  exact q
theorem st_callV0_dK {d : Nat} {mi y : pMI} {Q : pR → pM → Prop} {pc : Nat} {L : List (Option Value)} {S R : List Value} {c s : Nat} {M : pM} {ci k n a : Nat} (as : List Value) (hs : OpS mi pc (o_callV y ci k n)) (hS : S = as.reverse ++ .ref a :: R) (hl : as.length = k) (hK : pK M a = (1, ci)) (hr : psum R ≤ 8) (h : pCall_d d y (0, 0) (.ref a :: as) M (fun v M1 => Go d mi Q n (L, .double v :: R, c, s) (keepM M M1))) : Go d mi Q pc (L, S, c, s) M := st_callV_dK (res := (0, 0)) as hs hS hl hK hr (Nat.zero_le _) (Nat.zero_le _) h
theorem st_callV0_iK {d : Nat} {mi y : pMI} {Q : pR → pM → Prop} {pc : Nat} {L : List (Option Value)} {S R : List Value} {c s : Nat} {M : pM} {ci k n a : Nat} (as : List Value) (hs : OpS mi pc (o_callV y ci k n)) (hS : S = as.reverse ++ .ref a :: R) (hl : as.length = k) (hK : pK M a = (1, ci)) (hr : psum R ≤ 8) (h : pCall_i d y (0, 0) (.ref a :: as) M (fun v M1 => Go d mi Q n (L, .int v :: R, c, s) (keepM M M1))) : Go d mi Q pc (L, S, c, s) M := st_callV_iK (res := (0, 0)) as hs hS hl hK hr (Nat.zero_le _) (Nat.zero_le _) h
theorem st_callV0_lK {d : Nat} {mi y : pMI} {Q : pR → pM → Prop} {pc : Nat} {L : List (Option Value)} {S R : List Value} {c s : Nat} {M : pM} {ci k n a : Nat} (as : List Value) (hs : OpS mi pc (o_callV y ci k n)) (hS : S = as.reverse ++ .ref a :: R) (hl : as.length = k) (hK : pK M a = (1, ci)) (hr : psum R ≤ 8) (h : pCall_l d y (0, 0) (.ref a :: as) M (fun v M1 => Go d mi Q n (L, .long v :: R, c, s) (keepM M M1))) : Go d mi Q pc (L, S, c, s) M := st_callV_lK (res := (0, 0)) as hs hS hl hK hr (Nat.zero_le _) (Nat.zero_le _) h
theorem kL_law_0 {d : Nat} {Q : pR → pM → Prop} {c s : Nat} {M : pM} {l0 : Nat} (h : 1 ≤ c ∧ 10 ≤ s ∧ pN M < pBIG ∧ ∃ rs1 : Nat × Nat, rs1.1 ≤ (c - 1) ∧ rs1.2 ≤ (s - 10) ∧ pCall_v d mX11_init rs1 [.ref (pN M)] (pnew M (1, 11)) (fun M1 => 1 ≤ ((c - 1) - rs1.1) ∧ 28 ≤ ((s - 10) - rs1.2) ∧ pN (keepM (pnew M (1, 11)) M1) < pBIG ∧ ∃ rs2 : Nat × Nat, rs2.1 ≤ (((c - 1) - rs1.1) - 1) ∧ rs2.2 ≤ (((s - 10) - rs1.2) - 28) ∧ pCall_v d mX13_init rs2 [.ref (pN (keepM (pnew M (1, 11)) M1))] (pnew (keepM (pnew M (1, 11)) M1) (1, 13)) (fun M2 => ¬ (1 : Int32) < 0 ∧ (Int32.toNatClampNeg (1 : Int32)) ≤ 1000000 ∧ 1 ≤ ((((c - 1) - rs1.1) - 1) - rs2.1) ∧ (Int32.toNatClampNeg (1 : Int32)) ≤ ((((s - 10) - rs1.2) - 28) - rs2.2) ∧ pN (keepM (pnew (keepM (pnew M (1, 11)) M1) (1, 13)) M2) < pBIG ∧ Go d mL_law Q 23 ([some (.ref l0), some (.ref (pN M)), some (.ref (pN (keepM (pnew M (1, 11)) M1))), some (.ref (pN (keepM (pnew (keepM (pnew M (1, 11)) M1) (1, 13)) M2))), some (.int 0), none, none, none, none], [], (((((c - 1) - rs1.1) - 1) - rs2.1) - 1), (((((s - 10) - rs1.2) - 28) - rs2.2) - (Int32.toNatClampNeg (1 : Int32)))) (pnew (keepM (pnew (keepM (pnew M (1, 11)) M1) (1, 13)) M2) (3, (Int32.toNatClampNeg (1 : Int32))))))) : Go d mL_law Q 0 ([some (.ref l0), none, none, none, none, none, none, none, none], [], c, s) M := by
  obtain ⟨h1, h2, h3, h⟩ := h
  refine st_new oL_law_0 h1 h2 h3 ?_
  refine st_dup oL_law_3 rfl ?_
  obtain ⟨rs1, h1, h2, h⟩ := h
  refine st_callI_vK [] oL_law_4 rfl rfl (ps8 rfl) h1 h2 (pCall_v.mono h (fun M1 h => ?_))
  refine st_astore (L2 := [some (.ref l0), some (.ref (pN M)), none, none, none, none, none, none, none]) oL_law_7 (by decide) rfl rfl ?_
  obtain ⟨h1, h2, h3, h⟩ := h
  refine st_new oL_law_8 h1 h2 h3 ?_
  refine st_dup oL_law_11 rfl ?_
  obtain ⟨rs2, h1, h2, h⟩ := h
  refine st_callI_vK [] oL_law_12 rfl rfl (ps8 rfl) h1 h2 (pCall_v.mono h (fun M2 h => ?_))
  refine st_astore (L2 := [some (.ref l0), some (.ref (pN M)), some (.ref (pN (keepM (pnew M (1, 11)) M1))), none, none, none, none, none, none]) oL_law_15 (by decide) rfl rfl ?_
  refine st_const oL_law_16 ?_
  obtain ⟨h0, hm, h1, h2, h3, h⟩ := h
  refine st_newa oL_law_17 h0 hm h1 h2 h3 ?_
  refine st_astore (L2 := [some (.ref l0), some (.ref (pN M)), some (.ref (pN (keepM (pnew M (1, 11)) M1))), some (.ref (pN (keepM (pnew (keepM (pnew M (1, 11)) M1) (1, 13)) M2))), none, none, none, none, none]) oL_law_19 (by decide) rfl rfl ?_
  refine st_const oL_law_20 ?_
  refine st_istore (L2 := [some (.ref l0), some (.ref (pN M)), some (.ref (pN (keepM (pnew M (1, 11)) M1))), some (.ref (pN (keepM (pnew (keepM (pnew M (1, 11)) M1) (1, 13)) M2))), some (.int 0), none, none, none, none]) oL_law_21 (by decide) rfl rfl ?_
  exact h
theorem kL_law_23 {d : Nat} {Q : pR → pM → Prop} {c s : Nat} {M : pM} {l0 : Nat} {l1 : Nat} {l2 : Nat} {l3 : Nat} {l4 : Int32} (h : ∃ n1 : Nat, pK M l0 = (5, n1) ∧ ((((Int32.ofNat n1) - 6) < l4 → Q (.inl (some (.int 1))) M) ∧ (¬ ((Int32.ofNat n1) - 6) < l4 → ∃ n56 : Nat, pK M l0 = (5, n56) ∧ vp_in l4 n56 ∧ ((((pI M l0 (Int32.toNatClampNeg l4)) &&& 31) = 0 → ∃ n12 : Nat, pK M l0 = (5, n12) ∧ vp_in (l4 + 1) n12 ∧ ∃ n11 : Nat, pK M l0 = (5, n11) ∧ vp_in (l4 + 2) n11 ∧ ∃ n10 : Nat, pK M l0 = (5, n10) ∧ vp_in (l4 + 3) n10 ∧ ∃ n9 : Nat, pK M l0 = (5, n9) ∧ vp_in (l4 + 4) n9 ∧ ∃ n8 : Nat, pK M l0 = (5, n8) ∧ vp_in (l4 + 5) n8 ∧ ∃ rs1 : Nat × Nat, rs1.1 ≤ c ∧ rs1.2 ≤ s ∧ pCall_i d mL_feed rs1 [.ref l1, .int (pI M l0 (Int32.toNatClampNeg (l4 + 1))), .int (pI M l0 (Int32.toNatClampNeg (l4 + 2))), .int (pI M l0 (Int32.toNatClampNeg (l4 + 3))), .int (pI M l0 (Int32.toNatClampNeg (l4 + 4))), .int (pI M l0 (Int32.toNatClampNeg (l4 + 5))), .ref l3] M (fun v1 M1 => ∃ n7 : Nat, pK (keepM M M1) l0 = (5, n7) ∧ vp_in (l4 + 1) n7 ∧ ∃ n6 : Nat, pK (keepM M M1) l0 = (5, n6) ∧ vp_in (l4 + 2) n6 ∧ ∃ n5 : Nat, pK (keepM M M1) l0 = (5, n5) ∧ vp_in (l4 + 3) n5 ∧ ∃ n4 : Nat, pK (keepM M M1) l0 = (5, n4) ∧ vp_in (l4 + 4) n4 ∧ ∃ n3 : Nat, pK (keepM M M1) l0 = (5, n3) ∧ vp_in (l4 + 5) n3 ∧ pK (keepM M M1) l2 = (1, 13) ∧ pCall_i d mX13_feed (0, 0) [.ref l2, .int (pI (keepM M M1) l0 (Int32.toNatClampNeg (l4 + 1))), .int (pI (keepM M M1) l0 (Int32.toNatClampNeg (l4 + 2))), .int (pI (keepM M M1) l0 (Int32.toNatClampNeg (l4 + 3))), .int (pI (keepM M M1) l0 (Int32.toNatClampNeg (l4 + 4))), .int (pI (keepM M M1) l0 (Int32.toNatClampNeg (l4 + 5)))] (keepM M M1) (fun v2 M2 => pK (keepM (keepM M M1) M2) l2 = (1, 13) ∧ pCall_i d mX13_thrown (0, 0) [.ref l2] (keepM (keepM M M1) M2) (fun v3 M3 => ((v3 = v1 → ((v1 = 0 → ∃ n2 : Nat, pK (keepM (keepM (keepM M M1) M2) M3) l3 = (3, n2) ∧ vp_in 0 n2 ∧ (((lg_cmp (pL (keepM (keepM (keepM M M1) M2) M3) l3 (Int32.toNatClampNeg 0)) (Int32.toInt64 v2)) = 0 → Go d mL_law Q 237 ([some (.ref l0), some (.ref l1), some (.ref l2), some (.ref l3), some (.int l4), none, none, none, none], [], (c - rs1.1), (s - rs1.2)) (keepM (keepM (keepM M M1) M2) M3)) ∧ (¬ (lg_cmp (pL (keepM (keepM (keepM M M1) M2) M3) l3 (Int32.toNatClampNeg 0)) (Int32.toInt64 v2)) = 0 → Q (.inl (some (.int 0))) (keepM (keepM (keepM M M1) M2) M3)))) ∧ (¬ v1 = 0 → Go d mL_law Q 237 ([some (.ref l0), some (.ref l1), some (.ref l2), some (.ref l3), some (.int l4), none, none, none, none], [], (c - rs1.1), (s - rs1.2)) (keepM (keepM (keepM M M1) M2) M3)))) ∧ (¬ v3 = v1 → Q (.inl (some (.int 0))) (keepM (keepM (keepM M M1) M2) M3))))))) ∧ (¬ ((pI M l0 (Int32.toNatClampNeg l4)) &&& 31) = 0 → ((((pI M l0 (Int32.toNatClampNeg l4)) &&& 31) = 1 → ∃ n15 : Nat, pK M l0 = (5, n15) ∧ vp_in (l4 + 1) n15 ∧ ∃ rs2 : Nat × Nat, rs2.1 ≤ c ∧ rs2.2 ≤ s ∧ pCall_i d mL_trim rs2 [.ref l1, .int (pI M l0 (Int32.toNatClampNeg (l4 + 1))), .ref l3] M (fun v4 M4 => ∃ n14 : Nat, pK (keepM M M4) l0 = (5, n14) ∧ vp_in (l4 + 1) n14 ∧ pK (keepM M M4) l2 = (1, 13) ∧ pCall_i d mX13_trim (0, 0) [.ref l2, .int (pI (keepM M M4) l0 (Int32.toNatClampNeg (l4 + 1)))] (keepM M M4) (fun v5 M5 => pK (keepM (keepM M M4) M5) l2 = (1, 13) ∧ pCall_i d mX13_thrown (0, 0) [.ref l2] (keepM (keepM M M4) M5) (fun v6 M6 => ((v6 = v4 → ((v4 = 0 → ∃ n13 : Nat, pK (keepM (keepM (keepM M M4) M5) M6) l3 = (3, n13) ∧ vp_in 0 n13 ∧ (((lg_cmp (pL (keepM (keepM (keepM M M4) M5) M6) l3 (Int32.toNatClampNeg 0)) (Int32.toInt64 v5)) = 0 → Go d mL_law Q 293 ([some (.ref l0), some (.ref l1), some (.ref l2), some (.ref l3), some (.int l4), none, none, none, none], [], (c - rs2.1), (s - rs2.2)) (keepM (keepM (keepM M M4) M5) M6)) ∧ (¬ (lg_cmp (pL (keepM (keepM (keepM M M4) M5) M6) l3 (Int32.toNatClampNeg 0)) (Int32.toInt64 v5)) = 0 → Q (.inl (some (.int 0))) (keepM (keepM (keepM M M4) M5) M6)))) ∧ (¬ v4 = 0 → Go d mL_law Q 293 ([some (.ref l0), some (.ref l1), some (.ref l2), some (.ref l3), some (.int l4), none, none, none, none], [], (c - rs2.1), (s - rs2.2)) (keepM (keepM (keepM M M4) M5) M6)))) ∧ (¬ v6 = v4 → Q (.inl (some (.int 0))) (keepM (keepM (keepM M M4) M5) M6))))))) ∧ (¬ ((pI M l0 (Int32.toNatClampNeg l4)) &&& 31) = 1 → ((((pI M l0 (Int32.toNatClampNeg l4)) &&& 31) = 2 → pK M l1 = (1, 11) ∧ ∃ rs3 : Nat × Nat, rs3.1 ≤ c ∧ rs3.2 ≤ s ∧ pCall_i d mX11_teach rs3 [.ref l1] M (fun v7 M7 => pK (keepM M M7) l2 = (1, 13) ∧ pCall_i d mX13_teach (0, 0) [.ref l2] (keepM M M7) (fun v8 M8 => ((v7 = v8 → Go d mL_law Q 1099 ([some (.ref l0), some (.ref l1), some (.ref l2), some (.ref l3), some (.int l4), none, none, none, none], [], (c - rs3.1), (s - rs3.2)) (keepM (keepM M M7) M8)) ∧ (¬ v7 = v8 → Q (.inl (some (.int 0))) (keepM (keepM M M7) M8)))))) ∧ (¬ ((pI M l0 (Int32.toNatClampNeg l4)) &&& 31) = 2 → ((((pI M l0 (Int32.toNatClampNeg l4)) &&& 31) = 3 → pK M l1 = (1, 11) ∧ pCall_i d mX11_errorAt (0, 0) [.ref l1] M (fun v9 M9 => pK (keepM M M9) l2 = (1, 13) ∧ pCall_i d mX13_errorAt (0, 0) [.ref l2] (keepM M M9) (fun v10 M10 => ((v9 = v10 → Go d mL_law Q 1099 ([some (.ref l0), some (.ref l1), some (.ref l2), some (.ref l3), some (.int l4), none, none, none, none], [], c, s) (keepM (keepM M M9) M10)) ∧ (¬ v9 = v10 → Q (.inl (some (.int 0))) (keepM (keepM M M9) M10)))))) ∧ (¬ ((pI M l0 (Int32.toNatClampNeg l4)) &&& 31) = 3 → ((((pI M l0 (Int32.toNatClampNeg l4)) &&& 31) = 4 → ∃ n18 : Nat, pK M l0 = (5, n18) ∧ vp_in (l4 + 1) n18 ∧ ∃ rs4 : Nat × Nat, rs4.1 ≤ c ∧ rs4.2 ≤ s ∧ pCall_i d mL_count rs4 [.ref l1, .int (pI M l0 (Int32.toNatClampNeg (l4 + 1))), .ref l3] M (fun v11 M11 => ∃ n17 : Nat, pK (keepM M M11) l0 = (5, n17) ∧ vp_in (l4 + 1) n17 ∧ pK (keepM M M11) l2 = (1, 13) ∧ pCall_i d mX13_count (0, 0) [.ref l2, .int (pI (keepM M M11) l0 (Int32.toNatClampNeg (l4 + 1)))] (keepM M M11) (fun v12 M12 => pK (keepM (keepM M M11) M12) l2 = (1, 13) ∧ pCall_i d mX13_thrown (0, 0) [.ref l2] (keepM (keepM M M11) M12) (fun v13 M13 => ((v13 = v11 → ((v11 = 0 → ∃ n16 : Nat, pK (keepM (keepM (keepM M M11) M12) M13) l3 = (3, n16) ∧ vp_in 0 n16 ∧ (((lg_cmp (pL (keepM (keepM (keepM M M11) M12) M13) l3 (Int32.toNatClampNeg 0)) (Int32.toInt64 v12)) = 0 → Go d mL_law Q 375 ([some (.ref l0), some (.ref l1), some (.ref l2), some (.ref l3), some (.int l4), none, none, none, none], [], (c - rs4.1), (s - rs4.2)) (keepM (keepM (keepM M M11) M12) M13)) ∧ (¬ (lg_cmp (pL (keepM (keepM (keepM M M11) M12) M13) l3 (Int32.toNatClampNeg 0)) (Int32.toInt64 v12)) = 0 → Q (.inl (some (.int 0))) (keepM (keepM (keepM M M11) M12) M13)))) ∧ (¬ v11 = 0 → Go d mL_law Q 375 ([some (.ref l0), some (.ref l1), some (.ref l2), some (.ref l3), some (.int l4), none, none, none, none], [], (c - rs4.1), (s - rs4.2)) (keepM (keepM (keepM M M11) M12) M13)))) ∧ (¬ v13 = v11 → Q (.inl (some (.int 0))) (keepM (keepM (keepM M M11) M12) M13))))))) ∧ (¬ ((pI M l0 (Int32.toNatClampNeg l4)) &&& 31) = 4 → ((((pI M l0 (Int32.toNatClampNeg l4)) &&& 31) = 5 → ∃ n21 : Nat, pK M l0 = (5, n21) ∧ vp_in (l4 + 1) n21 ∧ ∃ rs5 : Nat × Nat, rs5.1 ≤ c ∧ rs5.2 ≤ s ∧ pCall_i d mL_type rs5 [.ref l1, .int (pI M l0 (Int32.toNatClampNeg (l4 + 1))), .ref l3] M (fun v14 M14 => ∃ n20 : Nat, pK (keepM M M14) l0 = (5, n20) ∧ vp_in (l4 + 1) n20 ∧ pK (keepM M M14) l2 = (1, 13) ∧ pCall_i d mX13_type (0, 0) [.ref l2, .int (pI (keepM M M14) l0 (Int32.toNatClampNeg (l4 + 1)))] (keepM M M14) (fun v15 M15 => pK (keepM (keepM M M14) M15) l2 = (1, 13) ∧ pCall_i d mX13_thrown (0, 0) [.ref l2] (keepM (keepM M M14) M15) (fun v16 M16 => ((v16 = v14 → ((v14 = 0 → ∃ n19 : Nat, pK (keepM (keepM (keepM M M14) M15) M16) l3 = (3, n19) ∧ vp_in 0 n19 ∧ (((lg_cmp (pL (keepM (keepM (keepM M M14) M15) M16) l3 (Int32.toNatClampNeg 0)) (Int32.toInt64 v15)) = 0 → Go d mL_law Q 431 ([some (.ref l0), some (.ref l1), some (.ref l2), some (.ref l3), some (.int l4), none, none, none, none], [], (c - rs5.1), (s - rs5.2)) (keepM (keepM (keepM M M14) M15) M16)) ∧ (¬ (lg_cmp (pL (keepM (keepM (keepM M M14) M15) M16) l3 (Int32.toNatClampNeg 0)) (Int32.toInt64 v15)) = 0 → Q (.inl (some (.int 0))) (keepM (keepM (keepM M M14) M15) M16)))) ∧ (¬ v14 = 0 → Go d mL_law Q 431 ([some (.ref l0), some (.ref l1), some (.ref l2), some (.ref l3), some (.int l4), none, none, none, none], [], (c - rs5.1), (s - rs5.2)) (keepM (keepM (keepM M M14) M15) M16)))) ∧ (¬ v16 = v14 → Q (.inl (some (.int 0))) (keepM (keepM (keepM M M14) M15) M16))))))) ∧ (¬ ((pI M l0 (Int32.toNatClampNeg l4)) &&& 31) = 5 → ((((pI M l0 (Int32.toNatClampNeg l4)) &&& 31) = 6 → ∃ rs6 : Nat × Nat, rs6.1 ≤ c ∧ rs6.2 ≤ s ∧ pCall_i d mL_back rs6 [.ref l1, .ref l3] M (fun v17 M17 => pK (keepM M M17) l2 = (1, 13) ∧ pCall_i d mX13_back (0, 0) [.ref l2] (keepM M M17) (fun v18 M18 => pK (keepM (keepM M M17) M18) l2 = (1, 13) ∧ pCall_i d mX13_thrown (0, 0) [.ref l2] (keepM (keepM M M17) M18) (fun v19 M19 => ((v19 = v17 → ((v17 = 0 → ∃ n22 : Nat, pK (keepM (keepM (keepM M M17) M18) M19) l3 = (3, n22) ∧ vp_in 0 n22 ∧ (((lg_cmp (pL (keepM (keepM (keepM M M17) M18) M19) l3 (Int32.toNatClampNeg 0)) (Int32.toInt64 v18)) = 0 → Go d mL_law Q 475 ([some (.ref l0), some (.ref l1), some (.ref l2), some (.ref l3), some (.int l4), none, none, none, none], [], (c - rs6.1), (s - rs6.2)) (keepM (keepM (keepM M M17) M18) M19)) ∧ (¬ (lg_cmp (pL (keepM (keepM (keepM M M17) M18) M19) l3 (Int32.toNatClampNeg 0)) (Int32.toInt64 v18)) = 0 → Q (.inl (some (.int 0))) (keepM (keepM (keepM M M17) M18) M19)))) ∧ (¬ v17 = 0 → Go d mL_law Q 475 ([some (.ref l0), some (.ref l1), some (.ref l2), some (.ref l3), some (.int l4), none, none, none, none], [], (c - rs6.1), (s - rs6.2)) (keepM (keepM (keepM M M17) M18) M19)))) ∧ (¬ v19 = v17 → Q (.inl (some (.int 0))) (keepM (keepM (keepM M M17) M18) M19))))))) ∧ (¬ ((pI M l0 (Int32.toNatClampNeg l4)) &&& 31) = 6 → ((((pI M l0 (Int32.toNatClampNeg l4)) &&& 31) = 7 → ∃ n25 : Nat, pK M l0 = (5, n25) ∧ vp_in (l4 + 1) n25 ∧ ∃ rs7 : Nat × Nat, rs7.1 ≤ c ∧ rs7.2 ≤ s ∧ pCall_i d mL_take rs7 [.ref l1, .int (pI M l0 (Int32.toNatClampNeg (l4 + 1))), .ref l3] M (fun v20 M20 => ∃ n24 : Nat, pK (keepM M M20) l0 = (5, n24) ∧ vp_in (l4 + 1) n24 ∧ pK (keepM M M20) l2 = (1, 13) ∧ pCall_i d mX13_take_ (0, 0) [.ref l2, .int (pI (keepM M M20) l0 (Int32.toNatClampNeg (l4 + 1)))] (keepM M M20) (fun v21 M21 => pK (keepM (keepM M M20) M21) l2 = (1, 13) ∧ pCall_i d mX13_thrown (0, 0) [.ref l2] (keepM (keepM M M20) M21) (fun v22 M22 => ((v22 = v20 → ((v20 = 0 → ∃ n23 : Nat, pK (keepM (keepM (keepM M M20) M21) M22) l3 = (3, n23) ∧ vp_in 0 n23 ∧ (((lg_cmp (pL (keepM (keepM (keepM M M20) M21) M22) l3 (Int32.toNatClampNeg 0)) (Int32.toInt64 v21)) = 0 → Go d mL_law Q 531 ([some (.ref l0), some (.ref l1), some (.ref l2), some (.ref l3), some (.int l4), none, none, none, none], [], (c - rs7.1), (s - rs7.2)) (keepM (keepM (keepM M M20) M21) M22)) ∧ (¬ (lg_cmp (pL (keepM (keepM (keepM M M20) M21) M22) l3 (Int32.toNatClampNeg 0)) (Int32.toInt64 v21)) = 0 → Q (.inl (some (.int 0))) (keepM (keepM (keepM M M20) M21) M22)))) ∧ (¬ v20 = 0 → Go d mL_law Q 531 ([some (.ref l0), some (.ref l1), some (.ref l2), some (.ref l3), some (.int l4), none, none, none, none], [], (c - rs7.1), (s - rs7.2)) (keepM (keepM (keepM M M20) M21) M22)))) ∧ (¬ v22 = v20 → Q (.inl (some (.int 0))) (keepM (keepM (keepM M M20) M21) M22))))))) ∧ (¬ ((pI M l0 (Int32.toNatClampNeg l4)) &&& 31) = 7 → ((((pI M l0 (Int32.toNatClampNeg l4)) &&& 31) = 8 → ∃ rs8 : Nat × Nat, rs8.1 ≤ c ∧ rs8.2 ≤ s ∧ pCall_i d mL_say rs8 [.ref l1, .ref l3] M (fun v23 M23 => pK (keepM M M23) l2 = (1, 13) ∧ pCall_i d mX13_say (0, 0) [.ref l2] (keepM M M23) (fun v24 M24 => pK (keepM (keepM M M23) M24) l2 = (1, 13) ∧ pCall_i d mX13_thrown (0, 0) [.ref l2] (keepM (keepM M M23) M24) (fun v25 M25 => ((v25 = v23 → ((v23 = 0 → ∃ n26 : Nat, pK (keepM (keepM (keepM M M23) M24) M25) l3 = (3, n26) ∧ vp_in 0 n26 ∧ (((lg_cmp (pL (keepM (keepM (keepM M M23) M24) M25) l3 (Int32.toNatClampNeg 0)) (Int32.toInt64 v24)) = 0 → Go d mL_law Q 575 ([some (.ref l0), some (.ref l1), some (.ref l2), some (.ref l3), some (.int l4), none, none, none, none], [], (c - rs8.1), (s - rs8.2)) (keepM (keepM (keepM M M23) M24) M25)) ∧ (¬ (lg_cmp (pL (keepM (keepM (keepM M M23) M24) M25) l3 (Int32.toNatClampNeg 0)) (Int32.toInt64 v24)) = 0 → Q (.inl (some (.int 0))) (keepM (keepM (keepM M M23) M24) M25)))) ∧ (¬ v23 = 0 → Go d mL_law Q 575 ([some (.ref l0), some (.ref l1), some (.ref l2), some (.ref l3), some (.int l4), none, none, none, none], [], (c - rs8.1), (s - rs8.2)) (keepM (keepM (keepM M M23) M24) M25)))) ∧ (¬ v25 = v23 → Q (.inl (some (.int 0))) (keepM (keepM (keepM M M23) M24) M25))))))) ∧ (¬ ((pI M l0 (Int32.toNatClampNeg l4)) &&& 31) = 8 → ((((pI M l0 (Int32.toNatClampNeg l4)) &&& 31) = 9 → ∃ n29 : Nat, pK M l0 = (5, n29) ∧ vp_in (l4 + 1) n29 ∧ ∃ rs9 : Nat × Nat, rs9.1 ≤ c ∧ rs9.2 ≤ s ∧ pCall_i d mL_setLimit rs9 [.ref l1, .int (pI M l0 (Int32.toNatClampNeg (l4 + 1))), .ref l3] M (fun v26 M26 => ∃ n28 : Nat, pK (keepM M M26) l0 = (5, n28) ∧ vp_in (l4 + 1) n28 ∧ pK (keepM M M26) l2 = (1, 13) ∧ pCall_i d mX13_setLimit (0, 0) [.ref l2, .int (pI (keepM M M26) l0 (Int32.toNatClampNeg (l4 + 1)))] (keepM M M26) (fun v27 M27 => pK (keepM (keepM M M26) M27) l2 = (1, 13) ∧ pCall_i d mX13_thrown (0, 0) [.ref l2] (keepM (keepM M M26) M27) (fun v28 M28 => ((v28 = v26 → ((v26 = 0 → ∃ n27 : Nat, pK (keepM (keepM (keepM M M26) M27) M28) l3 = (3, n27) ∧ vp_in 0 n27 ∧ (((lg_cmp (pL (keepM (keepM (keepM M M26) M27) M28) l3 (Int32.toNatClampNeg 0)) (Int32.toInt64 v27)) = 0 → Go d mL_law Q 631 ([some (.ref l0), some (.ref l1), some (.ref l2), some (.ref l3), some (.int l4), none, none, none, none], [], (c - rs9.1), (s - rs9.2)) (keepM (keepM (keepM M M26) M27) M28)) ∧ (¬ (lg_cmp (pL (keepM (keepM (keepM M M26) M27) M28) l3 (Int32.toNatClampNeg 0)) (Int32.toInt64 v27)) = 0 → Q (.inl (some (.int 0))) (keepM (keepM (keepM M M26) M27) M28)))) ∧ (¬ v26 = 0 → Go d mL_law Q 631 ([some (.ref l0), some (.ref l1), some (.ref l2), some (.ref l3), some (.int l4), none, none, none, none], [], (c - rs9.1), (s - rs9.2)) (keepM (keepM (keepM M M26) M27) M28)))) ∧ (¬ v28 = v26 → Q (.inl (some (.int 0))) (keepM (keepM (keepM M M26) M27) M28))))))) ∧ (¬ ((pI M l0 (Int32.toNatClampNeg l4)) &&& 31) = 9 → ((((pI M l0 (Int32.toNatClampNeg l4)) &&& 31) = 10 → ∃ n32 : Nat, pK M l0 = (5, n32) ∧ vp_in (l4 + 1) n32 ∧ ∃ rs10 : Nat × Nat, rs10.1 ≤ c ∧ rs10.2 ≤ s ∧ pCall_i d mL_offer rs10 [.ref l1, .int (pI M l0 (Int32.toNatClampNeg (l4 + 1))), .ref l3] M (fun v29 M29 => ∃ n31 : Nat, pK (keepM M M29) l0 = (5, n31) ∧ vp_in (l4 + 1) n31 ∧ pK (keepM M M29) l2 = (1, 13) ∧ pCall_i d mX13_offer (0, 0) [.ref l2, .int (pI (keepM M M29) l0 (Int32.toNatClampNeg (l4 + 1)))] (keepM M M29) (fun v30 M30 => pK (keepM (keepM M M29) M30) l2 = (1, 13) ∧ pCall_i d mX13_thrown (0, 0) [.ref l2] (keepM (keepM M M29) M30) (fun v31 M31 => ((v31 = v29 → ((v29 = 0 → ∃ n30 : Nat, pK (keepM (keepM (keepM M M29) M30) M31) l3 = (3, n30) ∧ vp_in 0 n30 ∧ (((lg_cmp (pL (keepM (keepM (keepM M M29) M30) M31) l3 (Int32.toNatClampNeg 0)) (Int32.toInt64 v30)) = 0 → Go d mL_law Q 687 ([some (.ref l0), some (.ref l1), some (.ref l2), some (.ref l3), some (.int l4), none, none, none, none], [], (c - rs10.1), (s - rs10.2)) (keepM (keepM (keepM M M29) M30) M31)) ∧ (¬ (lg_cmp (pL (keepM (keepM (keepM M M29) M30) M31) l3 (Int32.toNatClampNeg 0)) (Int32.toInt64 v30)) = 0 → Q (.inl (some (.int 0))) (keepM (keepM (keepM M M29) M30) M31)))) ∧ (¬ v29 = 0 → Go d mL_law Q 687 ([some (.ref l0), some (.ref l1), some (.ref l2), some (.ref l3), some (.int l4), none, none, none, none], [], (c - rs10.1), (s - rs10.2)) (keepM (keepM (keepM M M29) M30) M31)))) ∧ (¬ v31 = v29 → Q (.inl (some (.int 0))) (keepM (keepM (keepM M M29) M30) M31))))))) ∧ (¬ ((pI M l0 (Int32.toNatClampNeg l4)) &&& 31) = 10 → ((((pI M l0 (Int32.toNatClampNeg l4)) &&& 31) = 11 → ∃ n37 : Nat, pK M l0 = (5, n37) ∧ vp_in (l4 + 1) n37 ∧ ∃ n36 : Nat, pK M l0 = (5, n36) ∧ vp_in (l4 + 2) n36 ∧ ∃ rs11 : Nat × Nat, rs11.1 ≤ c ∧ rs11.2 ≤ s ∧ pCall_i d mL_word rs11 [.ref l1, .int (pI M l0 (Int32.toNatClampNeg (l4 + 1))), .int (pI M l0 (Int32.toNatClampNeg (l4 + 2))), .ref l3] M (fun v32 M32 => ∃ n35 : Nat, pK (keepM M M32) l0 = (5, n35) ∧ vp_in (l4 + 1) n35 ∧ ∃ n34 : Nat, pK (keepM M M32) l0 = (5, n34) ∧ vp_in (l4 + 2) n34 ∧ pK (keepM M M32) l2 = (1, 13) ∧ pCall_i d mX13_word (0, 0) [.ref l2, .int (pI (keepM M M32) l0 (Int32.toNatClampNeg (l4 + 1))), .int (pI (keepM M M32) l0 (Int32.toNatClampNeg (l4 + 2)))] (keepM M M32) (fun v33 M33 => pK (keepM (keepM M M32) M33) l2 = (1, 13) ∧ pCall_i d mX13_thrown (0, 0) [.ref l2] (keepM (keepM M M32) M33) (fun v34 M34 => ((v34 = v32 → ((v32 = 0 → ∃ n33 : Nat, pK (keepM (keepM (keepM M M32) M33) M34) l3 = (3, n33) ∧ vp_in 0 n33 ∧ (((lg_cmp (pL (keepM (keepM (keepM M M32) M33) M34) l3 (Int32.toNatClampNeg 0)) (Int32.toInt64 v33)) = 0 → Go d mL_law Q 755 ([some (.ref l0), some (.ref l1), some (.ref l2), some (.ref l3), some (.int l4), none, none, none, none], [], (c - rs11.1), (s - rs11.2)) (keepM (keepM (keepM M M32) M33) M34)) ∧ (¬ (lg_cmp (pL (keepM (keepM (keepM M M32) M33) M34) l3 (Int32.toNatClampNeg 0)) (Int32.toInt64 v33)) = 0 → Q (.inl (some (.int 0))) (keepM (keepM (keepM M M32) M33) M34)))) ∧ (¬ v32 = 0 → Go d mL_law Q 755 ([some (.ref l0), some (.ref l1), some (.ref l2), some (.ref l3), some (.int l4), none, none, none, none], [], (c - rs11.1), (s - rs11.2)) (keepM (keepM (keepM M M32) M33) M34)))) ∧ (¬ v34 = v32 → Q (.inl (some (.int 0))) (keepM (keepM (keepM M M32) M33) M34))))))) ∧ (¬ ((pI M l0 (Int32.toNatClampNeg l4)) &&& 31) = 11 → ((((pI M l0 (Int32.toNatClampNeg l4)) &&& 31) = 12 → ∃ n42 : Nat, pK M l0 = (5, n42) ∧ vp_in (l4 + 1) n42 ∧ ∃ n41 : Nat, pK M l0 = (5, n41) ∧ vp_in (l4 + 2) n41 ∧ ∃ rs12 : Nat × Nat, rs12.1 ≤ c ∧ rs12.2 ≤ s ∧ pCall_i d mL_letter rs12 [.ref l1, .int (pI M l0 (Int32.toNatClampNeg (l4 + 1))), .int (pI M l0 (Int32.toNatClampNeg (l4 + 2))), .ref l3] M (fun v35 M35 => ∃ n40 : Nat, pK (keepM M M35) l0 = (5, n40) ∧ vp_in (l4 + 1) n40 ∧ ∃ n39 : Nat, pK (keepM M M35) l0 = (5, n39) ∧ vp_in (l4 + 2) n39 ∧ pK (keepM M M35) l2 = (1, 13) ∧ pCall_i d mX13_letter (0, 0) [.ref l2, .int (pI (keepM M M35) l0 (Int32.toNatClampNeg (l4 + 1))), .int (pI (keepM M M35) l0 (Int32.toNatClampNeg (l4 + 2)))] (keepM M M35) (fun v36 M36 => pK (keepM (keepM M M35) M36) l2 = (1, 13) ∧ pCall_i d mX13_thrown (0, 0) [.ref l2] (keepM (keepM M M35) M36) (fun v37 M37 => ((v37 = v35 → ((v35 = 0 → ∃ n38 : Nat, pK (keepM (keepM (keepM M M35) M36) M37) l3 = (3, n38) ∧ vp_in 0 n38 ∧ (((lg_cmp (pL (keepM (keepM (keepM M M35) M36) M37) l3 (Int32.toNatClampNeg 0)) (Int32.toInt64 v36)) = 0 → Go d mL_law Q 823 ([some (.ref l0), some (.ref l1), some (.ref l2), some (.ref l3), some (.int l4), none, none, none, none], [], (c - rs12.1), (s - rs12.2)) (keepM (keepM (keepM M M35) M36) M37)) ∧ (¬ (lg_cmp (pL (keepM (keepM (keepM M M35) M36) M37) l3 (Int32.toNatClampNeg 0)) (Int32.toInt64 v36)) = 0 → Q (.inl (some (.int 0))) (keepM (keepM (keepM M M35) M36) M37)))) ∧ (¬ v35 = 0 → Go d mL_law Q 823 ([some (.ref l0), some (.ref l1), some (.ref l2), some (.ref l3), some (.int l4), none, none, none, none], [], (c - rs12.1), (s - rs12.2)) (keepM (keepM (keepM M M35) M36) M37)))) ∧ (¬ v37 = v35 → Q (.inl (some (.int 0))) (keepM (keepM (keepM M M35) M36) M37))))))) ∧ (¬ ((pI M l0 (Int32.toNatClampNeg l4)) &&& 31) = 12 → ((((pI M l0 (Int32.toNatClampNeg l4)) &&& 31) = 13 → ∃ n46 : Nat, pK M l0 = (5, n46) ∧ vp_in (l4 + 1) n46 ∧ ∃ n45 : Nat, pK M l0 = (5, n45) ∧ vp_in (l4 + 2) n45 ∧ pK M l1 = (1, 11) ∧ pCall_i d mX11_near (0, 0) [.ref l1, .int (pI M l0 (Int32.toNatClampNeg (l4 + 1))), .int (pI M l0 (Int32.toNatClampNeg (l4 + 2)))] M (fun v38 M38 => ∃ n44 : Nat, pK (keepM M M38) l0 = (5, n44) ∧ vp_in (l4 + 1) n44 ∧ ∃ n43 : Nat, pK (keepM M M38) l0 = (5, n43) ∧ vp_in (l4 + 2) n43 ∧ pK (keepM M M38) l2 = (1, 13) ∧ pCall_i d mX13_near (0, 0) [.ref l2, .int (pI (keepM M M38) l0 (Int32.toNatClampNeg (l4 + 1))), .int (pI (keepM M M38) l0 (Int32.toNatClampNeg (l4 + 2)))] (keepM M M38) (fun v39 M39 => ((v38 = v39 → Go d mL_law Q 1099 ([some (.ref l0), some (.ref l1), some (.ref l2), some (.ref l3), some (.int l4), none, none, none, none], [], c, s) (keepM (keepM M M38) M39)) ∧ (¬ v38 = v39 → Q (.inl (some (.int 0))) (keepM (keepM M M38) M39)))))) ∧ (¬ ((pI M l0 (Int32.toNatClampNeg l4)) &&& 31) = 13 → ((((pI M l0 (Int32.toNatClampNeg l4)) &&& 31) = 14 → pK M l1 = (1, 11) ∧ pCall_i d mX11_best (0, 0) [.ref l1] M (fun v40 M40 => pK (keepM M M40) l2 = (1, 13) ∧ pCall_i d mX13_best (0, 0) [.ref l2] (keepM M M40) (fun v41 M41 => ((v40 = v41 → Go d mL_law Q 1099 ([some (.ref l0), some (.ref l1), some (.ref l2), some (.ref l3), some (.int l4), none, none, none, none], [], c, s) (keepM (keepM M M40) M41)) ∧ (¬ v40 = v41 → Q (.inl (some (.int 0))) (keepM (keepM M M40) M41)))))) ∧ (¬ ((pI M l0 (Int32.toNatClampNeg l4)) &&& 31) = 14 → ((((pI M l0 (Int32.toNatClampNeg l4)) &&& 31) = 15 → ∃ n49 : Nat, pK M l0 = (5, n49) ∧ vp_in (l4 + 1) n49 ∧ ∃ rs13 : Nat × Nat, rs13.1 ≤ c ∧ rs13.2 ≤ s ∧ pCall_i d mL_strokes rs13 [.ref l1, .int (pI M l0 (Int32.toNatClampNeg (l4 + 1))), .ref l3] M (fun v42 M42 => ∃ n48 : Nat, pK (keepM M M42) l0 = (5, n48) ∧ vp_in (l4 + 1) n48 ∧ pK (keepM M M42) l2 = (1, 13) ∧ pCall_i d mX13_strokes (0, 0) [.ref l2, .int (pI (keepM M M42) l0 (Int32.toNatClampNeg (l4 + 1)))] (keepM M M42) (fun v43 M43 => pK (keepM (keepM M M42) M43) l2 = (1, 13) ∧ pCall_i d mX13_thrown (0, 0) [.ref l2] (keepM (keepM M M42) M43) (fun v44 M44 => ((v44 = v42 → ((v42 = 0 → ∃ n47 : Nat, pK (keepM (keepM (keepM M M42) M43) M44) l3 = (3, n47) ∧ vp_in 0 n47 ∧ (((lg_cmp (pL (keepM (keepM (keepM M M42) M43) M44) l3 (Int32.toNatClampNeg 0)) (Int32.toInt64 v43)) = 0 → Go d mL_law Q 929 ([some (.ref l0), some (.ref l1), some (.ref l2), some (.ref l3), some (.int l4), none, none, none, none], [], (c - rs13.1), (s - rs13.2)) (keepM (keepM (keepM M M42) M43) M44)) ∧ (¬ (lg_cmp (pL (keepM (keepM (keepM M M42) M43) M44) l3 (Int32.toNatClampNeg 0)) (Int32.toInt64 v43)) = 0 → Q (.inl (some (.int 0))) (keepM (keepM (keepM M M42) M43) M44)))) ∧ (¬ v42 = 0 → Go d mL_law Q 929 ([some (.ref l0), some (.ref l1), some (.ref l2), some (.ref l3), some (.int l4), none, none, none, none], [], (c - rs13.1), (s - rs13.2)) (keepM (keepM (keepM M M42) M43) M44)))) ∧ (¬ v44 = v42 → Q (.inl (some (.int 0))) (keepM (keepM (keepM M M42) M43) M44))))))) ∧ (¬ ((pI M l0 (Int32.toNatClampNeg l4)) &&& 31) = 15 → ((((pI M l0 (Int32.toNatClampNeg l4)) &&& 31) = 16 → ∃ n52 : Nat, pK M l0 = (5, n52) ∧ vp_in (l4 + 1) n52 ∧ ∃ rs14 : Nat × Nat, rs14.1 ≤ c ∧ rs14.2 ≤ s ∧ pCall_i d mL_needs rs14 [.ref l1, .int (pI M l0 (Int32.toNatClampNeg (l4 + 1))), .ref l3] M (fun v45 M45 => ∃ n51 : Nat, pK (keepM M M45) l0 = (5, n51) ∧ vp_in (l4 + 1) n51 ∧ pK (keepM M M45) l2 = (1, 13) ∧ pCall_i d mX13_needs (0, 0) [.ref l2, .int (pI (keepM M M45) l0 (Int32.toNatClampNeg (l4 + 1)))] (keepM M M45) (fun v46 M46 => pK (keepM (keepM M M45) M46) l2 = (1, 13) ∧ pCall_i d mX13_thrown (0, 0) [.ref l2] (keepM (keepM M M45) M46) (fun v47 M47 => ((v47 = v45 → ((v45 = 0 → ∃ n50 : Nat, pK (keepM (keepM (keepM M M45) M46) M47) l3 = (3, n50) ∧ vp_in 0 n50 ∧ (((lg_cmp (pL (keepM (keepM (keepM M M45) M46) M47) l3 (Int32.toNatClampNeg 0)) (Int32.toInt64 v46)) = 0 → Go d mL_law Q 985 ([some (.ref l0), some (.ref l1), some (.ref l2), some (.ref l3), some (.int l4), none, none, none, none], [], (c - rs14.1), (s - rs14.2)) (keepM (keepM (keepM M M45) M46) M47)) ∧ (¬ (lg_cmp (pL (keepM (keepM (keepM M M45) M46) M47) l3 (Int32.toNatClampNeg 0)) (Int32.toInt64 v46)) = 0 → Q (.inl (some (.int 0))) (keepM (keepM (keepM M M45) M46) M47)))) ∧ (¬ v45 = 0 → Go d mL_law Q 985 ([some (.ref l0), some (.ref l1), some (.ref l2), some (.ref l3), some (.int l4), none, none, none, none], [], (c - rs14.1), (s - rs14.2)) (keepM (keepM (keepM M M45) M46) M47)))) ∧ (¬ v47 = v45 → Q (.inl (some (.int 0))) (keepM (keepM (keepM M M45) M46) M47))))))) ∧ (¬ ((pI M l0 (Int32.toNatClampNeg l4)) &&& 31) = 16 → ((((pI M l0 (Int32.toNatClampNeg l4)) &&& 31) = 17 → ∃ n55 : Nat, pK M l0 = (5, n55) ∧ vp_in (l4 + 1) n55 ∧ ∃ rs15 : Nat × Nat, rs15.1 ≤ c ∧ rs15.2 ≤ s ∧ pCall_i d mL_closest rs15 [.ref l1, .int (pI M l0 (Int32.toNatClampNeg (l4 + 1))), .ref l3] M (fun v48 M48 => ∃ n54 : Nat, pK (keepM M M48) l0 = (5, n54) ∧ vp_in (l4 + 1) n54 ∧ pK (keepM M M48) l2 = (1, 13) ∧ pCall_i d mX13_closest (0, 0) [.ref l2, .int (pI (keepM M M48) l0 (Int32.toNatClampNeg (l4 + 1)))] (keepM M M48) (fun v49 M49 => pK (keepM (keepM M M48) M49) l2 = (1, 13) ∧ pCall_i d mX13_thrown (0, 0) [.ref l2] (keepM (keepM M M48) M49) (fun v50 M50 => ((v50 = v48 → ((v48 = 0 → ∃ n53 : Nat, pK (keepM (keepM (keepM M M48) M49) M50) l3 = (3, n53) ∧ vp_in 0 n53 ∧ (((lg_cmp (pL (keepM (keepM (keepM M M48) M49) M50) l3 (Int32.toNatClampNeg 0)) (Int32.toInt64 v49)) = 0 → Go d mL_law Q 1041 ([some (.ref l0), some (.ref l1), some (.ref l2), some (.ref l3), some (.int l4), none, none, none, none], [], (c - rs15.1), (s - rs15.2)) (keepM (keepM (keepM M M48) M49) M50)) ∧ (¬ (lg_cmp (pL (keepM (keepM (keepM M M48) M49) M50) l3 (Int32.toNatClampNeg 0)) (Int32.toInt64 v49)) = 0 → Q (.inl (some (.int 0))) (keepM (keepM (keepM M M48) M49) M50)))) ∧ (¬ v48 = 0 → Go d mL_law Q 1041 ([some (.ref l0), some (.ref l1), some (.ref l2), some (.ref l3), some (.int l4), none, none, none, none], [], (c - rs15.1), (s - rs15.2)) (keepM (keepM (keepM M M48) M49) M50)))) ∧ (¬ v50 = v48 → Q (.inl (some (.int 0))) (keepM (keepM (keepM M M48) M49) M50))))))) ∧ (¬ ((pI M l0 (Int32.toNatClampNeg l4)) &&& 31) = 17 → ((((pI M l0 (Int32.toNatClampNeg l4)) &&& 31) = 18 → pK M l1 = (1, 11) ∧ pCall_d d mX11_mean (0, 0) [.ref l1] M (fun v51 M51 => pK (keepM M M51) l2 = (1, 13) ∧ pCall_d d mX13_mean (0, 0) [.ref l2] (keepM M M51) (fun v52 M52 => (((Op.cmpValue (FP.dcmp v51 v52) .l) = 0 → Go d mL_law Q 1082 ([some (.ref l0), some (.ref l1), some (.ref l2), some (.ref l3), some (.int l4), none, none, none, none], [], c, s) (keepM (keepM M M51) M52)) ∧ (¬ (Op.cmpValue (FP.dcmp v51 v52) .l) = 0 → (((Op.cmpValue (FP.dcmp v51 v51) .l) = 0 → Q (.inl (some (.int 0))) (keepM (keepM M M51) M52)) ∧ (¬ (Op.cmpValue (FP.dcmp v51 v51) .l) = 0 → (((Op.cmpValue (FP.dcmp v52 v52) .l) = 0 → Q (.inl (some (.int 0))) (keepM (keepM M M51) M52)) ∧ (¬ (Op.cmpValue (FP.dcmp v52 v52) .l) = 0 → Go d mL_law Q 1082 ([some (.ref l0), some (.ref l1), some (.ref l2), some (.ref l3), some (.int l4), none, none, none, none], [], c, s) (keepM (keepM M M51) M52)))))))))) ∧ (¬ ((pI M l0 (Int32.toNatClampNeg l4)) &&& 31) = 18 → ((((pI M l0 (Int32.toNatClampNeg l4)) &&& 31) = 19 → pK M l1 = (1, 11) ∧ pCall_l d mX11_digest (0, 0) [.ref l1] M (fun v53 M53 => pK (keepM M M53) l2 = (1, 13) ∧ pCall_l d mX13_digest (0, 0) [.ref l2] (keepM M M53) (fun v54 M54 => (((lg_cmp v53 v54) = 0 → Go d mL_law Q 1099 ([some (.ref l0), some (.ref l1), some (.ref l2), some (.ref l3), some (.int l4), none, none, none, none], [], c, s) (keepM (keepM M M53) M54)) ∧ (¬ (lg_cmp v53 v54) = 0 → Q (.inl (some (.int 0))) (keepM (keepM M M53) M54)))))) ∧ (¬ ((pI M l0 (Int32.toNatClampNeg l4)) &&& 31) = 19 → Go d mL_law Q 1099 ([some (.ref l0), some (.ref l1), some (.ref l2), some (.ref l3), some (.int l4), none, none, none, none], [], c, s) M))))))))))))))))))))))))))))))))))))))))))) : Go d mL_law Q 23 ([some (.ref l0), some (.ref l1), some (.ref l2), some (.ref l3), some (.int l4), none, none, none, none], [], c, s) M := by
  refine st_iload oL_law_23 rfl ?_
  refine st_aload oL_law_25 rfl ?_
  obtain ⟨n1, hK, h⟩ := h
  refine st_slen oL_law_26 hK ?_
  refine st_const oL_law_27 ?_
  refine st_ibin oL_law_29 ?_
  refine st_icmp oL_law_30 (fun g => ?_) (fun g => ?_)
  · have h := h.1 g
    refine st_const oL_law_1105 ?_
    exact st_zret oL_law_1106 (Or.inr rfl) h
  · have h := h.2 g
    refine st_aload oL_law_33 rfl ?_
    refine st_iload oL_law_34 rfl ?_
    obtain ⟨n56, hK, hi, h⟩ := h
    refine st_sald oL_law_36 hK hi ?_
    refine st_const oL_law_37 ?_
    refine st_ibin oL_law_39 ?_
    refine st_sw oL_law_40 ?_
    refine And.intro (fun g => ?_) (fun g => ?_)
    · have h := h.1 g
      refine st_aload oL_law_136 rfl ?_
      refine st_aload oL_law_137 rfl ?_
      refine st_iload oL_law_138 rfl ?_
      refine st_const oL_law_140 ?_
      refine st_ibin oL_law_141 ?_
      obtain ⟨n12, hK, hi, h⟩ := h
      refine st_sald oL_law_142 hK hi ?_
      refine st_aload oL_law_143 rfl ?_
      refine st_iload oL_law_144 rfl ?_
      refine st_const oL_law_146 ?_
      refine st_ibin oL_law_147 ?_
      obtain ⟨n11, hK, hi, h⟩ := h
      refine st_sald oL_law_148 hK hi ?_
      refine st_aload oL_law_149 rfl ?_
      refine st_iload oL_law_150 rfl ?_
      refine st_const oL_law_152 ?_
      refine st_ibin oL_law_153 ?_
      obtain ⟨n10, hK, hi, h⟩ := h
      refine st_sald oL_law_154 hK hi ?_
      refine st_aload oL_law_155 rfl ?_
      refine st_iload oL_law_156 rfl ?_
      refine st_const oL_law_158 ?_
      refine st_ibin oL_law_159 ?_
      obtain ⟨n9, hK, hi, h⟩ := h
      refine st_sald oL_law_160 hK hi ?_
      refine st_aload oL_law_161 rfl ?_
      refine st_iload oL_law_162 rfl ?_
      refine st_const oL_law_164 ?_
      refine st_ibin oL_law_165 ?_
      obtain ⟨n8, hK, hi, h⟩ := h
      refine st_sald oL_law_166 hK hi ?_
      refine st_aload oL_law_167 rfl ?_
      obtain ⟨rs1, h1, h2, h⟩ := h
      refine st_callS_iK [.ref l1, .int (pI M l0 (Int32.toNatClampNeg (l4 + 1))), .int (pI M l0 (Int32.toNatClampNeg (l4 + 2))), .int (pI M l0 (Int32.toNatClampNeg (l4 + 3))), .int (pI M l0 (Int32.toNatClampNeg (l4 + 4))), .int (pI M l0 (Int32.toNatClampNeg (l4 + 5))), .ref l3] oL_law_168 rfl rfl (ps8 rfl) h1 h2 (pCall_i.mono h (fun v1 M1 h => ?_))
      refine st_istore (L2 := [some (.ref l0), some (.ref l1), some (.ref l2), some (.ref l3), some (.int l4), some (.int v1), none, none, none]) oL_law_171 (by decide) rfl rfl ?_
      refine st_aload oL_law_173 rfl ?_
      refine st_aload oL_law_174 rfl ?_
      refine st_iload oL_law_175 rfl ?_
      refine st_const oL_law_177 ?_
      refine st_ibin oL_law_178 ?_
      obtain ⟨n7, hK, hi, h⟩ := h
      refine st_sald oL_law_179 hK hi ?_
      refine st_aload oL_law_180 rfl ?_
      refine st_iload oL_law_181 rfl ?_
      refine st_const oL_law_183 ?_
      refine st_ibin oL_law_184 ?_
      obtain ⟨n6, hK, hi, h⟩ := h
      refine st_sald oL_law_185 hK hi ?_
      refine st_aload oL_law_186 rfl ?_
      refine st_iload oL_law_187 rfl ?_
      refine st_const oL_law_189 ?_
      refine st_ibin oL_law_190 ?_
      obtain ⟨n5, hK, hi, h⟩ := h
      refine st_sald oL_law_191 hK hi ?_
      refine st_aload oL_law_192 rfl ?_
      refine st_iload oL_law_193 rfl ?_
      refine st_const oL_law_195 ?_
      refine st_ibin oL_law_196 ?_
      obtain ⟨n4, hK, hi, h⟩ := h
      refine st_sald oL_law_197 hK hi ?_
      refine st_aload oL_law_198 rfl ?_
      refine st_iload oL_law_199 rfl ?_
      refine st_const oL_law_201 ?_
      refine st_ibin oL_law_202 ?_
      obtain ⟨n3, hK, hi, h⟩ := h
      refine st_sald oL_law_203 hK hi ?_
      obtain ⟨hK, h⟩ := h
      refine st_callV0_iK [.int (pI (keepM M M1) l0 (Int32.toNatClampNeg (l4 + 1))), .int (pI (keepM M M1) l0 (Int32.toNatClampNeg (l4 + 2))), .int (pI (keepM M M1) l0 (Int32.toNatClampNeg (l4 + 3))), .int (pI (keepM M M1) l0 (Int32.toNatClampNeg (l4 + 4))), .int (pI (keepM M M1) l0 (Int32.toNatClampNeg (l4 + 5)))] oL_law_204 rfl rfl hK (ps8 rfl) (pCall_i.mono h (fun v2 M2 h => ?_))
      refine st_istore (L2 := [some (.ref l0), some (.ref l1), some (.ref l2), some (.ref l3), some (.int l4), some (.int v1), some (.int v2), none, none]) oL_law_207 (by decide) rfl rfl ?_
      refine st_aload oL_law_209 rfl ?_
      obtain ⟨hK, h⟩ := h
      refine st_callV0_iK [] oL_law_210 rfl rfl hK (ps8 rfl) (pCall_i.mono h (fun v3 M3 h => ?_))
      refine st_iload oL_law_213 rfl ?_
      refine st_icmp oL_law_215 (fun g => ?_) (fun g => ?_)
      · have h := h.1 g
        refine st_iload oL_law_220 rfl ?_
        refine st_if oL_law_222 (fun g => ?_) (fun g => ?_)
        · have h := h.1 g
          refine st_aload oL_law_225 rfl ?_
          refine st_const oL_law_226 ?_
          obtain ⟨n2, hK, hi, h⟩ := h
          refine st_lald oL_law_227 hK hi ?_
          refine st_iload oL_law_228 rfl ?_
          refine st_i2l oL_law_230 ?_
          refine st_lcmp oL_law_231 ?_
          refine st_if oL_law_232 (fun g => ?_) (fun g => ?_)
          · have h := h.1 g
            exact Go.wk (L := [some (.ref l0), some (.ref l1), some (.ref l2), some (.ref l3), some (.int l4), none, none, none, none]) (And.intro (Or.inr rfl) (And.intro (Or.inr rfl) (And.intro (Or.inr rfl) (And.intro (Or.inr rfl) (And.intro (Or.inr rfl) (And.intro (Or.inl rfl) (And.intro (Or.inl rfl) (And.intro (Or.inr rfl) (And.intro (Or.inr rfl) True.intro))))))))) h
          · have h := h.2 g
            refine st_const oL_law_235 ?_
            exact st_zret oL_law_236 (Or.inl rfl) h
        · have h := h.2 g
          exact Go.wk (L := [some (.ref l0), some (.ref l1), some (.ref l2), some (.ref l3), some (.int l4), none, none, none, none]) (And.intro (Or.inr rfl) (And.intro (Or.inr rfl) (And.intro (Or.inr rfl) (And.intro (Or.inr rfl) (And.intro (Or.inr rfl) (And.intro (Or.inl rfl) (And.intro (Or.inl rfl) (And.intro (Or.inr rfl) (And.intro (Or.inr rfl) True.intro))))))))) h
      · have h := h.2 g
        refine st_const oL_law_218 ?_
        exact st_zret oL_law_219 (Or.inl rfl) h
    · have h := h.2 g
      refine And.intro (fun g => ?_) (fun g => ?_)
      · have h := h.1 g
        refine st_aload oL_law_240 rfl ?_
        refine st_aload oL_law_241 rfl ?_
        refine st_iload oL_law_242 rfl ?_
        refine st_const oL_law_244 ?_
        refine st_ibin oL_law_245 ?_
        obtain ⟨n15, hK, hi, h⟩ := h
        refine st_sald oL_law_246 hK hi ?_
        refine st_aload oL_law_247 rfl ?_
        obtain ⟨rs2, h1, h2, h⟩ := h
        refine st_callS_iK [.ref l1, .int (pI M l0 (Int32.toNatClampNeg (l4 + 1))), .ref l3] oL_law_248 rfl rfl (ps8 rfl) h1 h2 (pCall_i.mono h (fun v4 M4 h => ?_))
        refine st_istore (L2 := [some (.ref l0), some (.ref l1), some (.ref l2), some (.ref l3), some (.int l4), some (.int v4), none, none, none]) oL_law_251 (by decide) rfl rfl ?_
        refine st_aload oL_law_253 rfl ?_
        refine st_aload oL_law_254 rfl ?_
        refine st_iload oL_law_255 rfl ?_
        refine st_const oL_law_257 ?_
        refine st_ibin oL_law_258 ?_
        obtain ⟨n14, hK, hi, h⟩ := h
        refine st_sald oL_law_259 hK hi ?_
        obtain ⟨hK, h⟩ := h
        refine st_callV0_iK [.int (pI (keepM M M4) l0 (Int32.toNatClampNeg (l4 + 1)))] oL_law_260 rfl rfl hK (ps8 rfl) (pCall_i.mono h (fun v5 M5 h => ?_))
        refine st_istore (L2 := [some (.ref l0), some (.ref l1), some (.ref l2), some (.ref l3), some (.int l4), some (.int v4), some (.int v5), none, none]) oL_law_263 (by decide) rfl rfl ?_
        refine st_aload oL_law_265 rfl ?_
        obtain ⟨hK, h⟩ := h
        refine st_callV0_iK [] oL_law_266 rfl rfl hK (ps8 rfl) (pCall_i.mono h (fun v6 M6 h => ?_))
        refine st_iload oL_law_269 rfl ?_
        refine st_icmp oL_law_271 (fun g => ?_) (fun g => ?_)
        · have h := h.1 g
          refine st_iload oL_law_276 rfl ?_
          refine st_if oL_law_278 (fun g => ?_) (fun g => ?_)
          · have h := h.1 g
            refine st_aload oL_law_281 rfl ?_
            refine st_const oL_law_282 ?_
            obtain ⟨n13, hK, hi, h⟩ := h
            refine st_lald oL_law_283 hK hi ?_
            refine st_iload oL_law_284 rfl ?_
            refine st_i2l oL_law_286 ?_
            refine st_lcmp oL_law_287 ?_
            refine st_if oL_law_288 (fun g => ?_) (fun g => ?_)
            · have h := h.1 g
              exact Go.wk (L := [some (.ref l0), some (.ref l1), some (.ref l2), some (.ref l3), some (.int l4), none, none, none, none]) (And.intro (Or.inr rfl) (And.intro (Or.inr rfl) (And.intro (Or.inr rfl) (And.intro (Or.inr rfl) (And.intro (Or.inr rfl) (And.intro (Or.inl rfl) (And.intro (Or.inl rfl) (And.intro (Or.inr rfl) (And.intro (Or.inr rfl) True.intro))))))))) h
            · have h := h.2 g
              refine st_const oL_law_291 ?_
              exact st_zret oL_law_292 (Or.inl rfl) h
          · have h := h.2 g
            exact Go.wk (L := [some (.ref l0), some (.ref l1), some (.ref l2), some (.ref l3), some (.int l4), none, none, none, none]) (And.intro (Or.inr rfl) (And.intro (Or.inr rfl) (And.intro (Or.inr rfl) (And.intro (Or.inr rfl) (And.intro (Or.inr rfl) (And.intro (Or.inl rfl) (And.intro (Or.inl rfl) (And.intro (Or.inr rfl) (And.intro (Or.inr rfl) True.intro))))))))) h
        · have h := h.2 g
          refine st_const oL_law_274 ?_
          exact st_zret oL_law_275 (Or.inl rfl) h
      · have h := h.2 g
        refine And.intro (fun g => ?_) (fun g => ?_)
        · have h := h.1 g
          refine st_aload oL_law_296 rfl ?_
          obtain ⟨hK, rs3, h1, h2, h⟩ := h
          refine st_callV_iK [] oL_law_297 rfl rfl hK (ps8 rfl) h1 h2 (pCall_i.mono h (fun v7 M7 h => ?_))
          refine st_aload oL_law_300 rfl ?_
          obtain ⟨hK, h⟩ := h
          refine st_callV0_iK [] oL_law_301 rfl rfl hK (ps8 rfl) (pCall_i.mono h (fun v8 M8 h => ?_))
          refine st_icmp oL_law_304 (fun g => ?_) (fun g => ?_)
          · have h := h.1 g
            exact h
          · have h := h.2 g
            refine st_const oL_law_307 ?_
            exact st_zret oL_law_308 (Or.inl rfl) h
        · have h := h.2 g
          refine And.intro (fun g => ?_) (fun g => ?_)
          · have h := h.1 g
            refine st_aload oL_law_309 rfl ?_
            obtain ⟨hK, h⟩ := h
            refine st_callV0_iK [] oL_law_310 rfl rfl hK (ps8 rfl) (pCall_i.mono h (fun v9 M9 h => ?_))
            refine st_aload oL_law_313 rfl ?_
            obtain ⟨hK, h⟩ := h
            refine st_callV0_iK [] oL_law_314 rfl rfl hK (ps8 rfl) (pCall_i.mono h (fun v10 M10 h => ?_))
            refine st_icmp oL_law_317 (fun g => ?_) (fun g => ?_)
            · have h := h.1 g
              exact h
            · have h := h.2 g
              refine st_const oL_law_320 ?_
              exact st_zret oL_law_321 (Or.inl rfl) h
          · have h := h.2 g
            refine And.intro (fun g => ?_) (fun g => ?_)
            · have h := h.1 g
              refine st_aload oL_law_322 rfl ?_
              refine st_aload oL_law_323 rfl ?_
              refine st_iload oL_law_324 rfl ?_
              refine st_const oL_law_326 ?_
              refine st_ibin oL_law_327 ?_
              obtain ⟨n18, hK, hi, h⟩ := h
              refine st_sald oL_law_328 hK hi ?_
              refine st_aload oL_law_329 rfl ?_
              obtain ⟨rs4, h1, h2, h⟩ := h
              refine st_callS_iK [.ref l1, .int (pI M l0 (Int32.toNatClampNeg (l4 + 1))), .ref l3] oL_law_330 rfl rfl (ps8 rfl) h1 h2 (pCall_i.mono h (fun v11 M11 h => ?_))
              refine st_istore (L2 := [some (.ref l0), some (.ref l1), some (.ref l2), some (.ref l3), some (.int l4), some (.int v11), none, none, none]) oL_law_333 (by decide) rfl rfl ?_
              refine st_aload oL_law_335 rfl ?_
              refine st_aload oL_law_336 rfl ?_
              refine st_iload oL_law_337 rfl ?_
              refine st_const oL_law_339 ?_
              refine st_ibin oL_law_340 ?_
              obtain ⟨n17, hK, hi, h⟩ := h
              refine st_sald oL_law_341 hK hi ?_
              obtain ⟨hK, h⟩ := h
              refine st_callV0_iK [.int (pI (keepM M M11) l0 (Int32.toNatClampNeg (l4 + 1)))] oL_law_342 rfl rfl hK (ps8 rfl) (pCall_i.mono h (fun v12 M12 h => ?_))
              refine st_istore (L2 := [some (.ref l0), some (.ref l1), some (.ref l2), some (.ref l3), some (.int l4), some (.int v11), some (.int v12), none, none]) oL_law_345 (by decide) rfl rfl ?_
              refine st_aload oL_law_347 rfl ?_
              obtain ⟨hK, h⟩ := h
              refine st_callV0_iK [] oL_law_348 rfl rfl hK (ps8 rfl) (pCall_i.mono h (fun v13 M13 h => ?_))
              refine st_iload oL_law_351 rfl ?_
              refine st_icmp oL_law_353 (fun g => ?_) (fun g => ?_)
              · have h := h.1 g
                refine st_iload oL_law_358 rfl ?_
                refine st_if oL_law_360 (fun g => ?_) (fun g => ?_)
                · have h := h.1 g
                  refine st_aload oL_law_363 rfl ?_
                  refine st_const oL_law_364 ?_
                  obtain ⟨n16, hK, hi, h⟩ := h
                  refine st_lald oL_law_365 hK hi ?_
                  refine st_iload oL_law_366 rfl ?_
                  refine st_i2l oL_law_368 ?_
                  refine st_lcmp oL_law_369 ?_
                  refine st_if oL_law_370 (fun g => ?_) (fun g => ?_)
                  · have h := h.1 g
                    exact Go.wk (L := [some (.ref l0), some (.ref l1), some (.ref l2), some (.ref l3), some (.int l4), none, none, none, none]) (And.intro (Or.inr rfl) (And.intro (Or.inr rfl) (And.intro (Or.inr rfl) (And.intro (Or.inr rfl) (And.intro (Or.inr rfl) (And.intro (Or.inl rfl) (And.intro (Or.inl rfl) (And.intro (Or.inr rfl) (And.intro (Or.inr rfl) True.intro))))))))) h
                  · have h := h.2 g
                    refine st_const oL_law_373 ?_
                    exact st_zret oL_law_374 (Or.inl rfl) h
                · have h := h.2 g
                  exact Go.wk (L := [some (.ref l0), some (.ref l1), some (.ref l2), some (.ref l3), some (.int l4), none, none, none, none]) (And.intro (Or.inr rfl) (And.intro (Or.inr rfl) (And.intro (Or.inr rfl) (And.intro (Or.inr rfl) (And.intro (Or.inr rfl) (And.intro (Or.inl rfl) (And.intro (Or.inl rfl) (And.intro (Or.inr rfl) (And.intro (Or.inr rfl) True.intro))))))))) h
              · have h := h.2 g
                refine st_const oL_law_356 ?_
                exact st_zret oL_law_357 (Or.inl rfl) h
            · have h := h.2 g
              refine And.intro (fun g => ?_) (fun g => ?_)
              · have h := h.1 g
                refine st_aload oL_law_378 rfl ?_
                refine st_aload oL_law_379 rfl ?_
                refine st_iload oL_law_380 rfl ?_
                refine st_const oL_law_382 ?_
                refine st_ibin oL_law_383 ?_
                obtain ⟨n21, hK, hi, h⟩ := h
                refine st_sald oL_law_384 hK hi ?_
                refine st_aload oL_law_385 rfl ?_
                obtain ⟨rs5, h1, h2, h⟩ := h
                refine st_callS_iK [.ref l1, .int (pI M l0 (Int32.toNatClampNeg (l4 + 1))), .ref l3] oL_law_386 rfl rfl (ps8 rfl) h1 h2 (pCall_i.mono h (fun v14 M14 h => ?_))
                refine st_istore (L2 := [some (.ref l0), some (.ref l1), some (.ref l2), some (.ref l3), some (.int l4), some (.int v14), none, none, none]) oL_law_389 (by decide) rfl rfl ?_
                refine st_aload oL_law_391 rfl ?_
                refine st_aload oL_law_392 rfl ?_
                refine st_iload oL_law_393 rfl ?_
                refine st_const oL_law_395 ?_
                refine st_ibin oL_law_396 ?_
                obtain ⟨n20, hK, hi, h⟩ := h
                refine st_sald oL_law_397 hK hi ?_
                obtain ⟨hK, h⟩ := h
                refine st_callV0_iK [.int (pI (keepM M M14) l0 (Int32.toNatClampNeg (l4 + 1)))] oL_law_398 rfl rfl hK (ps8 rfl) (pCall_i.mono h (fun v15 M15 h => ?_))
                refine st_istore (L2 := [some (.ref l0), some (.ref l1), some (.ref l2), some (.ref l3), some (.int l4), some (.int v14), some (.int v15), none, none]) oL_law_401 (by decide) rfl rfl ?_
                refine st_aload oL_law_403 rfl ?_
                obtain ⟨hK, h⟩ := h
                refine st_callV0_iK [] oL_law_404 rfl rfl hK (ps8 rfl) (pCall_i.mono h (fun v16 M16 h => ?_))
                refine st_iload oL_law_407 rfl ?_
                refine st_icmp oL_law_409 (fun g => ?_) (fun g => ?_)
                · have h := h.1 g
                  refine st_iload oL_law_414 rfl ?_
                  refine st_if oL_law_416 (fun g => ?_) (fun g => ?_)
                  · have h := h.1 g
                    refine st_aload oL_law_419 rfl ?_
                    refine st_const oL_law_420 ?_
                    obtain ⟨n19, hK, hi, h⟩ := h
                    refine st_lald oL_law_421 hK hi ?_
                    refine st_iload oL_law_422 rfl ?_
                    refine st_i2l oL_law_424 ?_
                    refine st_lcmp oL_law_425 ?_
                    refine st_if oL_law_426 (fun g => ?_) (fun g => ?_)
                    · have h := h.1 g
                      exact Go.wk (L := [some (.ref l0), some (.ref l1), some (.ref l2), some (.ref l3), some (.int l4), none, none, none, none]) (And.intro (Or.inr rfl) (And.intro (Or.inr rfl) (And.intro (Or.inr rfl) (And.intro (Or.inr rfl) (And.intro (Or.inr rfl) (And.intro (Or.inl rfl) (And.intro (Or.inl rfl) (And.intro (Or.inr rfl) (And.intro (Or.inr rfl) True.intro))))))))) h
                    · have h := h.2 g
                      refine st_const oL_law_429 ?_
                      exact st_zret oL_law_430 (Or.inl rfl) h
                  · have h := h.2 g
                    exact Go.wk (L := [some (.ref l0), some (.ref l1), some (.ref l2), some (.ref l3), some (.int l4), none, none, none, none]) (And.intro (Or.inr rfl) (And.intro (Or.inr rfl) (And.intro (Or.inr rfl) (And.intro (Or.inr rfl) (And.intro (Or.inr rfl) (And.intro (Or.inl rfl) (And.intro (Or.inl rfl) (And.intro (Or.inr rfl) (And.intro (Or.inr rfl) True.intro))))))))) h
                · have h := h.2 g
                  refine st_const oL_law_412 ?_
                  exact st_zret oL_law_413 (Or.inl rfl) h
              · have h := h.2 g
                refine And.intro (fun g => ?_) (fun g => ?_)
                · have h := h.1 g
                  refine st_aload oL_law_434 rfl ?_
                  refine st_aload oL_law_435 rfl ?_
                  obtain ⟨rs6, h1, h2, h⟩ := h
                  refine st_callS_iK [.ref l1, .ref l3] oL_law_436 rfl rfl (ps8 rfl) h1 h2 (pCall_i.mono h (fun v17 M17 h => ?_))
                  refine st_istore (L2 := [some (.ref l0), some (.ref l1), some (.ref l2), some (.ref l3), some (.int l4), some (.int v17), none, none, none]) oL_law_439 (by decide) rfl rfl ?_
                  refine st_aload oL_law_441 rfl ?_
                  obtain ⟨hK, h⟩ := h
                  refine st_callV0_iK [] oL_law_442 rfl rfl hK (ps8 rfl) (pCall_i.mono h (fun v18 M18 h => ?_))
                  refine st_istore (L2 := [some (.ref l0), some (.ref l1), some (.ref l2), some (.ref l3), some (.int l4), some (.int v17), some (.int v18), none, none]) oL_law_445 (by decide) rfl rfl ?_
                  refine st_aload oL_law_447 rfl ?_
                  obtain ⟨hK, h⟩ := h
                  refine st_callV0_iK [] oL_law_448 rfl rfl hK (ps8 rfl) (pCall_i.mono h (fun v19 M19 h => ?_))
                  refine st_iload oL_law_451 rfl ?_
                  refine st_icmp oL_law_453 (fun g => ?_) (fun g => ?_)
                  · have h := h.1 g
                    refine st_iload oL_law_458 rfl ?_
                    refine st_if oL_law_460 (fun g => ?_) (fun g => ?_)
                    · have h := h.1 g
                      refine st_aload oL_law_463 rfl ?_
                      refine st_const oL_law_464 ?_
                      obtain ⟨n22, hK, hi, h⟩ := h
                      refine st_lald oL_law_465 hK hi ?_
                      refine st_iload oL_law_466 rfl ?_
                      refine st_i2l oL_law_468 ?_
                      refine st_lcmp oL_law_469 ?_
                      refine st_if oL_law_470 (fun g => ?_) (fun g => ?_)
                      · have h := h.1 g
                        exact Go.wk (L := [some (.ref l0), some (.ref l1), some (.ref l2), some (.ref l3), some (.int l4), none, none, none, none]) (And.intro (Or.inr rfl) (And.intro (Or.inr rfl) (And.intro (Or.inr rfl) (And.intro (Or.inr rfl) (And.intro (Or.inr rfl) (And.intro (Or.inl rfl) (And.intro (Or.inl rfl) (And.intro (Or.inr rfl) (And.intro (Or.inr rfl) True.intro))))))))) h
                      · have h := h.2 g
                        refine st_const oL_law_473 ?_
                        exact st_zret oL_law_474 (Or.inl rfl) h
                    · have h := h.2 g
                      exact Go.wk (L := [some (.ref l0), some (.ref l1), some (.ref l2), some (.ref l3), some (.int l4), none, none, none, none]) (And.intro (Or.inr rfl) (And.intro (Or.inr rfl) (And.intro (Or.inr rfl) (And.intro (Or.inr rfl) (And.intro (Or.inr rfl) (And.intro (Or.inl rfl) (And.intro (Or.inl rfl) (And.intro (Or.inr rfl) (And.intro (Or.inr rfl) True.intro))))))))) h
                  · have h := h.2 g
                    refine st_const oL_law_456 ?_
                    exact st_zret oL_law_457 (Or.inl rfl) h
                · have h := h.2 g
                  refine And.intro (fun g => ?_) (fun g => ?_)
                  · have h := h.1 g
                    refine st_aload oL_law_478 rfl ?_
                    refine st_aload oL_law_479 rfl ?_
                    refine st_iload oL_law_480 rfl ?_
                    refine st_const oL_law_482 ?_
                    refine st_ibin oL_law_483 ?_
                    obtain ⟨n25, hK, hi, h⟩ := h
                    refine st_sald oL_law_484 hK hi ?_
                    refine st_aload oL_law_485 rfl ?_
                    obtain ⟨rs7, h1, h2, h⟩ := h
                    refine st_callS_iK [.ref l1, .int (pI M l0 (Int32.toNatClampNeg (l4 + 1))), .ref l3] oL_law_486 rfl rfl (ps8 rfl) h1 h2 (pCall_i.mono h (fun v20 M20 h => ?_))
                    refine st_istore (L2 := [some (.ref l0), some (.ref l1), some (.ref l2), some (.ref l3), some (.int l4), some (.int v20), none, none, none]) oL_law_489 (by decide) rfl rfl ?_
                    refine st_aload oL_law_491 rfl ?_
                    refine st_aload oL_law_492 rfl ?_
                    refine st_iload oL_law_493 rfl ?_
                    refine st_const oL_law_495 ?_
                    refine st_ibin oL_law_496 ?_
                    obtain ⟨n24, hK, hi, h⟩ := h
                    refine st_sald oL_law_497 hK hi ?_
                    obtain ⟨hK, h⟩ := h
                    refine st_callV0_iK [.int (pI (keepM M M20) l0 (Int32.toNatClampNeg (l4 + 1)))] oL_law_498 rfl rfl hK (ps8 rfl) (pCall_i.mono h (fun v21 M21 h => ?_))
                    refine st_istore (L2 := [some (.ref l0), some (.ref l1), some (.ref l2), some (.ref l3), some (.int l4), some (.int v20), some (.int v21), none, none]) oL_law_501 (by decide) rfl rfl ?_
                    refine st_aload oL_law_503 rfl ?_
                    obtain ⟨hK, h⟩ := h
                    refine st_callV0_iK [] oL_law_504 rfl rfl hK (ps8 rfl) (pCall_i.mono h (fun v22 M22 h => ?_))
                    refine st_iload oL_law_507 rfl ?_
                    refine st_icmp oL_law_509 (fun g => ?_) (fun g => ?_)
                    · have h := h.1 g
                      refine st_iload oL_law_514 rfl ?_
                      refine st_if oL_law_516 (fun g => ?_) (fun g => ?_)
                      · have h := h.1 g
                        refine st_aload oL_law_519 rfl ?_
                        refine st_const oL_law_520 ?_
                        obtain ⟨n23, hK, hi, h⟩ := h
                        refine st_lald oL_law_521 hK hi ?_
                        refine st_iload oL_law_522 rfl ?_
                        refine st_i2l oL_law_524 ?_
                        refine st_lcmp oL_law_525 ?_
                        refine st_if oL_law_526 (fun g => ?_) (fun g => ?_)
                        · have h := h.1 g
                          exact Go.wk (L := [some (.ref l0), some (.ref l1), some (.ref l2), some (.ref l3), some (.int l4), none, none, none, none]) (And.intro (Or.inr rfl) (And.intro (Or.inr rfl) (And.intro (Or.inr rfl) (And.intro (Or.inr rfl) (And.intro (Or.inr rfl) (And.intro (Or.inl rfl) (And.intro (Or.inl rfl) (And.intro (Or.inr rfl) (And.intro (Or.inr rfl) True.intro))))))))) h
                        · have h := h.2 g
                          refine st_const oL_law_529 ?_
                          exact st_zret oL_law_530 (Or.inl rfl) h
                      · have h := h.2 g
                        exact Go.wk (L := [some (.ref l0), some (.ref l1), some (.ref l2), some (.ref l3), some (.int l4), none, none, none, none]) (And.intro (Or.inr rfl) (And.intro (Or.inr rfl) (And.intro (Or.inr rfl) (And.intro (Or.inr rfl) (And.intro (Or.inr rfl) (And.intro (Or.inl rfl) (And.intro (Or.inl rfl) (And.intro (Or.inr rfl) (And.intro (Or.inr rfl) True.intro))))))))) h
                    · have h := h.2 g
                      refine st_const oL_law_512 ?_
                      exact st_zret oL_law_513 (Or.inl rfl) h
                  · have h := h.2 g
                    refine And.intro (fun g => ?_) (fun g => ?_)
                    · have h := h.1 g
                      refine st_aload oL_law_534 rfl ?_
                      refine st_aload oL_law_535 rfl ?_
                      obtain ⟨rs8, h1, h2, h⟩ := h
                      refine st_callS_iK [.ref l1, .ref l3] oL_law_536 rfl rfl (ps8 rfl) h1 h2 (pCall_i.mono h (fun v23 M23 h => ?_))
                      refine st_istore (L2 := [some (.ref l0), some (.ref l1), some (.ref l2), some (.ref l3), some (.int l4), some (.int v23), none, none, none]) oL_law_539 (by decide) rfl rfl ?_
                      refine st_aload oL_law_541 rfl ?_
                      obtain ⟨hK, h⟩ := h
                      refine st_callV0_iK [] oL_law_542 rfl rfl hK (ps8 rfl) (pCall_i.mono h (fun v24 M24 h => ?_))
                      refine st_istore (L2 := [some (.ref l0), some (.ref l1), some (.ref l2), some (.ref l3), some (.int l4), some (.int v23), some (.int v24), none, none]) oL_law_545 (by decide) rfl rfl ?_
                      refine st_aload oL_law_547 rfl ?_
                      obtain ⟨hK, h⟩ := h
                      refine st_callV0_iK [] oL_law_548 rfl rfl hK (ps8 rfl) (pCall_i.mono h (fun v25 M25 h => ?_))
                      refine st_iload oL_law_551 rfl ?_
                      refine st_icmp oL_law_553 (fun g => ?_) (fun g => ?_)
                      · have h := h.1 g
                        refine st_iload oL_law_558 rfl ?_
                        refine st_if oL_law_560 (fun g => ?_) (fun g => ?_)
                        · have h := h.1 g
                          refine st_aload oL_law_563 rfl ?_
                          refine st_const oL_law_564 ?_
                          obtain ⟨n26, hK, hi, h⟩ := h
                          refine st_lald oL_law_565 hK hi ?_
                          refine st_iload oL_law_566 rfl ?_
                          refine st_i2l oL_law_568 ?_
                          refine st_lcmp oL_law_569 ?_
                          refine st_if oL_law_570 (fun g => ?_) (fun g => ?_)
                          · have h := h.1 g
                            exact Go.wk (L := [some (.ref l0), some (.ref l1), some (.ref l2), some (.ref l3), some (.int l4), none, none, none, none]) (And.intro (Or.inr rfl) (And.intro (Or.inr rfl) (And.intro (Or.inr rfl) (And.intro (Or.inr rfl) (And.intro (Or.inr rfl) (And.intro (Or.inl rfl) (And.intro (Or.inl rfl) (And.intro (Or.inr rfl) (And.intro (Or.inr rfl) True.intro))))))))) h
                          · have h := h.2 g
                            refine st_const oL_law_573 ?_
                            exact st_zret oL_law_574 (Or.inl rfl) h
                        · have h := h.2 g
                          exact Go.wk (L := [some (.ref l0), some (.ref l1), some (.ref l2), some (.ref l3), some (.int l4), none, none, none, none]) (And.intro (Or.inr rfl) (And.intro (Or.inr rfl) (And.intro (Or.inr rfl) (And.intro (Or.inr rfl) (And.intro (Or.inr rfl) (And.intro (Or.inl rfl) (And.intro (Or.inl rfl) (And.intro (Or.inr rfl) (And.intro (Or.inr rfl) True.intro))))))))) h
                      · have h := h.2 g
                        refine st_const oL_law_556 ?_
                        exact st_zret oL_law_557 (Or.inl rfl) h
                    · have h := h.2 g
                      refine And.intro (fun g => ?_) (fun g => ?_)
                      · have h := h.1 g
                        refine st_aload oL_law_578 rfl ?_
                        refine st_aload oL_law_579 rfl ?_
                        refine st_iload oL_law_580 rfl ?_
                        refine st_const oL_law_582 ?_
                        refine st_ibin oL_law_583 ?_
                        obtain ⟨n29, hK, hi, h⟩ := h
                        refine st_sald oL_law_584 hK hi ?_
                        refine st_aload oL_law_585 rfl ?_
                        obtain ⟨rs9, h1, h2, h⟩ := h
                        refine st_callS_iK [.ref l1, .int (pI M l0 (Int32.toNatClampNeg (l4 + 1))), .ref l3] oL_law_586 rfl rfl (ps8 rfl) h1 h2 (pCall_i.mono h (fun v26 M26 h => ?_))
                        refine st_istore (L2 := [some (.ref l0), some (.ref l1), some (.ref l2), some (.ref l3), some (.int l4), some (.int v26), none, none, none]) oL_law_589 (by decide) rfl rfl ?_
                        refine st_aload oL_law_591 rfl ?_
                        refine st_aload oL_law_592 rfl ?_
                        refine st_iload oL_law_593 rfl ?_
                        refine st_const oL_law_595 ?_
                        refine st_ibin oL_law_596 ?_
                        obtain ⟨n28, hK, hi, h⟩ := h
                        refine st_sald oL_law_597 hK hi ?_
                        obtain ⟨hK, h⟩ := h
                        refine st_callV0_iK [.int (pI (keepM M M26) l0 (Int32.toNatClampNeg (l4 + 1)))] oL_law_598 rfl rfl hK (ps8 rfl) (pCall_i.mono h (fun v27 M27 h => ?_))
                        refine st_istore (L2 := [some (.ref l0), some (.ref l1), some (.ref l2), some (.ref l3), some (.int l4), some (.int v26), some (.int v27), none, none]) oL_law_601 (by decide) rfl rfl ?_
                        refine st_aload oL_law_603 rfl ?_
                        obtain ⟨hK, h⟩ := h
                        refine st_callV0_iK [] oL_law_604 rfl rfl hK (ps8 rfl) (pCall_i.mono h (fun v28 M28 h => ?_))
                        refine st_iload oL_law_607 rfl ?_
                        refine st_icmp oL_law_609 (fun g => ?_) (fun g => ?_)
                        · have h := h.1 g
                          refine st_iload oL_law_614 rfl ?_
                          refine st_if oL_law_616 (fun g => ?_) (fun g => ?_)
                          · have h := h.1 g
                            refine st_aload oL_law_619 rfl ?_
                            refine st_const oL_law_620 ?_
                            obtain ⟨n27, hK, hi, h⟩ := h
                            refine st_lald oL_law_621 hK hi ?_
                            refine st_iload oL_law_622 rfl ?_
                            refine st_i2l oL_law_624 ?_
                            refine st_lcmp oL_law_625 ?_
                            refine st_if oL_law_626 (fun g => ?_) (fun g => ?_)
                            · have h := h.1 g
                              exact Go.wk (L := [some (.ref l0), some (.ref l1), some (.ref l2), some (.ref l3), some (.int l4), none, none, none, none]) (And.intro (Or.inr rfl) (And.intro (Or.inr rfl) (And.intro (Or.inr rfl) (And.intro (Or.inr rfl) (And.intro (Or.inr rfl) (And.intro (Or.inl rfl) (And.intro (Or.inl rfl) (And.intro (Or.inr rfl) (And.intro (Or.inr rfl) True.intro))))))))) h
                            · have h := h.2 g
                              refine st_const oL_law_629 ?_
                              exact st_zret oL_law_630 (Or.inl rfl) h
                          · have h := h.2 g
                            exact Go.wk (L := [some (.ref l0), some (.ref l1), some (.ref l2), some (.ref l3), some (.int l4), none, none, none, none]) (And.intro (Or.inr rfl) (And.intro (Or.inr rfl) (And.intro (Or.inr rfl) (And.intro (Or.inr rfl) (And.intro (Or.inr rfl) (And.intro (Or.inl rfl) (And.intro (Or.inl rfl) (And.intro (Or.inr rfl) (And.intro (Or.inr rfl) True.intro))))))))) h
                        · have h := h.2 g
                          refine st_const oL_law_612 ?_
                          exact st_zret oL_law_613 (Or.inl rfl) h
                      · have h := h.2 g
                        refine And.intro (fun g => ?_) (fun g => ?_)
                        · have h := h.1 g
                          refine st_aload oL_law_634 rfl ?_
                          refine st_aload oL_law_635 rfl ?_
                          refine st_iload oL_law_636 rfl ?_
                          refine st_const oL_law_638 ?_
                          refine st_ibin oL_law_639 ?_
                          obtain ⟨n32, hK, hi, h⟩ := h
                          refine st_sald oL_law_640 hK hi ?_
                          refine st_aload oL_law_641 rfl ?_
                          obtain ⟨rs10, h1, h2, h⟩ := h
                          refine st_callS_iK [.ref l1, .int (pI M l0 (Int32.toNatClampNeg (l4 + 1))), .ref l3] oL_law_642 rfl rfl (ps8 rfl) h1 h2 (pCall_i.mono h (fun v29 M29 h => ?_))
                          refine st_istore (L2 := [some (.ref l0), some (.ref l1), some (.ref l2), some (.ref l3), some (.int l4), some (.int v29), none, none, none]) oL_law_645 (by decide) rfl rfl ?_
                          refine st_aload oL_law_647 rfl ?_
                          refine st_aload oL_law_648 rfl ?_
                          refine st_iload oL_law_649 rfl ?_
                          refine st_const oL_law_651 ?_
                          refine st_ibin oL_law_652 ?_
                          obtain ⟨n31, hK, hi, h⟩ := h
                          refine st_sald oL_law_653 hK hi ?_
                          obtain ⟨hK, h⟩ := h
                          refine st_callV0_iK [.int (pI (keepM M M29) l0 (Int32.toNatClampNeg (l4 + 1)))] oL_law_654 rfl rfl hK (ps8 rfl) (pCall_i.mono h (fun v30 M30 h => ?_))
                          refine st_istore (L2 := [some (.ref l0), some (.ref l1), some (.ref l2), some (.ref l3), some (.int l4), some (.int v29), some (.int v30), none, none]) oL_law_657 (by decide) rfl rfl ?_
                          refine st_aload oL_law_659 rfl ?_
                          obtain ⟨hK, h⟩ := h
                          refine st_callV0_iK [] oL_law_660 rfl rfl hK (ps8 rfl) (pCall_i.mono h (fun v31 M31 h => ?_))
                          refine st_iload oL_law_663 rfl ?_
                          refine st_icmp oL_law_665 (fun g => ?_) (fun g => ?_)
                          · have h := h.1 g
                            refine st_iload oL_law_670 rfl ?_
                            refine st_if oL_law_672 (fun g => ?_) (fun g => ?_)
                            · have h := h.1 g
                              refine st_aload oL_law_675 rfl ?_
                              refine st_const oL_law_676 ?_
                              obtain ⟨n30, hK, hi, h⟩ := h
                              refine st_lald oL_law_677 hK hi ?_
                              refine st_iload oL_law_678 rfl ?_
                              refine st_i2l oL_law_680 ?_
                              refine st_lcmp oL_law_681 ?_
                              refine st_if oL_law_682 (fun g => ?_) (fun g => ?_)
                              · have h := h.1 g
                                exact Go.wk (L := [some (.ref l0), some (.ref l1), some (.ref l2), some (.ref l3), some (.int l4), none, none, none, none]) (And.intro (Or.inr rfl) (And.intro (Or.inr rfl) (And.intro (Or.inr rfl) (And.intro (Or.inr rfl) (And.intro (Or.inr rfl) (And.intro (Or.inl rfl) (And.intro (Or.inl rfl) (And.intro (Or.inr rfl) (And.intro (Or.inr rfl) True.intro))))))))) h
                              · have h := h.2 g
                                refine st_const oL_law_685 ?_
                                exact st_zret oL_law_686 (Or.inl rfl) h
                            · have h := h.2 g
                              exact Go.wk (L := [some (.ref l0), some (.ref l1), some (.ref l2), some (.ref l3), some (.int l4), none, none, none, none]) (And.intro (Or.inr rfl) (And.intro (Or.inr rfl) (And.intro (Or.inr rfl) (And.intro (Or.inr rfl) (And.intro (Or.inr rfl) (And.intro (Or.inl rfl) (And.intro (Or.inl rfl) (And.intro (Or.inr rfl) (And.intro (Or.inr rfl) True.intro))))))))) h
                          · have h := h.2 g
                            refine st_const oL_law_668 ?_
                            exact st_zret oL_law_669 (Or.inl rfl) h
                        · have h := h.2 g
                          refine And.intro (fun g => ?_) (fun g => ?_)
                          · have h := h.1 g
                            refine st_aload oL_law_690 rfl ?_
                            refine st_aload oL_law_691 rfl ?_
                            refine st_iload oL_law_692 rfl ?_
                            refine st_const oL_law_694 ?_
                            refine st_ibin oL_law_695 ?_
                            obtain ⟨n37, hK, hi, h⟩ := h
                            refine st_sald oL_law_696 hK hi ?_
                            refine st_aload oL_law_697 rfl ?_
                            refine st_iload oL_law_698 rfl ?_
                            refine st_const oL_law_700 ?_
                            refine st_ibin oL_law_701 ?_
                            obtain ⟨n36, hK, hi, h⟩ := h
                            refine st_sald oL_law_702 hK hi ?_
                            refine st_aload oL_law_703 rfl ?_
                            obtain ⟨rs11, h1, h2, h⟩ := h
                            refine st_callS_iK [.ref l1, .int (pI M l0 (Int32.toNatClampNeg (l4 + 1))), .int (pI M l0 (Int32.toNatClampNeg (l4 + 2))), .ref l3] oL_law_704 rfl rfl (ps8 rfl) h1 h2 (pCall_i.mono h (fun v32 M32 h => ?_))
                            refine st_istore (L2 := [some (.ref l0), some (.ref l1), some (.ref l2), some (.ref l3), some (.int l4), some (.int v32), none, none, none]) oL_law_707 (by decide) rfl rfl ?_
                            refine st_aload oL_law_709 rfl ?_
                            refine st_aload oL_law_710 rfl ?_
                            refine st_iload oL_law_711 rfl ?_
                            refine st_const oL_law_713 ?_
                            refine st_ibin oL_law_714 ?_
                            obtain ⟨n35, hK, hi, h⟩ := h
                            refine st_sald oL_law_715 hK hi ?_
                            refine st_aload oL_law_716 rfl ?_
                            refine st_iload oL_law_717 rfl ?_
                            refine st_const oL_law_719 ?_
                            refine st_ibin oL_law_720 ?_
                            obtain ⟨n34, hK, hi, h⟩ := h
                            refine st_sald oL_law_721 hK hi ?_
                            obtain ⟨hK, h⟩ := h
                            refine st_callV0_iK [.int (pI (keepM M M32) l0 (Int32.toNatClampNeg (l4 + 1))), .int (pI (keepM M M32) l0 (Int32.toNatClampNeg (l4 + 2)))] oL_law_722 rfl rfl hK (ps8 rfl) (pCall_i.mono h (fun v33 M33 h => ?_))
                            refine st_istore (L2 := [some (.ref l0), some (.ref l1), some (.ref l2), some (.ref l3), some (.int l4), some (.int v32), some (.int v33), none, none]) oL_law_725 (by decide) rfl rfl ?_
                            refine st_aload oL_law_727 rfl ?_
                            obtain ⟨hK, h⟩ := h
                            refine st_callV0_iK [] oL_law_728 rfl rfl hK (ps8 rfl) (pCall_i.mono h (fun v34 M34 h => ?_))
                            refine st_iload oL_law_731 rfl ?_
                            refine st_icmp oL_law_733 (fun g => ?_) (fun g => ?_)
                            · have h := h.1 g
                              refine st_iload oL_law_738 rfl ?_
                              refine st_if oL_law_740 (fun g => ?_) (fun g => ?_)
                              · have h := h.1 g
                                refine st_aload oL_law_743 rfl ?_
                                refine st_const oL_law_744 ?_
                                obtain ⟨n33, hK, hi, h⟩ := h
                                refine st_lald oL_law_745 hK hi ?_
                                refine st_iload oL_law_746 rfl ?_
                                refine st_i2l oL_law_748 ?_
                                refine st_lcmp oL_law_749 ?_
                                refine st_if oL_law_750 (fun g => ?_) (fun g => ?_)
                                · have h := h.1 g
                                  exact Go.wk (L := [some (.ref l0), some (.ref l1), some (.ref l2), some (.ref l3), some (.int l4), none, none, none, none]) (And.intro (Or.inr rfl) (And.intro (Or.inr rfl) (And.intro (Or.inr rfl) (And.intro (Or.inr rfl) (And.intro (Or.inr rfl) (And.intro (Or.inl rfl) (And.intro (Or.inl rfl) (And.intro (Or.inr rfl) (And.intro (Or.inr rfl) True.intro))))))))) h
                                · have h := h.2 g
                                  refine st_const oL_law_753 ?_
                                  exact st_zret oL_law_754 (Or.inl rfl) h
                              · have h := h.2 g
                                exact Go.wk (L := [some (.ref l0), some (.ref l1), some (.ref l2), some (.ref l3), some (.int l4), none, none, none, none]) (And.intro (Or.inr rfl) (And.intro (Or.inr rfl) (And.intro (Or.inr rfl) (And.intro (Or.inr rfl) (And.intro (Or.inr rfl) (And.intro (Or.inl rfl) (And.intro (Or.inl rfl) (And.intro (Or.inr rfl) (And.intro (Or.inr rfl) True.intro))))))))) h
                            · have h := h.2 g
                              refine st_const oL_law_736 ?_
                              exact st_zret oL_law_737 (Or.inl rfl) h
                          · have h := h.2 g
                            refine And.intro (fun g => ?_) (fun g => ?_)
                            · have h := h.1 g
                              refine st_aload oL_law_758 rfl ?_
                              refine st_aload oL_law_759 rfl ?_
                              refine st_iload oL_law_760 rfl ?_
                              refine st_const oL_law_762 ?_
                              refine st_ibin oL_law_763 ?_
                              obtain ⟨n42, hK, hi, h⟩ := h
                              refine st_sald oL_law_764 hK hi ?_
                              refine st_aload oL_law_765 rfl ?_
                              refine st_iload oL_law_766 rfl ?_
                              refine st_const oL_law_768 ?_
                              refine st_ibin oL_law_769 ?_
                              obtain ⟨n41, hK, hi, h⟩ := h
                              refine st_sald oL_law_770 hK hi ?_
                              refine st_aload oL_law_771 rfl ?_
                              obtain ⟨rs12, h1, h2, h⟩ := h
                              refine st_callS_iK [.ref l1, .int (pI M l0 (Int32.toNatClampNeg (l4 + 1))), .int (pI M l0 (Int32.toNatClampNeg (l4 + 2))), .ref l3] oL_law_772 rfl rfl (ps8 rfl) h1 h2 (pCall_i.mono h (fun v35 M35 h => ?_))
                              refine st_istore (L2 := [some (.ref l0), some (.ref l1), some (.ref l2), some (.ref l3), some (.int l4), some (.int v35), none, none, none]) oL_law_775 (by decide) rfl rfl ?_
                              refine st_aload oL_law_777 rfl ?_
                              refine st_aload oL_law_778 rfl ?_
                              refine st_iload oL_law_779 rfl ?_
                              refine st_const oL_law_781 ?_
                              refine st_ibin oL_law_782 ?_
                              obtain ⟨n40, hK, hi, h⟩ := h
                              refine st_sald oL_law_783 hK hi ?_
                              refine st_aload oL_law_784 rfl ?_
                              refine st_iload oL_law_785 rfl ?_
                              refine st_const oL_law_787 ?_
                              refine st_ibin oL_law_788 ?_
                              obtain ⟨n39, hK, hi, h⟩ := h
                              refine st_sald oL_law_789 hK hi ?_
                              obtain ⟨hK, h⟩ := h
                              refine st_callV0_iK [.int (pI (keepM M M35) l0 (Int32.toNatClampNeg (l4 + 1))), .int (pI (keepM M M35) l0 (Int32.toNatClampNeg (l4 + 2)))] oL_law_790 rfl rfl hK (ps8 rfl) (pCall_i.mono h (fun v36 M36 h => ?_))
                              refine st_istore (L2 := [some (.ref l0), some (.ref l1), some (.ref l2), some (.ref l3), some (.int l4), some (.int v35), some (.int v36), none, none]) oL_law_793 (by decide) rfl rfl ?_
                              refine st_aload oL_law_795 rfl ?_
                              obtain ⟨hK, h⟩ := h
                              refine st_callV0_iK [] oL_law_796 rfl rfl hK (ps8 rfl) (pCall_i.mono h (fun v37 M37 h => ?_))
                              refine st_iload oL_law_799 rfl ?_
                              refine st_icmp oL_law_801 (fun g => ?_) (fun g => ?_)
                              · have h := h.1 g
                                refine st_iload oL_law_806 rfl ?_
                                refine st_if oL_law_808 (fun g => ?_) (fun g => ?_)
                                · have h := h.1 g
                                  refine st_aload oL_law_811 rfl ?_
                                  refine st_const oL_law_812 ?_
                                  obtain ⟨n38, hK, hi, h⟩ := h
                                  refine st_lald oL_law_813 hK hi ?_
                                  refine st_iload oL_law_814 rfl ?_
                                  refine st_i2l oL_law_816 ?_
                                  refine st_lcmp oL_law_817 ?_
                                  refine st_if oL_law_818 (fun g => ?_) (fun g => ?_)
                                  · have h := h.1 g
                                    exact Go.wk (L := [some (.ref l0), some (.ref l1), some (.ref l2), some (.ref l3), some (.int l4), none, none, none, none]) (And.intro (Or.inr rfl) (And.intro (Or.inr rfl) (And.intro (Or.inr rfl) (And.intro (Or.inr rfl) (And.intro (Or.inr rfl) (And.intro (Or.inl rfl) (And.intro (Or.inl rfl) (And.intro (Or.inr rfl) (And.intro (Or.inr rfl) True.intro))))))))) h
                                  · have h := h.2 g
                                    refine st_const oL_law_821 ?_
                                    exact st_zret oL_law_822 (Or.inl rfl) h
                                · have h := h.2 g
                                  exact Go.wk (L := [some (.ref l0), some (.ref l1), some (.ref l2), some (.ref l3), some (.int l4), none, none, none, none]) (And.intro (Or.inr rfl) (And.intro (Or.inr rfl) (And.intro (Or.inr rfl) (And.intro (Or.inr rfl) (And.intro (Or.inr rfl) (And.intro (Or.inl rfl) (And.intro (Or.inl rfl) (And.intro (Or.inr rfl) (And.intro (Or.inr rfl) True.intro))))))))) h
                              · have h := h.2 g
                                refine st_const oL_law_804 ?_
                                exact st_zret oL_law_805 (Or.inl rfl) h
                            · have h := h.2 g
                              refine And.intro (fun g => ?_) (fun g => ?_)
                              · have h := h.1 g
                                refine st_aload oL_law_826 rfl ?_
                                refine st_aload oL_law_827 rfl ?_
                                refine st_iload oL_law_828 rfl ?_
                                refine st_const oL_law_830 ?_
                                refine st_ibin oL_law_831 ?_
                                obtain ⟨n46, hK, hi, h⟩ := h
                                refine st_sald oL_law_832 hK hi ?_
                                refine st_aload oL_law_833 rfl ?_
                                refine st_iload oL_law_834 rfl ?_
                                refine st_const oL_law_836 ?_
                                refine st_ibin oL_law_837 ?_
                                obtain ⟨n45, hK, hi, h⟩ := h
                                refine st_sald oL_law_838 hK hi ?_
                                obtain ⟨hK, h⟩ := h
                                refine st_callV0_iK [.int (pI M l0 (Int32.toNatClampNeg (l4 + 1))), .int (pI M l0 (Int32.toNatClampNeg (l4 + 2)))] oL_law_839 rfl rfl hK (ps8 rfl) (pCall_i.mono h (fun v38 M38 h => ?_))
                                refine st_aload oL_law_842 rfl ?_
                                refine st_aload oL_law_843 rfl ?_
                                refine st_iload oL_law_844 rfl ?_
                                refine st_const oL_law_846 ?_
                                refine st_ibin oL_law_847 ?_
                                obtain ⟨n44, hK, hi, h⟩ := h
                                refine st_sald oL_law_848 hK hi ?_
                                refine st_aload oL_law_849 rfl ?_
                                refine st_iload oL_law_850 rfl ?_
                                refine st_const oL_law_852 ?_
                                refine st_ibin oL_law_853 ?_
                                obtain ⟨n43, hK, hi, h⟩ := h
                                refine st_sald oL_law_854 hK hi ?_
                                obtain ⟨hK, h⟩ := h
                                refine st_callV0_iK [.int (pI (keepM M M38) l0 (Int32.toNatClampNeg (l4 + 1))), .int (pI (keepM M M38) l0 (Int32.toNatClampNeg (l4 + 2)))] oL_law_855 rfl rfl hK (ps8 rfl) (pCall_i.mono h (fun v39 M39 h => ?_))
                                refine st_icmp oL_law_858 (fun g => ?_) (fun g => ?_)
                                · have h := h.1 g
                                  exact h
                                · have h := h.2 g
                                  refine st_const oL_law_861 ?_
                                  exact st_zret oL_law_862 (Or.inl rfl) h
                              · have h := h.2 g
                                refine And.intro (fun g => ?_) (fun g => ?_)
                                · have h := h.1 g
                                  refine st_aload oL_law_863 rfl ?_
                                  obtain ⟨hK, h⟩ := h
                                  refine st_callV0_iK [] oL_law_864 rfl rfl hK (ps8 rfl) (pCall_i.mono h (fun v40 M40 h => ?_))
                                  refine st_aload oL_law_867 rfl ?_
                                  obtain ⟨hK, h⟩ := h
                                  refine st_callV0_iK [] oL_law_868 rfl rfl hK (ps8 rfl) (pCall_i.mono h (fun v41 M41 h => ?_))
                                  refine st_icmp oL_law_871 (fun g => ?_) (fun g => ?_)
                                  · have h := h.1 g
                                    exact h
                                  · have h := h.2 g
                                    refine st_const oL_law_874 ?_
                                    exact st_zret oL_law_875 (Or.inl rfl) h
                                · have h := h.2 g
                                  refine And.intro (fun g => ?_) (fun g => ?_)
                                  · have h := h.1 g
                                    refine st_aload oL_law_876 rfl ?_
                                    refine st_aload oL_law_877 rfl ?_
                                    refine st_iload oL_law_878 rfl ?_
                                    refine st_const oL_law_880 ?_
                                    refine st_ibin oL_law_881 ?_
                                    obtain ⟨n49, hK, hi, h⟩ := h
                                    refine st_sald oL_law_882 hK hi ?_
                                    refine st_aload oL_law_883 rfl ?_
                                    obtain ⟨rs13, h1, h2, h⟩ := h
                                    refine st_callS_iK [.ref l1, .int (pI M l0 (Int32.toNatClampNeg (l4 + 1))), .ref l3] oL_law_884 rfl rfl (ps8 rfl) h1 h2 (pCall_i.mono h (fun v42 M42 h => ?_))
                                    refine st_istore (L2 := [some (.ref l0), some (.ref l1), some (.ref l2), some (.ref l3), some (.int l4), some (.int v42), none, none, none]) oL_law_887 (by decide) rfl rfl ?_
                                    refine st_aload oL_law_889 rfl ?_
                                    refine st_aload oL_law_890 rfl ?_
                                    refine st_iload oL_law_891 rfl ?_
                                    refine st_const oL_law_893 ?_
                                    refine st_ibin oL_law_894 ?_
                                    obtain ⟨n48, hK, hi, h⟩ := h
                                    refine st_sald oL_law_895 hK hi ?_
                                    obtain ⟨hK, h⟩ := h
                                    refine st_callV0_iK [.int (pI (keepM M M42) l0 (Int32.toNatClampNeg (l4 + 1)))] oL_law_896 rfl rfl hK (ps8 rfl) (pCall_i.mono h (fun v43 M43 h => ?_))
                                    refine st_istore (L2 := [some (.ref l0), some (.ref l1), some (.ref l2), some (.ref l3), some (.int l4), some (.int v42), some (.int v43), none, none]) oL_law_899 (by decide) rfl rfl ?_
                                    refine st_aload oL_law_901 rfl ?_
                                    obtain ⟨hK, h⟩ := h
                                    refine st_callV0_iK [] oL_law_902 rfl rfl hK (ps8 rfl) (pCall_i.mono h (fun v44 M44 h => ?_))
                                    refine st_iload oL_law_905 rfl ?_
                                    refine st_icmp oL_law_907 (fun g => ?_) (fun g => ?_)
                                    · have h := h.1 g
                                      refine st_iload oL_law_912 rfl ?_
                                      refine st_if oL_law_914 (fun g => ?_) (fun g => ?_)
                                      · have h := h.1 g
                                        refine st_aload oL_law_917 rfl ?_
                                        refine st_const oL_law_918 ?_
                                        obtain ⟨n47, hK, hi, h⟩ := h
                                        refine st_lald oL_law_919 hK hi ?_
                                        refine st_iload oL_law_920 rfl ?_
                                        refine st_i2l oL_law_922 ?_
                                        refine st_lcmp oL_law_923 ?_
                                        refine st_if oL_law_924 (fun g => ?_) (fun g => ?_)
                                        · have h := h.1 g
                                          exact Go.wk (L := [some (.ref l0), some (.ref l1), some (.ref l2), some (.ref l3), some (.int l4), none, none, none, none]) (And.intro (Or.inr rfl) (And.intro (Or.inr rfl) (And.intro (Or.inr rfl) (And.intro (Or.inr rfl) (And.intro (Or.inr rfl) (And.intro (Or.inl rfl) (And.intro (Or.inl rfl) (And.intro (Or.inr rfl) (And.intro (Or.inr rfl) True.intro))))))))) h
                                        · have h := h.2 g
                                          refine st_const oL_law_927 ?_
                                          exact st_zret oL_law_928 (Or.inl rfl) h
                                      · have h := h.2 g
                                        exact Go.wk (L := [some (.ref l0), some (.ref l1), some (.ref l2), some (.ref l3), some (.int l4), none, none, none, none]) (And.intro (Or.inr rfl) (And.intro (Or.inr rfl) (And.intro (Or.inr rfl) (And.intro (Or.inr rfl) (And.intro (Or.inr rfl) (And.intro (Or.inl rfl) (And.intro (Or.inl rfl) (And.intro (Or.inr rfl) (And.intro (Or.inr rfl) True.intro))))))))) h
                                    · have h := h.2 g
                                      refine st_const oL_law_910 ?_
                                      exact st_zret oL_law_911 (Or.inl rfl) h
                                  · have h := h.2 g
                                    refine And.intro (fun g => ?_) (fun g => ?_)
                                    · have h := h.1 g
                                      refine st_aload oL_law_932 rfl ?_
                                      refine st_aload oL_law_933 rfl ?_
                                      refine st_iload oL_law_934 rfl ?_
                                      refine st_const oL_law_936 ?_
                                      refine st_ibin oL_law_937 ?_
                                      obtain ⟨n52, hK, hi, h⟩ := h
                                      refine st_sald oL_law_938 hK hi ?_
                                      refine st_aload oL_law_939 rfl ?_
                                      obtain ⟨rs14, h1, h2, h⟩ := h
                                      refine st_callS_iK [.ref l1, .int (pI M l0 (Int32.toNatClampNeg (l4 + 1))), .ref l3] oL_law_940 rfl rfl (ps8 rfl) h1 h2 (pCall_i.mono h (fun v45 M45 h => ?_))
                                      refine st_istore (L2 := [some (.ref l0), some (.ref l1), some (.ref l2), some (.ref l3), some (.int l4), some (.int v45), none, none, none]) oL_law_943 (by decide) rfl rfl ?_
                                      refine st_aload oL_law_945 rfl ?_
                                      refine st_aload oL_law_946 rfl ?_
                                      refine st_iload oL_law_947 rfl ?_
                                      refine st_const oL_law_949 ?_
                                      refine st_ibin oL_law_950 ?_
                                      obtain ⟨n51, hK, hi, h⟩ := h
                                      refine st_sald oL_law_951 hK hi ?_
                                      obtain ⟨hK, h⟩ := h
                                      refine st_callV0_iK [.int (pI (keepM M M45) l0 (Int32.toNatClampNeg (l4 + 1)))] oL_law_952 rfl rfl hK (ps8 rfl) (pCall_i.mono h (fun v46 M46 h => ?_))
                                      refine st_istore (L2 := [some (.ref l0), some (.ref l1), some (.ref l2), some (.ref l3), some (.int l4), some (.int v45), some (.int v46), none, none]) oL_law_955 (by decide) rfl rfl ?_
                                      refine st_aload oL_law_957 rfl ?_
                                      obtain ⟨hK, h⟩ := h
                                      refine st_callV0_iK [] oL_law_958 rfl rfl hK (ps8 rfl) (pCall_i.mono h (fun v47 M47 h => ?_))
                                      refine st_iload oL_law_961 rfl ?_
                                      refine st_icmp oL_law_963 (fun g => ?_) (fun g => ?_)
                                      · have h := h.1 g
                                        refine st_iload oL_law_968 rfl ?_
                                        refine st_if oL_law_970 (fun g => ?_) (fun g => ?_)
                                        · have h := h.1 g
                                          refine st_aload oL_law_973 rfl ?_
                                          refine st_const oL_law_974 ?_
                                          obtain ⟨n50, hK, hi, h⟩ := h
                                          refine st_lald oL_law_975 hK hi ?_
                                          refine st_iload oL_law_976 rfl ?_
                                          refine st_i2l oL_law_978 ?_
                                          refine st_lcmp oL_law_979 ?_
                                          refine st_if oL_law_980 (fun g => ?_) (fun g => ?_)
                                          · have h := h.1 g
                                            exact Go.wk (L := [some (.ref l0), some (.ref l1), some (.ref l2), some (.ref l3), some (.int l4), none, none, none, none]) (And.intro (Or.inr rfl) (And.intro (Or.inr rfl) (And.intro (Or.inr rfl) (And.intro (Or.inr rfl) (And.intro (Or.inr rfl) (And.intro (Or.inl rfl) (And.intro (Or.inl rfl) (And.intro (Or.inr rfl) (And.intro (Or.inr rfl) True.intro))))))))) h
                                          · have h := h.2 g
                                            refine st_const oL_law_983 ?_
                                            exact st_zret oL_law_984 (Or.inl rfl) h
                                        · have h := h.2 g
                                          exact Go.wk (L := [some (.ref l0), some (.ref l1), some (.ref l2), some (.ref l3), some (.int l4), none, none, none, none]) (And.intro (Or.inr rfl) (And.intro (Or.inr rfl) (And.intro (Or.inr rfl) (And.intro (Or.inr rfl) (And.intro (Or.inr rfl) (And.intro (Or.inl rfl) (And.intro (Or.inl rfl) (And.intro (Or.inr rfl) (And.intro (Or.inr rfl) True.intro))))))))) h
                                      · have h := h.2 g
                                        refine st_const oL_law_966 ?_
                                        exact st_zret oL_law_967 (Or.inl rfl) h
                                    · have h := h.2 g
                                      refine And.intro (fun g => ?_) (fun g => ?_)
                                      · have h := h.1 g
                                        refine st_aload oL_law_988 rfl ?_
                                        refine st_aload oL_law_989 rfl ?_
                                        refine st_iload oL_law_990 rfl ?_
                                        refine st_const oL_law_992 ?_
                                        refine st_ibin oL_law_993 ?_
                                        obtain ⟨n55, hK, hi, h⟩ := h
                                        refine st_sald oL_law_994 hK hi ?_
                                        refine st_aload oL_law_995 rfl ?_
                                        obtain ⟨rs15, h1, h2, h⟩ := h
                                        refine st_callS_iK [.ref l1, .int (pI M l0 (Int32.toNatClampNeg (l4 + 1))), .ref l3] oL_law_996 rfl rfl (ps8 rfl) h1 h2 (pCall_i.mono h (fun v48 M48 h => ?_))
                                        refine st_istore (L2 := [some (.ref l0), some (.ref l1), some (.ref l2), some (.ref l3), some (.int l4), some (.int v48), none, none, none]) oL_law_999 (by decide) rfl rfl ?_
                                        refine st_aload oL_law_1001 rfl ?_
                                        refine st_aload oL_law_1002 rfl ?_
                                        refine st_iload oL_law_1003 rfl ?_
                                        refine st_const oL_law_1005 ?_
                                        refine st_ibin oL_law_1006 ?_
                                        obtain ⟨n54, hK, hi, h⟩ := h
                                        refine st_sald oL_law_1007 hK hi ?_
                                        obtain ⟨hK, h⟩ := h
                                        refine st_callV0_iK [.int (pI (keepM M M48) l0 (Int32.toNatClampNeg (l4 + 1)))] oL_law_1008 rfl rfl hK (ps8 rfl) (pCall_i.mono h (fun v49 M49 h => ?_))
                                        refine st_istore (L2 := [some (.ref l0), some (.ref l1), some (.ref l2), some (.ref l3), some (.int l4), some (.int v48), some (.int v49), none, none]) oL_law_1011 (by decide) rfl rfl ?_
                                        refine st_aload oL_law_1013 rfl ?_
                                        obtain ⟨hK, h⟩ := h
                                        refine st_callV0_iK [] oL_law_1014 rfl rfl hK (ps8 rfl) (pCall_i.mono h (fun v50 M50 h => ?_))
                                        refine st_iload oL_law_1017 rfl ?_
                                        refine st_icmp oL_law_1019 (fun g => ?_) (fun g => ?_)
                                        · have h := h.1 g
                                          refine st_iload oL_law_1024 rfl ?_
                                          refine st_if oL_law_1026 (fun g => ?_) (fun g => ?_)
                                          · have h := h.1 g
                                            refine st_aload oL_law_1029 rfl ?_
                                            refine st_const oL_law_1030 ?_
                                            obtain ⟨n53, hK, hi, h⟩ := h
                                            refine st_lald oL_law_1031 hK hi ?_
                                            refine st_iload oL_law_1032 rfl ?_
                                            refine st_i2l oL_law_1034 ?_
                                            refine st_lcmp oL_law_1035 ?_
                                            refine st_if oL_law_1036 (fun g => ?_) (fun g => ?_)
                                            · have h := h.1 g
                                              exact Go.wk (L := [some (.ref l0), some (.ref l1), some (.ref l2), some (.ref l3), some (.int l4), none, none, none, none]) (And.intro (Or.inr rfl) (And.intro (Or.inr rfl) (And.intro (Or.inr rfl) (And.intro (Or.inr rfl) (And.intro (Or.inr rfl) (And.intro (Or.inl rfl) (And.intro (Or.inl rfl) (And.intro (Or.inr rfl) (And.intro (Or.inr rfl) True.intro))))))))) h
                                            · have h := h.2 g
                                              refine st_const oL_law_1039 ?_
                                              exact st_zret oL_law_1040 (Or.inl rfl) h
                                          · have h := h.2 g
                                            exact Go.wk (L := [some (.ref l0), some (.ref l1), some (.ref l2), some (.ref l3), some (.int l4), none, none, none, none]) (And.intro (Or.inr rfl) (And.intro (Or.inr rfl) (And.intro (Or.inr rfl) (And.intro (Or.inr rfl) (And.intro (Or.inr rfl) (And.intro (Or.inl rfl) (And.intro (Or.inl rfl) (And.intro (Or.inr rfl) (And.intro (Or.inr rfl) True.intro))))))))) h
                                        · have h := h.2 g
                                          refine st_const oL_law_1022 ?_
                                          exact st_zret oL_law_1023 (Or.inl rfl) h
                                      · have h := h.2 g
                                        refine And.intro (fun g => ?_) (fun g => ?_)
                                        · have h := h.1 g
                                          refine st_aload oL_law_1044 rfl ?_
                                          obtain ⟨hK, h⟩ := h
                                          refine st_callV0_dK [] oL_law_1045 rfl rfl hK (ps8 rfl) (pCall_d.mono h (fun v51 M51 h => ?_))
                                          refine st_dstore (L2 := [some (.ref l0), some (.ref l1), some (.ref l2), some (.ref l3), some (.int l4), some (.double v51), none, none, none]) oL_law_1048 (by decide) rfl rfl ?_
                                          refine st_aload oL_law_1050 rfl ?_
                                          obtain ⟨hK, h⟩ := h
                                          refine st_callV0_dK [] oL_law_1051 rfl rfl hK (ps8 rfl) (pCall_d.mono h (fun v52 M52 h => ?_))
                                          refine st_dstore (L2 := [some (.ref l0), some (.ref l1), some (.ref l2), some (.ref l3), some (.int l4), some (.double v51), none, some (.double v52), none]) oL_law_1054 (by decide) rfl rfl ?_
                                          refine st_dload oL_law_1056 rfl ?_
                                          refine st_dload oL_law_1058 rfl ?_
                                          refine st_dcmp oL_law_1060 ?_
                                          refine st_if oL_law_1061 (fun g => ?_) (fun g => ?_)
                                          · have h := h.1 g
                                            exact Go.wk (L := [some (.ref l0), some (.ref l1), some (.ref l2), some (.ref l3), some (.int l4), none, none, none, none]) (And.intro (Or.inr rfl) (And.intro (Or.inr rfl) (And.intro (Or.inr rfl) (And.intro (Or.inr rfl) (And.intro (Or.inr rfl) (And.intro (Or.inl rfl) (And.intro (Or.inr rfl) (And.intro (Or.inl rfl) (And.intro (Or.inr rfl) True.intro))))))))) h
                                          · have h := h.2 g
                                            refine st_dload oL_law_1064 rfl ?_
                                            refine st_dload oL_law_1066 rfl ?_
                                            refine st_dcmp oL_law_1068 ?_
                                            refine st_if oL_law_1069 (fun g => ?_) (fun g => ?_)
                                            · have h := h.1 g
                                              refine st_const oL_law_1080 ?_
                                              exact st_zret oL_law_1081 (Or.inl rfl) h
                                            · have h := h.2 g
                                              refine st_dload oL_law_1072 rfl ?_
                                              refine st_dload oL_law_1074 rfl ?_
                                              refine st_dcmp oL_law_1076 ?_
                                              refine st_if oL_law_1077 (fun g => ?_) (fun g => ?_)
                                              · have h := h.1 g
                                                refine st_const oL_law_1080 ?_
                                                exact st_zret oL_law_1081 (Or.inl rfl) h
                                              · have h := h.2 g
                                                exact Go.wk (L := [some (.ref l0), some (.ref l1), some (.ref l2), some (.ref l3), some (.int l4), none, none, none, none]) (And.intro (Or.inr rfl) (And.intro (Or.inr rfl) (And.intro (Or.inr rfl) (And.intro (Or.inr rfl) (And.intro (Or.inr rfl) (And.intro (Or.inl rfl) (And.intro (Or.inr rfl) (And.intro (Or.inl rfl) (And.intro (Or.inr rfl) True.intro))))))))) h
                                        · have h := h.2 g
                                          refine And.intro (fun g => ?_) (fun g => ?_)
                                          · have h := h.1 g
                                            refine st_aload oL_law_1085 rfl ?_
                                            obtain ⟨hK, h⟩ := h
                                            refine st_callV0_lK [] oL_law_1086 rfl rfl hK (ps8 rfl) (pCall_l.mono h (fun v53 M53 h => ?_))
                                            refine st_aload oL_law_1089 rfl ?_
                                            obtain ⟨hK, h⟩ := h
                                            refine st_callV0_lK [] oL_law_1090 rfl rfl hK (ps8 rfl) (pCall_l.mono h (fun v54 M54 h => ?_))
                                            refine st_lcmp oL_law_1093 ?_
                                            refine st_if oL_law_1094 (fun g => ?_) (fun g => ?_)
                                            · have h := h.1 g
                                              exact h
                                            · have h := h.2 g
                                              refine st_const oL_law_1097 ?_
                                              exact st_zret oL_law_1098 (Or.inl rfl) h
                                          · have h := h.2 g
                                            exact h
theorem kL_law_237 {d : Nat} {Q : pR → pM → Prop} {c s : Nat} {M : pM} {l0 : Nat} {l1 : Nat} {l2 : Nat} {l3 : Nat} {l4 : Int32} (h : Go d mL_law Q 1099 ([some (.ref l0), some (.ref l1), some (.ref l2), some (.ref l3), some (.int l4), none, none, none, none], [], c, s) M) : Go d mL_law Q 237 ([some (.ref l0), some (.ref l1), some (.ref l2), some (.ref l3), some (.int l4), none, none, none, none], [], c, s) M := by
  refine st_goto oL_law_237 ?_
  exact h
theorem kL_law_293 {d : Nat} {Q : pR → pM → Prop} {c s : Nat} {M : pM} {l0 : Nat} {l1 : Nat} {l2 : Nat} {l3 : Nat} {l4 : Int32} (h : Go d mL_law Q 1099 ([some (.ref l0), some (.ref l1), some (.ref l2), some (.ref l3), some (.int l4), none, none, none, none], [], c, s) M) : Go d mL_law Q 293 ([some (.ref l0), some (.ref l1), some (.ref l2), some (.ref l3), some (.int l4), none, none, none, none], [], c, s) M := by
  refine st_goto oL_law_293 ?_
  exact h
theorem kL_law_375 {d : Nat} {Q : pR → pM → Prop} {c s : Nat} {M : pM} {l0 : Nat} {l1 : Nat} {l2 : Nat} {l3 : Nat} {l4 : Int32} (h : Go d mL_law Q 1099 ([some (.ref l0), some (.ref l1), some (.ref l2), some (.ref l3), some (.int l4), none, none, none, none], [], c, s) M) : Go d mL_law Q 375 ([some (.ref l0), some (.ref l1), some (.ref l2), some (.ref l3), some (.int l4), none, none, none, none], [], c, s) M := by
  refine st_goto oL_law_375 ?_
  exact h
theorem kL_law_431 {d : Nat} {Q : pR → pM → Prop} {c s : Nat} {M : pM} {l0 : Nat} {l1 : Nat} {l2 : Nat} {l3 : Nat} {l4 : Int32} (h : Go d mL_law Q 1099 ([some (.ref l0), some (.ref l1), some (.ref l2), some (.ref l3), some (.int l4), none, none, none, none], [], c, s) M) : Go d mL_law Q 431 ([some (.ref l0), some (.ref l1), some (.ref l2), some (.ref l3), some (.int l4), none, none, none, none], [], c, s) M := by
  refine st_goto oL_law_431 ?_
  exact h
theorem kL_law_475 {d : Nat} {Q : pR → pM → Prop} {c s : Nat} {M : pM} {l0 : Nat} {l1 : Nat} {l2 : Nat} {l3 : Nat} {l4 : Int32} (h : Go d mL_law Q 1099 ([some (.ref l0), some (.ref l1), some (.ref l2), some (.ref l3), some (.int l4), none, none, none, none], [], c, s) M) : Go d mL_law Q 475 ([some (.ref l0), some (.ref l1), some (.ref l2), some (.ref l3), some (.int l4), none, none, none, none], [], c, s) M := by
  refine st_goto oL_law_475 ?_
  exact h
theorem kL_law_531 {d : Nat} {Q : pR → pM → Prop} {c s : Nat} {M : pM} {l0 : Nat} {l1 : Nat} {l2 : Nat} {l3 : Nat} {l4 : Int32} (h : Go d mL_law Q 1099 ([some (.ref l0), some (.ref l1), some (.ref l2), some (.ref l3), some (.int l4), none, none, none, none], [], c, s) M) : Go d mL_law Q 531 ([some (.ref l0), some (.ref l1), some (.ref l2), some (.ref l3), some (.int l4), none, none, none, none], [], c, s) M := by
  refine st_goto oL_law_531 ?_
  exact h
theorem kL_law_575 {d : Nat} {Q : pR → pM → Prop} {c s : Nat} {M : pM} {l0 : Nat} {l1 : Nat} {l2 : Nat} {l3 : Nat} {l4 : Int32} (h : Go d mL_law Q 1099 ([some (.ref l0), some (.ref l1), some (.ref l2), some (.ref l3), some (.int l4), none, none, none, none], [], c, s) M) : Go d mL_law Q 575 ([some (.ref l0), some (.ref l1), some (.ref l2), some (.ref l3), some (.int l4), none, none, none, none], [], c, s) M := by
  refine st_goto oL_law_575 ?_
  exact h
theorem kL_law_631 {d : Nat} {Q : pR → pM → Prop} {c s : Nat} {M : pM} {l0 : Nat} {l1 : Nat} {l2 : Nat} {l3 : Nat} {l4 : Int32} (h : Go d mL_law Q 1099 ([some (.ref l0), some (.ref l1), some (.ref l2), some (.ref l3), some (.int l4), none, none, none, none], [], c, s) M) : Go d mL_law Q 631 ([some (.ref l0), some (.ref l1), some (.ref l2), some (.ref l3), some (.int l4), none, none, none, none], [], c, s) M := by
  refine st_goto oL_law_631 ?_
  exact h
theorem kL_law_687 {d : Nat} {Q : pR → pM → Prop} {c s : Nat} {M : pM} {l0 : Nat} {l1 : Nat} {l2 : Nat} {l3 : Nat} {l4 : Int32} (h : Go d mL_law Q 1099 ([some (.ref l0), some (.ref l1), some (.ref l2), some (.ref l3), some (.int l4), none, none, none, none], [], c, s) M) : Go d mL_law Q 687 ([some (.ref l0), some (.ref l1), some (.ref l2), some (.ref l3), some (.int l4), none, none, none, none], [], c, s) M := by
  refine st_goto oL_law_687 ?_
  exact h
theorem kL_law_755 {d : Nat} {Q : pR → pM → Prop} {c s : Nat} {M : pM} {l0 : Nat} {l1 : Nat} {l2 : Nat} {l3 : Nat} {l4 : Int32} (h : Go d mL_law Q 1099 ([some (.ref l0), some (.ref l1), some (.ref l2), some (.ref l3), some (.int l4), none, none, none, none], [], c, s) M) : Go d mL_law Q 755 ([some (.ref l0), some (.ref l1), some (.ref l2), some (.ref l3), some (.int l4), none, none, none, none], [], c, s) M := by
  refine st_goto oL_law_755 ?_
  exact h
theorem kL_law_823 {d : Nat} {Q : pR → pM → Prop} {c s : Nat} {M : pM} {l0 : Nat} {l1 : Nat} {l2 : Nat} {l3 : Nat} {l4 : Int32} (h : Go d mL_law Q 1099 ([some (.ref l0), some (.ref l1), some (.ref l2), some (.ref l3), some (.int l4), none, none, none, none], [], c, s) M) : Go d mL_law Q 823 ([some (.ref l0), some (.ref l1), some (.ref l2), some (.ref l3), some (.int l4), none, none, none, none], [], c, s) M := by
  refine st_goto oL_law_823 ?_
  exact h
theorem kL_law_929 {d : Nat} {Q : pR → pM → Prop} {c s : Nat} {M : pM} {l0 : Nat} {l1 : Nat} {l2 : Nat} {l3 : Nat} {l4 : Int32} (h : Go d mL_law Q 1099 ([some (.ref l0), some (.ref l1), some (.ref l2), some (.ref l3), some (.int l4), none, none, none, none], [], c, s) M) : Go d mL_law Q 929 ([some (.ref l0), some (.ref l1), some (.ref l2), some (.ref l3), some (.int l4), none, none, none, none], [], c, s) M := by
  refine st_goto oL_law_929 ?_
  exact h
theorem kL_law_985 {d : Nat} {Q : pR → pM → Prop} {c s : Nat} {M : pM} {l0 : Nat} {l1 : Nat} {l2 : Nat} {l3 : Nat} {l4 : Int32} (h : Go d mL_law Q 1099 ([some (.ref l0), some (.ref l1), some (.ref l2), some (.ref l3), some (.int l4), none, none, none, none], [], c, s) M) : Go d mL_law Q 985 ([some (.ref l0), some (.ref l1), some (.ref l2), some (.ref l3), some (.int l4), none, none, none, none], [], c, s) M := by
  refine st_goto oL_law_985 ?_
  exact h
theorem kL_law_1041 {d : Nat} {Q : pR → pM → Prop} {c s : Nat} {M : pM} {l0 : Nat} {l1 : Nat} {l2 : Nat} {l3 : Nat} {l4 : Int32} (h : Go d mL_law Q 1099 ([some (.ref l0), some (.ref l1), some (.ref l2), some (.ref l3), some (.int l4), none, none, none, none], [], c, s) M) : Go d mL_law Q 1041 ([some (.ref l0), some (.ref l1), some (.ref l2), some (.ref l3), some (.int l4), none, none, none, none], [], c, s) M := by
  refine st_goto oL_law_1041 ?_
  exact h
theorem kL_law_1082 {d : Nat} {Q : pR → pM → Prop} {c s : Nat} {M : pM} {l0 : Nat} {l1 : Nat} {l2 : Nat} {l3 : Nat} {l4 : Int32} (h : Go d mL_law Q 1099 ([some (.ref l0), some (.ref l1), some (.ref l2), some (.ref l3), some (.int l4), none, none, none, none], [], c, s) M) : Go d mL_law Q 1082 ([some (.ref l0), some (.ref l1), some (.ref l2), some (.ref l3), some (.int l4), none, none, none, none], [], c, s) M := by
  refine st_goto oL_law_1082 ?_
  exact h
theorem kL_law_1099 {d : Nat} {Q : pR → pM → Prop} {c s : Nat} {M : pM} {l0 : Nat} {l1 : Nat} {l2 : Nat} {l3 : Nat} {l4 : Int32} (h : Go d mL_law Q 23 ([some (.ref l0), some (.ref l1), some (.ref l2), some (.ref l3), some (.int (l4 + 6)), none, none, none, none], [], c, s) M) : Go d mL_law Q 1099 ([some (.ref l0), some (.ref l1), some (.ref l2), some (.ref l3), some (.int l4), none, none, none, none], [], c, s) M := by
  refine st_iinc (L2 := [some (.ref l0), some (.ref l1), some (.ref l2), some (.ref l3), some (.int (l4 + 6)), none, none, none, none]) oL_law_1099 rfl (by decide) rfl rfl ?_
  refine st_goto oL_law_1102 ?_
  exact h
