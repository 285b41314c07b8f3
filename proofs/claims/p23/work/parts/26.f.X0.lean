theorem bX0_init_0 {d : Nat} {Q : pR → pM → Prop} {c s : Nat} {M : pM} {l0 : Nat} (h : 1 ≤ c ∧ 3 ≤ s ∧ pN M < pBIG ∧ ∀ N1 : pM, N1 = (pnew M (1, 5)) → (∃ rs1 : Nat × Nat, rs1.1 ≤ (c - 1) ∧ rs1.2 ≤ (s - 3) ∧ pCall_v d mX5_init rs1 [.ref (pN M), .int 6] N1 (fun M1 => pK M1 l0 = (1, 0) ∧ ∀ N2 : pM, N2 = (psP M1 l0 0 ((pN M) + 1)) → (1 ≤ ((c - 1) - rs1.1) ∧ 3 ≤ ((s - 3) - rs1.2) ∧ pN N2 < pBIG ∧ ∀ N3 : pM, N3 = (pnew N2 (1, 5)) → (∃ rs2 : Nat × Nat, rs2.1 ≤ (((c - 1) - rs1.1) - 1) ∧ rs2.2 ≤ (((s - 3) - rs1.2) - 3) ∧ pCall_v d mX5_init rs2 [.ref (pN N2), .int 40] N3 (fun M2 => pK M2 l0 = (1, 0) ∧ ∀ N4 : pM, N4 = (psP M2 l0 1 ((pN N2) + 1)) → (1 ≤ ((((c - 1) - rs1.1) - 1) - rs2.1) ∧ 2 ≤ ((((s - 3) - rs1.2) - 3) - rs2.2) ∧ pN N4 < pBIG ∧ ∀ N5 : pM, N5 = (pnew N4 (1, 9)) → (∃ rs3 : Nat × Nat, rs3.1 ≤ (((((c - 1) - rs1.1) - 1) - rs2.1) - 1) ∧ rs3.2 ≤ (((((s - 3) - rs1.2) - 3) - rs2.2) - 2) ∧ pCall_v d mX9_init rs3 [.ref (pN N4), .int 40] N5 (fun M3 => pK M3 l0 = (1, 0) ∧ ∀ N6 : pM, N6 = (psP M3 l0 2 ((pN N4) + 1)) → (1 ≤ ((((((c - 1) - rs1.1) - 1) - rs2.1) - 1) - rs3.1) ∧ 2 ≤ ((((((s - 3) - rs1.2) - 3) - rs2.2) - 2) - rs3.2) ∧ pN N6 < pBIG ∧ ∀ N7 : pM, N7 = (pnew N6 (1, 9)) → (∃ rs4 : Nat × Nat, rs4.1 ≤ (((((((c - 1) - rs1.1) - 1) - rs2.1) - 1) - rs3.1) - 1) ∧ rs4.2 ≤ (((((((s - 3) - rs1.2) - 3) - rs2.2) - 2) - rs3.2) - 2) ∧ pCall_v d mX9_init rs4 [.ref (pN N6), .int 40] N7 (fun M4 => pK M4 l0 = (1, 0) ∧ ∀ N8 : pM, N8 = (psP M4 l0 3 ((pN N6) + 1)) → (1 ≤ ((((((((c - 1) - rs1.1) - 1) - rs2.1) - 1) - rs3.1) - 1) - rs4.1) ∧ 3 ≤ ((((((((s - 3) - rs1.2) - 3) - rs2.2) - 2) - rs3.2) - 2) - rs4.2) ∧ pN N8 < pBIG ∧ ∀ N9 : pM, N9 = (pnew N8 (1, 4)) → (∃ rs5 : Nat × Nat, rs5.1 ≤ (((((((((c - 1) - rs1.1) - 1) - rs2.1) - 1) - rs3.1) - 1) - rs4.1) - 1) ∧ rs5.2 ≤ (((((((((s - 3) - rs1.2) - 3) - rs2.2) - 2) - rs3.2) - 2) - rs4.2) - 3) ∧ pCall_v d mX4_init rs5 [.ref (pN N8)] N9 (fun M5 => pK M5 l0 = (1, 0) ∧ ∀ N10 : pM, N10 = (psP M5 l0 4 ((pN N8) + 1)) → (1 ≤ ((((((((((c - 1) - rs1.1) - 1) - rs2.1) - 1) - rs3.1) - 1) - rs4.1) - 1) - rs5.1) ∧ 7 ≤ ((((((((((s - 3) - rs1.2) - 3) - rs2.2) - 2) - rs3.2) - 2) - rs4.2) - 3) - rs5.2) ∧ pN N10 < pBIG ∧ ∀ N11 : pM, N11 = (pnew N10 (1, 1)) → (∃ rs6 : Nat × Nat, rs6.1 ≤ (((((((((((c - 1) - rs1.1) - 1) - rs2.1) - 1) - rs3.1) - 1) - rs4.1) - 1) - rs5.1) - 1) ∧ rs6.2 ≤ (((((((((((s - 3) - rs1.2) - 3) - rs2.2) - 2) - rs3.2) - 2) - rs4.2) - 3) - rs5.2) - 7) ∧ pCall_v d mX1_init rs6 [.ref (pN N10)] N11 (fun M6 => pK M6 l0 = (1, 0) ∧ ∀ N12 : pM, N12 = (psP M6 l0 5 ((pN N10) + 1)) → (Q (.inl none) N12))))))))))))))))))) : Go d mX0_init Q 0 ([some (.ref l0)], [], c, s) M := by
  refine st_aload oX0_init_0 rfl ?_
  refine st_objinit oX0_init_1 (ps8 rfl) ?_
  refine st_aload oX0_init_4 rfl ?_
  obtain ⟨h1, h2, h3, h⟩ := h
  refine st_new oX0_init_5 h1 h2 h3 ?_
  refine st_nm (fun N1 eN1 => ?_)
  have h := h N1 eN1
  refine st_dup oX0_init_8 rfl ?_
  refine st_const oX0_init_9 ?_
  obtain ⟨rs1, h1, h2, h⟩ := h
  refine st_callI_v [.int 6] oX0_init_11 rfl rfl (ps8 rfl) h1 h2 (pCall_v.mono h (fun M1 h => ?_))
  obtain ⟨hK, h⟩ := h
  refine st_putP oX0_init_14 hK ?_
  refine st_nm (fun N2 eN2 => ?_)
  have h := h N2 eN2
  refine st_aload oX0_init_17 rfl ?_
  obtain ⟨h1, h2, h3, h⟩ := h
  refine st_new oX0_init_18 h1 h2 h3 ?_
  refine st_nm (fun N3 eN3 => ?_)
  have h := h N3 eN3
  refine st_dup oX0_init_21 rfl ?_
  refine st_const oX0_init_22 ?_
  obtain ⟨rs2, h1, h2, h⟩ := h
  refine st_callI_v [.int 40] oX0_init_24 rfl rfl (ps8 rfl) h1 h2 (pCall_v.mono h (fun M2 h => ?_))
  obtain ⟨hK, h⟩ := h
  refine st_putP oX0_init_27 hK ?_
  refine st_nm (fun N4 eN4 => ?_)
  have h := h N4 eN4
  refine st_aload oX0_init_30 rfl ?_
  obtain ⟨h1, h2, h3, h⟩ := h
  refine st_new oX0_init_31 h1 h2 h3 ?_
  refine st_nm (fun N5 eN5 => ?_)
  have h := h N5 eN5
  refine st_dup oX0_init_34 rfl ?_
  refine st_const oX0_init_35 ?_
  obtain ⟨rs3, h1, h2, h⟩ := h
  refine st_callI_v [.int 40] oX0_init_37 rfl rfl (ps8 rfl) h1 h2 (pCall_v.mono h (fun M3 h => ?_))
  obtain ⟨hK, h⟩ := h
  refine st_putP oX0_init_40 hK ?_
  refine st_nm (fun N6 eN6 => ?_)
  have h := h N6 eN6
  refine st_aload oX0_init_43 rfl ?_
  obtain ⟨h1, h2, h3, h⟩ := h
  refine st_new oX0_init_44 h1 h2 h3 ?_
  refine st_nm (fun N7 eN7 => ?_)
  have h := h N7 eN7
  refine st_dup oX0_init_47 rfl ?_
  refine st_const oX0_init_48 ?_
  obtain ⟨rs4, h1, h2, h⟩ := h
  refine st_callI_v [.int 40] oX0_init_50 rfl rfl (ps8 rfl) h1 h2 (pCall_v.mono h (fun M4 h => ?_))
  obtain ⟨hK, h⟩ := h
  refine st_putP oX0_init_53 hK ?_
  refine st_nm (fun N8 eN8 => ?_)
  have h := h N8 eN8
  refine st_aload oX0_init_56 rfl ?_
  obtain ⟨h1, h2, h3, h⟩ := h
  refine st_new oX0_init_57 h1 h2 h3 ?_
  refine st_nm (fun N9 eN9 => ?_)
  have h := h N9 eN9
  refine st_dup oX0_init_60 rfl ?_
  obtain ⟨rs5, h1, h2, h⟩ := h
  refine st_callI_v [] oX0_init_61 rfl rfl (ps8 rfl) h1 h2 (pCall_v.mono h (fun M5 h => ?_))
  obtain ⟨hK, h⟩ := h
  refine st_putP oX0_init_64 hK ?_
  refine st_nm (fun N10 eN10 => ?_)
  have h := h N10 eN10
  refine st_aload oX0_init_67 rfl ?_
  obtain ⟨h1, h2, h3, h⟩ := h
  refine st_new oX0_init_68 h1 h2 h3 ?_
  refine st_nm (fun N11 eN11 => ?_)
  have h := h N11 eN11
  refine st_dup oX0_init_71 rfl ?_
  obtain ⟨rs6, h1, h2, h⟩ := h
  refine st_callI_v [] oX0_init_72 rfl rfl (ps8 rfl) h1 h2 (pCall_v.mono h (fun M6 h => ?_))
  obtain ⟨hK, h⟩ := h
  refine st_putP oX0_init_75 hK ?_
  refine st_nm (fun N12 eN12 => ?_)
  have h := h N12 eN12
  exact st_vret oX0_init_78 h
theorem bX0_clear_0 {d : Nat} {Q : pR → pM → Prop} {c s : Nat} {M : pM} {l0 : Nat} (h : pK M l0 = (1, 0) ∧ ∃ b1 : Nat, pP M l0 0 = b1 + 1 ∧ pK M b1 = (1, 5) ∧ pCall_v d mX5_clear (0, 0) [.ref b1] M (fun M1 => pK M1 l0 = (1, 0) ∧ ∃ b2 : Nat, pP M1 l0 1 = b2 + 1 ∧ pK M1 b2 = (1, 5) ∧ pCall_v d mX5_clear (0, 0) [.ref b2] M1 (fun M2 => pK M2 l0 = (1, 0) ∧ ∃ b3 : Nat, pP M2 l0 2 = b3 + 1 ∧ pK M2 b3 = (1, 9) ∧ pCall_v d mX9_clear (0, 0) [.ref b3] M2 (fun M3 => pK M3 l0 = (1, 0) ∧ ∃ b4 : Nat, pP M3 l0 3 = b4 + 1 ∧ pK M3 b4 = (1, 9) ∧ pCall_v d mX9_clear (0, 0) [.ref b4] M3 (fun M4 => pK M4 l0 = (1, 0) ∧ ∃ b5 : Nat, pP M4 l0 4 = b5 + 1 ∧ pK M4 b5 = (1, 4) ∧ pCall_v d mX4_clear (0, 0) [.ref b5] M4 (fun M5 => pK M5 l0 = (1, 0) ∧ ∃ b6 : Nat, pP M5 l0 5 = b6 + 1 ∧ pK M5 b6 = (1, 1) ∧ pCall_v d mX1_clear (0, 0) [.ref b6] M5 (fun M6 => Q (.inl none) M6))))))) : Go d mX0_clear Q 0 ([some (.ref l0)], [], c, s) M := by
  refine st_aload oX0_clear_0 rfl ?_
  obtain ⟨hK, b1, hP, h⟩ := h
  refine st_getP oX0_clear_1 hK hP ?_
  obtain ⟨hK, h⟩ := h
  refine st_callV0_v [] oX0_clear_4 rfl rfl hK (ps8 rfl) (pCall_v.mono h (fun M1 h => ?_))
  refine st_aload oX0_clear_7 rfl ?_
  obtain ⟨hK, b2, hP, h⟩ := h
  refine st_getP oX0_clear_8 hK hP ?_
  obtain ⟨hK, h⟩ := h
  refine st_callV0_v [] oX0_clear_11 rfl rfl hK (ps8 rfl) (pCall_v.mono h (fun M2 h => ?_))
  refine st_aload oX0_clear_14 rfl ?_
  obtain ⟨hK, b3, hP, h⟩ := h
  refine st_getP oX0_clear_15 hK hP ?_
  obtain ⟨hK, h⟩ := h
  refine st_callV0_v [] oX0_clear_18 rfl rfl hK (ps8 rfl) (pCall_v.mono h (fun M3 h => ?_))
  refine st_aload oX0_clear_21 rfl ?_
  obtain ⟨hK, b4, hP, h⟩ := h
  refine st_getP oX0_clear_22 hK hP ?_
  obtain ⟨hK, h⟩ := h
  refine st_callV0_v [] oX0_clear_25 rfl rfl hK (ps8 rfl) (pCall_v.mono h (fun M4 h => ?_))
  refine st_aload oX0_clear_28 rfl ?_
  obtain ⟨hK, b5, hP, h⟩ := h
  refine st_getP oX0_clear_29 hK hP ?_
  obtain ⟨hK, h⟩ := h
  refine st_callV0_v [] oX0_clear_32 rfl rfl hK (ps8 rfl) (pCall_v.mono h (fun M5 h => ?_))
  refine st_aload oX0_clear_35 rfl ?_
  obtain ⟨hK, b6, hP, h⟩ := h
  refine st_getP oX0_clear_36 hK hP ?_
  obtain ⟨hK, h⟩ := h
  refine st_callV0_v [] oX0_clear_39 rfl rfl hK (ps8 rfl) (pCall_v.mono h (fun M6 h => ?_))
  exact st_vret oX0_clear_42 h
theorem bX0_hasWord_0 {d : Nat} {Q : pR → pM → Prop} {c s : Nat} {M : pM} {l0 : Nat} {l1 : Int32} (h : ((l1 < 0 → Q (.inl (some (.int 0))) M) ∧ (¬ l1 < 0 → pK M l0 = (1, 0) ∧ ∃ b1 : Nat, pP M l0 1 = b1 + 1 ∧ pK M b1 = (1, 5) ∧ pCall_i d mX5_size (0, 0) [.ref b1] M (fun v1 M1 => ((v1 ≤ l1 → Q (.inl (some (.int 0))) M1) ∧ (¬ v1 ≤ l1 → Q (.inl (some (.int 1))) M1)))))) : Go d mX0_hasWord Q 0 ([some (.ref l0), some (.int l1)], [], c, s) M := by
  refine st_iload oX0_hasWord_0 rfl ?_
  refine st_if oX0_hasWord_1 (fun g => ?_) (fun g => ?_)
  · have h := h.1 g
    refine st_const oX0_hasWord_19 ?_
    exact st_zret oX0_hasWord_20 (Or.inl rfl) h
  · have h := h.2 g
    refine st_iload oX0_hasWord_4 rfl ?_
    refine st_aload oX0_hasWord_5 rfl ?_
    obtain ⟨hK, b1, hP, h⟩ := h
    refine st_getP oX0_hasWord_6 hK hP ?_
    obtain ⟨hK, h⟩ := h
    refine st_callV0_i [] oX0_hasWord_9 rfl rfl hK (ps8 rfl) (pCall_i.mono h (fun v1 M1 h => ?_))
    refine st_icmp oX0_hasWord_12 (fun g => ?_) (fun g => ?_)
    · have h := h.1 g
      refine st_const oX0_hasWord_19 ?_
      exact st_zret oX0_hasWord_20 (Or.inl rfl) h
    · have h := h.2 g
      refine st_const oX0_hasWord_15 ?_
      refine st_goto oX0_hasWord_16 ?_
      exact st_zret oX0_hasWord_20 (Or.inr rfl) h
theorem bX0_addWord_0 {d : Nat} {Q : pR → pM → Prop} {c s : Nat} {M : pM} {l0 : Nat} {l1 : Nat} (h : pK M l0 = (1, 0) ∧ ∃ b1 : Nat, pP M l0 2 = b1 + 1 ∧ pK M b1 = (1, 9) ∧ pCall_v d mX9_add (0, 0) [.ref b1, .int 0] M (fun M1 => pK M1 l0 = (1, 0) ∧ ∃ b2 : Nat, pP M1 l0 3 = b2 + 1 ∧ pK M1 b2 = (1, 9) ∧ pCall_v d mX9_add (0, 0) [.ref b2, .int (-1)] M1 (fun M2 => pK M2 l0 = (1, 0) ∧ ∃ b3 : Nat, pP M2 l0 1 = b3 + 1 ∧ pK M2 b3 = (1, 5) ∧ pCall_i d mX5_add (0, 0) [.ref b3, .ref l1] M2 (fun v1 M3 => Q (.inl (some (.int v1))) M3)))) : Go d mX0_addWord Q 0 ([some (.ref l0), some (.ref l1)], [], c, s) M := by
  refine st_aload oX0_addWord_0 rfl ?_
  obtain ⟨hK, b1, hP, h⟩ := h
  refine st_getP oX0_addWord_1 hK hP ?_
  refine st_const oX0_addWord_4 ?_
  obtain ⟨hK, h⟩ := h
  refine st_callV0_v [.int 0] oX0_addWord_5 rfl rfl hK (ps8 rfl) (pCall_v.mono h (fun M1 h => ?_))
  refine st_aload oX0_addWord_8 rfl ?_
  obtain ⟨hK, b2, hP, h⟩ := h
  refine st_getP oX0_addWord_9 hK hP ?_
  refine st_const oX0_addWord_12 ?_
  obtain ⟨hK, h⟩ := h
  refine st_callV0_v [.int (-1)] oX0_addWord_13 rfl rfl hK (ps8 rfl) (pCall_v.mono h (fun M2 h => ?_))
  refine st_aload oX0_addWord_16 rfl ?_
  obtain ⟨hK, b3, hP, h⟩ := h
  refine st_getP oX0_addWord_17 hK hP ?_
  refine st_aload oX0_addWord_20 rfl ?_
  obtain ⟨hK, h⟩ := h
  refine st_callV0_i [.ref l1] oX0_addWord_21 rfl rfl hK (ps8 rfl) (pCall_i.mono h (fun v1 M3 h => ?_))
  exact st_iret oX0_addWord_24 h
theorem bX0_allWeights_0 {d : Nat} {Q : pR → pM → Prop} {c s : Nat} {M : pM} {l0 : Nat} (h : Go d mX0_allWeights Q 4 ([some (.ref l0), some (.int 0), some (.int 0)], [], c, s) M) : Go d mX0_allWeights Q 0 ([some (.ref l0), none, none], [], c, s) M := by
  refine st_const oX0_allWeights_0 ?_
  refine st_istore (L2 := [some (.ref l0), some (.int 0), none]) oX0_allWeights_1 (by decide) rfl rfl ?_
  refine st_const oX0_allWeights_2 ?_
  refine st_istore (L2 := [some (.ref l0), some (.int 0), some (.int 0)]) oX0_allWeights_3 (by decide) rfl rfl ?_
  exact h
theorem bX0_allWeights_4 {d : Nat} {Q : pR → pM → Prop} {c s : Nat} {M : pM} {l0 : Nat} {l1 : Int32} {l2 : Int32} (h : pK M l0 = (1, 0) ∧ ∃ b1 : Nat, pP M l0 2 = b1 + 1 ∧ pK M b1 = (1, 9) ∧ pCall_i d mX9_size (0, 0) [.ref b1] M (fun v1 M1 => ((v1 ≤ l2 → Q (.inl (some (.int l1))) M1) ∧ (¬ v1 ≤ l2 → pK M1 l0 = (1, 0) ∧ ∃ b2 : Nat, pP M1 l0 2 = b2 + 1 ∧ pK M1 b2 = (1, 9) ∧ pCall_i d mX9_at (0, 0) [.ref b2, .int l2] M1 (fun v2 M2 => Go d mX0_allWeights Q 4 ([some (.ref l0), some (.int (l1 + v2)), some (.int (l2 + 1))], [], c, s) M2))))) : Go d mX0_allWeights Q 4 ([some (.ref l0), some (.int l1), some (.int l2)], [], c, s) M := by
  refine st_iload oX0_allWeights_4 rfl ?_
  refine st_aload oX0_allWeights_5 rfl ?_
  obtain ⟨hK, b1, hP, h⟩ := h
  refine st_getP oX0_allWeights_6 hK hP ?_
  obtain ⟨hK, h⟩ := h
  refine st_callV0_i [] oX0_allWeights_9 rfl rfl hK (ps8 rfl) (pCall_i.mono h (fun v1 M1 h => ?_))
  refine st_icmp oX0_allWeights_12 (fun g => ?_) (fun g => ?_)
  · have h := h.1 g
    refine st_iload oX0_allWeights_32 rfl ?_
    exact st_iret oX0_allWeights_33 h
  · have h := h.2 g
    refine st_iload oX0_allWeights_15 rfl ?_
    refine st_aload oX0_allWeights_16 rfl ?_
    obtain ⟨hK, b2, hP, h⟩ := h
    refine st_getP oX0_allWeights_17 hK hP ?_
    refine st_iload oX0_allWeights_20 rfl ?_
    obtain ⟨hK, h⟩ := h
    refine st_callV0_i [.int l2] oX0_allWeights_21 rfl rfl hK (ps8 rfl) (pCall_i.mono h (fun v2 M2 h => ?_))
    refine st_ibin oX0_allWeights_24 ?_
    refine st_istore (L2 := [some (.ref l0), some (.int (l1 + v2)), some (.int l2)]) oX0_allWeights_25 (by decide) rfl rfl ?_
    refine st_iinc (L2 := [some (.ref l0), some (.int (l1 + v2)), some (.int (l2 + 1))]) oX0_allWeights_26 rfl (by decide) rfl rfl ?_
    refine st_goto oX0_allWeights_29 ?_
    exact h
theorem bX0_fade_0 {d : Nat} {Q : pR → pM → Prop} {c s : Nat} {M : pM} {l0 : Nat} (h : Go d mX0_fade Q 2 ([some (.ref l0), some (.int 0), none], [], c, s) M) : Go d mX0_fade Q 0 ([some (.ref l0), none, none], [], c, s) M := by
  refine st_const oX0_fade_0 ?_
  refine st_istore (L2 := [some (.ref l0), some (.int 0), none]) oX0_fade_1 (by decide) rfl rfl ?_
  exact h
theorem bX0_fade_2 {d : Nat} {Q : pR → pM → Prop} {c s : Nat} {M : pM} {l0 : Nat} {l1 : Int32} (h : pK M l0 = (1, 0) ∧ ∃ b1 : Nat, pP M l0 2 = b1 + 1 ∧ pK M b1 = (1, 9) ∧ pCall_i d mX9_size (0, 0) [.ref b1] M (fun v1 M1 => ((v1 ≤ l1 → Q (.inl none) M1) ∧ (¬ v1 ≤ l1 → pK M1 l0 = (1, 0) ∧ ∃ b2 : Nat, pP M1 l0 2 = b2 + 1 ∧ pK M1 b2 = (1, 9) ∧ pCall_i d mX9_at (0, 0) [.ref b2, .int l1] M1 (fun v2 M2 => pK M2 l0 = (1, 0) ∧ ∃ b3 : Nat, pP M2 l0 2 = b3 + 1 ∧ pK M2 b3 = (1, 9) ∧ pCall_v d mX9_put (0, 0) [.ref b3, .int l1, .int (v2 - (v2 / 8))] M2 (fun M3 => Go d mX0_fade Q 2 ([some (.ref l0), some (.int (l1 + 1)), none], [], c, s) M3)))))) : Go d mX0_fade Q 2 ([some (.ref l0), some (.int l1), none], [], c, s) M := by
  refine st_iload oX0_fade_2 rfl ?_
  refine st_aload oX0_fade_3 rfl ?_
  obtain ⟨hK, b1, hP, h⟩ := h
  refine st_getP oX0_fade_4 hK hP ?_
  obtain ⟨hK, h⟩ := h
  refine st_callV0_i [] oX0_fade_7 rfl rfl hK (ps8 rfl) (pCall_i.mono h (fun v1 M1 h => ?_))
  refine st_icmp oX0_fade_10 (fun g => ?_) (fun g => ?_)
  · have h := h.1 g
    exact st_vret oX0_fade_42 h
  · have h := h.2 g
    refine st_aload oX0_fade_13 rfl ?_
    obtain ⟨hK, b2, hP, h⟩ := h
    refine st_getP oX0_fade_14 hK hP ?_
    refine st_iload oX0_fade_17 rfl ?_
    obtain ⟨hK, h⟩ := h
    refine st_callV0_i [.int l1] oX0_fade_18 rfl rfl hK (ps8 rfl) (pCall_i.mono h (fun v2 M2 h => ?_))
    refine st_istore (L2 := [some (.ref l0), some (.int l1), some (.int v2)]) oX0_fade_21 (by decide) rfl rfl ?_
    refine st_aload oX0_fade_22 rfl ?_
    obtain ⟨hK, b3, hP, h⟩ := h
    refine st_getP oX0_fade_23 hK hP ?_
    refine st_iload oX0_fade_26 rfl ?_
    refine st_iload oX0_fade_27 rfl ?_
    refine st_iload oX0_fade_28 rfl ?_
    refine st_const oX0_fade_29 ?_
    refine st_idiv oX0_fade_31 (by decide) ?_
    refine st_ibin oX0_fade_32 ?_
    obtain ⟨hK, h⟩ := h
    refine st_callV0_v [.int l1, .int (v2 - (v2 / 8))] oX0_fade_33 rfl rfl hK (ps8 rfl) (pCall_v.mono h (fun M3 h => ?_))
    refine st_iinc (L2 := [some (.ref l0), some (.int (l1 + 1)), some (.int v2)]) oX0_fade_36 rfl (by decide) rfl rfl ?_
    refine st_goto oX0_fade_39 ?_
    exact Go.wk (L := [some (.ref l0), some (.int (l1 + 1)), none]) (And.intro (Or.inr rfl) (And.intro (Or.inr rfl) (And.intro (Or.inl rfl) True.intro))) h
theorem bX0_wordsThatBegin_0 {d : Nat} {Q : pR → pM → Prop} {c s : Nat} {M : pM} {l0 : Nat} {l1 : Nat} (h : Go d mX0_wordsThatBegin Q 4 ([some (.ref l0), some (.ref l1), some (.int 0), some (.int 0)], [], c, s) M) : Go d mX0_wordsThatBegin Q 0 ([some (.ref l0), some (.ref l1), none, none], [], c, s) M := by
  refine st_const oX0_wordsThatBegin_0 ?_
  refine st_istore (L2 := [some (.ref l0), some (.ref l1), some (.int 0), none]) oX0_wordsThatBegin_1 (by decide) rfl rfl ?_
  refine st_const oX0_wordsThatBegin_2 ?_
  refine st_istore (L2 := [some (.ref l0), some (.ref l1), some (.int 0), some (.int 0)]) oX0_wordsThatBegin_3 (by decide) rfl rfl ?_
  exact h
theorem bX0_wordsThatBegin_4 {d : Nat} {Q : pR → pM → Prop} {c s : Nat} {M : pM} {l0 : Nat} {l1 : Nat} {l2 : Int32} {l3 : Int32} (h : pK M l0 = (1, 0) ∧ ∃ b1 : Nat, pP M l0 1 = b1 + 1 ∧ pK M b1 = (1, 5) ∧ pCall_i d mX5_size (0, 0) [.ref b1] M (fun v1 M1 => ((v1 ≤ l3 → Q (.inl (some (.int l2))) M1) ∧ (¬ v1 ≤ l3 → pK M1 l0 = (1, 0) ∧ ∃ b2 : Nat, pP M1 l0 1 = b2 + 1 ∧ pK M1 b2 = (1, 5) ∧ pCall_r d mX5_at (0, 0) [.ref b2, .int l3] M1 (fun v2 M2 => pK M2 v2 = (1, 9) ∧ pCall_i d mX9_beginsWith (0, 0) [.ref v2, .ref l1] M2 (fun v3 M3 => ((v3 = 0 → Go d mX0_wordsThatBegin Q 33 ([some (.ref l0), some (.ref l1), some (.int l2), some (.int l3)], [], c, s) M3) ∧ (¬ v3 = 0 → Go d mX0_wordsThatBegin Q 33 ([some (.ref l0), some (.ref l1), some (.int (l2 + 1)), some (.int l3)], [], c, s) M3)))))))) : Go d mX0_wordsThatBegin Q 4 ([some (.ref l0), some (.ref l1), some (.int l2), some (.int l3)], [], c, s) M := by
  refine st_iload oX0_wordsThatBegin_4 rfl ?_
  refine st_aload oX0_wordsThatBegin_5 rfl ?_
  obtain ⟨hK, b1, hP, h⟩ := h
  refine st_getP oX0_wordsThatBegin_6 hK hP ?_
  obtain ⟨hK, h⟩ := h
  refine st_callV0_i [] oX0_wordsThatBegin_9 rfl rfl hK (ps8 rfl) (pCall_i.mono h (fun v1 M1 h => ?_))
  refine st_icmp oX0_wordsThatBegin_12 (fun g => ?_) (fun g => ?_)
  · have h := h.1 g
    refine st_iload oX0_wordsThatBegin_39 rfl ?_
    exact st_iret oX0_wordsThatBegin_40 h
  · have h := h.2 g
    refine st_aload oX0_wordsThatBegin_15 rfl ?_
    obtain ⟨hK, b2, hP, h⟩ := h
    refine st_getP oX0_wordsThatBegin_16 hK hP ?_
    refine st_iload oX0_wordsThatBegin_19 rfl ?_
    obtain ⟨hK, h⟩ := h
    refine st_callV0_r [.int l3] oX0_wordsThatBegin_20 rfl rfl hK (ps8 rfl) (pCall_r.mono h (fun v2 M2 h => ?_))
    refine st_aload oX0_wordsThatBegin_23 rfl ?_
    obtain ⟨hK, h⟩ := h
    refine st_callV0_i [.ref l1] oX0_wordsThatBegin_24 rfl rfl hK (ps8 rfl) (pCall_i.mono h (fun v3 M3 h => ?_))
    refine st_if oX0_wordsThatBegin_27 (fun g => ?_) (fun g => ?_)
    · have h := h.1 g
      exact h
    · have h := h.2 g
      refine st_iinc (L2 := [some (.ref l0), some (.ref l1), some (.int (l2 + 1)), some (.int l3)]) oX0_wordsThatBegin_30 rfl (by decide) rfl rfl ?_
      exact h
theorem bX0_wordsThatBegin_33 {d : Nat} {Q : pR → pM → Prop} {c s : Nat} {M : pM} {l0 : Nat} {l1 : Nat} {l2 : Int32} {l3 : Int32} (h : Go d mX0_wordsThatBegin Q 4 ([some (.ref l0), some (.ref l1), some (.int l2), some (.int (l3 + 1))], [], c, s) M) : Go d mX0_wordsThatBegin Q 33 ([some (.ref l0), some (.ref l1), some (.int l2), some (.int l3)], [], c, s) M := by
  refine st_iinc (L2 := [some (.ref l0), some (.ref l1), some (.int l2), some (.int (l3 + 1))]) oX0_wordsThatBegin_33 rfl (by decide) rfl rfl ?_
  refine st_goto oX0_wordsThatBegin_36 ?_
  exact h
theorem bX0_weightBehind_0 {d : Nat} {Q : pR → pM → Prop} {c s : Nat} {M : pM} {l0 : Nat} {l1 : Nat} {l2 : Int32} (h : Go d mX0_weightBehind Q 5 ([some (.ref l0), some (.ref l1), some (.int l2), some (.int (-1)), some (.int 0), none], [], c, s) M) : Go d mX0_weightBehind Q 0 ([some (.ref l0), some (.ref l1), some (.int l2), none, none, none], [], c, s) M := by
  refine st_const oX0_weightBehind_0 ?_
  refine st_istore (L2 := [some (.ref l0), some (.ref l1), some (.int l2), some (.int (-1)), none, none]) oX0_weightBehind_1 (by decide) rfl rfl ?_
  refine st_const oX0_weightBehind_2 ?_
  refine st_istore (L2 := [some (.ref l0), some (.ref l1), some (.int l2), some (.int (-1)), some (.int 0), none]) oX0_weightBehind_3 (by decide) rfl rfl ?_
  exact h
theorem bX0_weightBehind_5 {d : Nat} {Q : pR → pM → Prop} {c s : Nat} {M : pM} {l0 : Nat} {l1 : Nat} {l2 : Int32} {l3 : Int32} {l4 : Int32} (h : pK M l0 = (1, 0) ∧ ∃ b1 : Nat, pP M l0 1 = b1 + 1 ∧ pK M b1 = (1, 5) ∧ pCall_i d mX5_size (0, 0) [.ref b1] M (fun v1 M1 => ((v1 ≤ l4 → Q (.inl (some (.int l3))) M1) ∧ (¬ v1 ≤ l4 → pK M1 l0 = (1, 0) ∧ ∃ b2 : Nat, pP M1 l0 1 = b2 + 1 ∧ pK M1 b2 = (1, 5) ∧ pCall_r d mX5_at (0, 0) [.ref b2, .int l4] M1 (fun v2 M2 => pK M2 l1 = (1, 9) ∧ pCall_i d mX9_size (0, 0) [.ref l1] M2 (fun v3 M3 => pK M3 v2 = (1, 9) ∧ pCall_i d mX9_at (0, 0) [.ref v2, .int v3] M3 (fun v4 M4 => ((v4 = l2 → pK M4 v2 = (1, 9) ∧ pCall_i d mX9_beginsWith (0, 0) [.ref v2, .ref l1] M4 (fun v5 M5 => ((v5 = 0 → Go d mX0_weightBehind Q 66 ([some (.ref l0), some (.ref l1), some (.int l2), some (.int l3), some (.int l4), none], [], c, s) M5) ∧ (¬ v5 = 0 → pK M5 l0 = (1, 0) ∧ ∃ b3 : Nat, pP M5 l0 2 = b3 + 1 ∧ pK M5 b3 = (1, 9) ∧ pCall_i d mX9_at (0, 0) [.ref b3, .int l4] M5 (fun v6 M6 => Go d mX0_weightBehind Q 66 ([some (.ref l0), some (.ref l1), some (.int l2), some (.int ((if 0 < l3 then l3 else 0) + v6)), some (.int l4), none], [], c, s) M6))))) ∧ (¬ v4 = l2 → Go d mX0_weightBehind Q 66 ([some (.ref l0), some (.ref l1), some (.int l2), some (.int l3), some (.int l4), none], [], c, s) M4))))))))) : Go d mX0_weightBehind Q 5 ([some (.ref l0), some (.ref l1), some (.int l2), some (.int l3), some (.int l4), none], [], c, s) M := by
  refine st_iload oX0_weightBehind_5 rfl ?_
  refine st_aload oX0_weightBehind_7 rfl ?_
  obtain ⟨hK, b1, hP, h⟩ := h
  refine st_getP oX0_weightBehind_8 hK hP ?_
  obtain ⟨hK, h⟩ := h
  refine st_callV0_i [] oX0_weightBehind_11 rfl rfl hK (ps8 rfl) (pCall_i.mono h (fun v1 M1 h => ?_))
  refine st_icmp oX0_weightBehind_14 (fun g => ?_) (fun g => ?_)
  · have h := h.1 g
    refine st_iload oX0_weightBehind_72 rfl ?_
    exact st_iret oX0_weightBehind_73 h
  · have h := h.2 g
    refine st_aload oX0_weightBehind_17 rfl ?_
    obtain ⟨hK, b2, hP, h⟩ := h
    refine st_getP oX0_weightBehind_18 hK hP ?_
    refine st_iload oX0_weightBehind_21 rfl ?_
    obtain ⟨hK, h⟩ := h
    refine st_callV0_r [.int l4] oX0_weightBehind_23 rfl rfl hK (ps8 rfl) (pCall_r.mono h (fun v2 M2 h => ?_))
    refine st_astore (L2 := [some (.ref l0), some (.ref l1), some (.int l2), some (.int l3), some (.int l4), some (.ref v2)]) oX0_weightBehind_26 (by decide) rfl rfl ?_
    refine st_aload oX0_weightBehind_28 rfl ?_
    refine st_aload oX0_weightBehind_30 rfl ?_
    obtain ⟨hK, h⟩ := h
    refine st_callV0_i [] oX0_weightBehind_31 rfl rfl hK (ps8 rfl) (pCall_i.mono h (fun v3 M3 h => ?_))
    obtain ⟨hK, h⟩ := h
    refine st_callV0_i [.int v3] oX0_weightBehind_34 rfl rfl hK (ps8 rfl) (pCall_i.mono h (fun v4 M4 h => ?_))
    refine st_iload oX0_weightBehind_37 rfl ?_
    refine st_icmp oX0_weightBehind_38 (fun g => ?_) (fun g => ?_)
    · have h := h.1 g
      refine st_aload oX0_weightBehind_41 rfl ?_
      refine st_aload oX0_weightBehind_43 rfl ?_
      obtain ⟨hK, h⟩ := h
      refine st_callV0_i [.ref l1] oX0_weightBehind_44 rfl rfl hK (ps8 rfl) (pCall_i.mono h (fun v5 M5 h => ?_))
      refine st_if oX0_weightBehind_47 (fun g => ?_) (fun g => ?_)
      · have h := h.1 g
        exact Go.wk (L := [some (.ref l0), some (.ref l1), some (.int l2), some (.int l3), some (.int l4), none]) (And.intro (Or.inr rfl) (And.intro (Or.inr rfl) (And.intro (Or.inr rfl) (And.intro (Or.inr rfl) (And.intro (Or.inr rfl) (And.intro (Or.inl rfl) True.intro)))))) h
      · have h := h.2 g
        refine st_const oX0_weightBehind_50 ?_
        refine st_iload oX0_weightBehind_51 rfl ?_
        refine st_max oX0_weightBehind_52 (ps8 rfl) ?_
        refine st_aload oX0_weightBehind_55 rfl ?_
        obtain ⟨hK, b3, hP, h⟩ := h
        refine st_getP oX0_weightBehind_56 hK hP ?_
        refine st_iload oX0_weightBehind_59 rfl ?_
        obtain ⟨hK, h⟩ := h
        refine st_callV0_i [.int l4] oX0_weightBehind_61 rfl rfl hK (ps8 rfl) (pCall_i.mono h (fun v6 M6 h => ?_))
        refine st_ibin oX0_weightBehind_64 ?_
        refine st_istore (L2 := [some (.ref l0), some (.ref l1), some (.int l2), some (.int ((if 0 < l3 then l3 else 0) + v6)), some (.int l4), some (.ref v2)]) oX0_weightBehind_65 (by decide) rfl rfl ?_
        exact Go.wk (L := [some (.ref l0), some (.ref l1), some (.int l2), some (.int ((if 0 < l3 then l3 else 0) + v6)), some (.int l4), none]) (And.intro (Or.inr rfl) (And.intro (Or.inr rfl) (And.intro (Or.inr rfl) (And.intro (Or.inr rfl) (And.intro (Or.inr rfl) (And.intro (Or.inl rfl) True.intro)))))) h
    · have h := h.2 g
      exact Go.wk (L := [some (.ref l0), some (.ref l1), some (.int l2), some (.int l3), some (.int l4), none]) (And.intro (Or.inr rfl) (And.intro (Or.inr rfl) (And.intro (Or.inr rfl) (And.intro (Or.inr rfl) (And.intro (Or.inr rfl) (And.intro (Or.inl rfl) True.intro)))))) h
theorem bX0_weightBehind_66 {d : Nat} {Q : pR → pM → Prop} {c s : Nat} {M : pM} {l0 : Nat} {l1 : Nat} {l2 : Int32} {l3 : Int32} {l4 : Int32} (h : Go d mX0_weightBehind Q 5 ([some (.ref l0), some (.ref l1), some (.int l2), some (.int l3), some (.int (l4 + 1)), none], [], c, s) M) : Go d mX0_weightBehind Q 66 ([some (.ref l0), some (.ref l1), some (.int l2), some (.int l3), some (.int l4), none], [], c, s) M := by
  refine st_iinc (L2 := [some (.ref l0), some (.ref l1), some (.int l2), some (.int l3), some (.int (l4 + 1)), none]) oX0_weightBehind_66 rfl (by decide) rfl rfl ?_
  refine st_goto oX0_weightBehind_69 ?_
  exact h
theorem bX0_trieNodes_0 {d : Nat} {Q : pR → pM → Prop} {c s : Nat} {M : pM} {l0 : Nat} (h : Go d mX0_trieNodes Q 4 ([some (.ref l0), some (.int 1), some (.int 0), none, none], [], c, s) M) : Go d mX0_trieNodes Q 0 ([some (.ref l0), none, none, none, none], [], c, s) M := by
  refine st_const oX0_trieNodes_0 ?_
  refine st_istore (L2 := [some (.ref l0), some (.int 1), none, none, none]) oX0_trieNodes_1 (by decide) rfl rfl ?_
  refine st_const oX0_trieNodes_2 ?_
  refine st_istore (L2 := [some (.ref l0), some (.int 1), some (.int 0), none, none]) oX0_trieNodes_3 (by decide) rfl rfl ?_
  exact h
theorem bX0_trieNodes_4 {d : Nat} {Q : pR → pM → Prop} {c s : Nat} {M : pM} {l0 : Nat} {l1 : Int32} {l2 : Int32} (h : pK M l0 = (1, 0) ∧ ∃ b1 : Nat, pP M l0 1 = b1 + 1 ∧ pK M b1 = (1, 5) ∧ pCall_i d mX5_size (0, 0) [.ref b1] M (fun v1 M1 => ((v1 ≤ l2 → Q (.inl (some (.int l1))) M1) ∧ (¬ v1 ≤ l2 → Go d mX0_trieNodes Q 20 ([some (.ref l0), some (.int l1), some (.int l2), some (.int 0), some (.int 0)], [], c, s) M1)))) : Go d mX0_trieNodes Q 4 ([some (.ref l0), some (.int l1), some (.int l2), none, none], [], c, s) M := by
  refine st_iload oX0_trieNodes_4 rfl ?_
  refine st_aload oX0_trieNodes_5 rfl ?_
  obtain ⟨hK, b1, hP, h⟩ := h
  refine st_getP oX0_trieNodes_6 hK hP ?_
  obtain ⟨hK, h⟩ := h
  refine st_callV0_i [] oX0_trieNodes_9 rfl rfl hK (ps8 rfl) (pCall_i.mono h (fun v1 M1 h => ?_))
  refine st_icmp oX0_trieNodes_12 (fun g => ?_) (fun g => ?_)
  · have h := h.1 g
    refine st_iload oX0_trieNodes_79 rfl ?_
    exact st_iret oX0_trieNodes_80 h
  · have h := h.2 g
    refine st_const oX0_trieNodes_15 ?_
    refine st_istore (L2 := [some (.ref l0), some (.int l1), some (.int l2), some (.int 0), none]) oX0_trieNodes_16 (by decide) rfl rfl ?_
    refine st_const oX0_trieNodes_17 ?_
    refine st_istore (L2 := [some (.ref l0), some (.int l1), some (.int l2), some (.int 0), some (.int 0)]) oX0_trieNodes_18 (by decide) rfl rfl ?_
    exact h
theorem bX0_trieNodes_20 {d : Nat} {Q : pR → pM → Prop} {c s : Nat} {M : pM} {l0 : Nat} {l1 : Int32} {l2 : Int32} {l3 : Int32} {l4 : Int32} (h : ((l2 ≤ l4 → pK M l0 = (1, 0) ∧ ∃ b1 : Nat, pP M l0 1 = b1 + 1 ∧ pK M b1 = (1, 5) ∧ pCall_r d mX5_at (0, 0) [.ref b1, .int l2] M (fun v1 M1 => pK M1 v1 = (1, 9) ∧ pCall_i d mX9_size (0, 0) [.ref v1] M1 (fun v2 M2 => Go d mX0_trieNodes Q 4 ([some (.ref l0), some (.int (l1 + (v2 - l3))), some (.int (l2 + 1)), none, none], [], c, s) M2))) ∧ (¬ l2 ≤ l4 → pK M l0 = (1, 0) ∧ ∃ b2 : Nat, pP M l0 1 = b2 + 1 ∧ pK M b2 = (1, 5) ∧ pCall_r d mX5_at (0, 0) [.ref b2, .int l2] M (fun v3 M3 => pK M3 l0 = (1, 0) ∧ ∃ b3 : Nat, pP M3 l0 1 = b3 + 1 ∧ pK M3 b3 = (1, 5) ∧ pCall_r d mX5_at (0, 0) [.ref b3, .int l4] M3 (fun v4 M4 => pK M4 v3 = (1, 9) ∧ pCall_i d mX9_sameAhead (0, 0) [.ref v3, .ref v4] M4 (fun v5 M5 => Go d mX0_trieNodes Q 20 ([some (.ref l0), some (.int l1), some (.int l2), some (.int (if l3 < v5 then v5 else l3)), some (.int (l4 + 1))], [], c, s) M5)))))) : Go d mX0_trieNodes Q 20 ([some (.ref l0), some (.int l1), some (.int l2), some (.int l3), some (.int l4)], [], c, s) M := by
  refine st_iload oX0_trieNodes_20 rfl ?_
  refine st_iload oX0_trieNodes_22 rfl ?_
  refine st_icmp oX0_trieNodes_23 (fun g => ?_) (fun g => ?_)
  · have h := h.1 g
    refine st_iload oX0_trieNodes_57 rfl ?_
    refine st_aload oX0_trieNodes_58 rfl ?_
    obtain ⟨hK, b1, hP, h⟩ := h
    refine st_getP oX0_trieNodes_59 hK hP ?_
    refine st_iload oX0_trieNodes_62 rfl ?_
    obtain ⟨hK, h⟩ := h
    refine st_callV0_r [.int l2] oX0_trieNodes_63 rfl rfl hK (ps8 rfl) (pCall_r.mono h (fun v1 M1 h => ?_))
    obtain ⟨hK, h⟩ := h
    refine st_callV0_i [] oX0_trieNodes_66 rfl rfl hK (ps8 rfl) (pCall_i.mono h (fun v2 M2 h => ?_))
    refine st_iload oX0_trieNodes_69 rfl ?_
    refine st_ibin oX0_trieNodes_70 ?_
    refine st_ibin oX0_trieNodes_71 ?_
    refine st_istore (L2 := [some (.ref l0), some (.int (l1 + (v2 - l3))), some (.int l2), some (.int l3), some (.int l4)]) oX0_trieNodes_72 (by decide) rfl rfl ?_
    refine st_iinc (L2 := [some (.ref l0), some (.int (l1 + (v2 - l3))), some (.int (l2 + 1)), some (.int l3), some (.int l4)]) oX0_trieNodes_73 rfl (by decide) rfl rfl ?_
    refine st_goto oX0_trieNodes_76 ?_
    exact Go.wk (L := [some (.ref l0), some (.int (l1 + (v2 - l3))), some (.int (l2 + 1)), none, none]) (And.intro (Or.inr rfl) (And.intro (Or.inr rfl) (And.intro (Or.inr rfl) (And.intro (Or.inl rfl) (And.intro (Or.inl rfl) True.intro))))) h
  · have h := h.2 g
    refine st_iload oX0_trieNodes_26 rfl ?_
    refine st_aload oX0_trieNodes_27 rfl ?_
    obtain ⟨hK, b2, hP, h⟩ := h
    refine st_getP oX0_trieNodes_28 hK hP ?_
    refine st_iload oX0_trieNodes_31 rfl ?_
    obtain ⟨hK, h⟩ := h
    refine st_callV0_r [.int l2] oX0_trieNodes_32 rfl rfl hK (ps8 rfl) (pCall_r.mono h (fun v3 M3 h => ?_))
    refine st_aload oX0_trieNodes_35 rfl ?_
    obtain ⟨hK, b3, hP, h⟩ := h
    refine st_getP oX0_trieNodes_36 hK hP ?_
    refine st_iload oX0_trieNodes_39 rfl ?_
    obtain ⟨hK, h⟩ := h
    refine st_callV0_r [.int l4] oX0_trieNodes_41 rfl rfl hK (ps8 rfl) (pCall_r.mono h (fun v4 M4 h => ?_))
    obtain ⟨hK, h⟩ := h
    refine st_callV0_i [.ref v4] oX0_trieNodes_44 rfl rfl hK (ps8 rfl) (pCall_i.mono h (fun v5 M5 h => ?_))
    refine st_max oX0_trieNodes_47 (ps8 rfl) ?_
    refine st_istore (L2 := [some (.ref l0), some (.int l1), some (.int l2), some (.int (if l3 < v5 then v5 else l3)), some (.int l4)]) oX0_trieNodes_50 (by decide) rfl rfl ?_
    refine st_iinc (L2 := [some (.ref l0), some (.int l1), some (.int l2), some (.int (if l3 < v5 then v5 else l3)), some (.int (l4 + 1))]) oX0_trieNodes_51 rfl (by decide) rfl rfl ?_
    refine st_goto oX0_trieNodes_54 ?_
    exact h
