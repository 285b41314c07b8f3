theorem bX1_init_0 {d : Nat} {Q : pR → pM → Prop} {c s : Nat} {M : pM} {l0 : Nat} (h : 1 ≤ c ∧ 2 ≤ s ∧ pN M < pBIG ∧ ∀ N1 : pM, N1 = (pnew M (1, 9)) → (∃ rs1 : Nat × Nat, rs1.1 ≤ (c - 1) ∧ rs1.2 ≤ (s - 2) ∧ pCall_v d mX9_init rs1 [.ref (pN M), .int 12] N1 (fun M1 => pK M1 l0 = (1, 1) ∧ ∀ N2 : pM, N2 = (psP M1 l0 0 ((pN M) + 1)) → (1 ≤ ((c - 1) - rs1.1) ∧ 2 ≤ ((s - 2) - rs1.2) ∧ pN N2 < pBIG ∧ ∀ N3 : pM, N3 = (pnew N2 (1, 9)) → (∃ rs2 : Nat × Nat, rs2.1 ≤ (((c - 1) - rs1.1) - 1) ∧ rs2.2 ≤ (((s - 2) - rs1.2) - 2) ∧ pCall_v d mX9_init rs2 [.ref (pN N2), .int 12] N3 (fun M2 => pK M2 l0 = (1, 1) ∧ ∀ N4 : pM, N4 = (psP M2 l0 1 ((pN N2) + 1)) → (1 ≤ ((((c - 1) - rs1.1) - 1) - rs2.1) ∧ 2 ≤ ((((s - 2) - rs1.2) - 2) - rs2.2) ∧ pN N4 < pBIG ∧ ∀ N5 : pM, N5 = (pnew N4 (1, 9)) → (∃ rs3 : Nat × Nat, rs3.1 ≤ (((((c - 1) - rs1.1) - 1) - rs2.1) - 1) ∧ rs3.2 ≤ (((((s - 2) - rs1.2) - 2) - rs2.2) - 2) ∧ pCall_v d mX9_init rs3 [.ref (pN N4), .int 12] N5 (fun M3 => pK M3 l0 = (1, 1) ∧ ∀ N6 : pM, N6 = (psP M3 l0 2 ((pN N4) + 1)) → (1 ≤ ((((((c - 1) - rs1.1) - 1) - rs2.1) - 1) - rs3.1) ∧ 2 ≤ ((((((s - 2) - rs1.2) - 2) - rs2.2) - 2) - rs3.2) ∧ pN N6 < pBIG ∧ ∀ N7 : pM, N7 = (pnew N6 (1, 9)) → (∃ rs4 : Nat × Nat, rs4.1 ≤ (((((((c - 1) - rs1.1) - 1) - rs2.1) - 1) - rs3.1) - 1) ∧ rs4.2 ≤ (((((((s - 2) - rs1.2) - 2) - rs2.2) - 2) - rs3.2) - 2) ∧ pCall_v d mX9_init rs4 [.ref (pN N6), .int 12] N7 (fun M4 => pK M4 l0 = (1, 1) ∧ ∀ N8 : pM, N8 = (psP M4 l0 3 ((pN N6) + 1)) → (1 ≤ ((((((((c - 1) - rs1.1) - 1) - rs2.1) - 1) - rs3.1) - 1) - rs4.1) ∧ 2 ≤ ((((((((s - 2) - rs1.2) - 2) - rs2.2) - 2) - rs3.2) - 2) - rs4.2) ∧ pN N8 < pBIG ∧ ∀ N9 : pM, N9 = (pnew N8 (1, 9)) → (∃ rs5 : Nat × Nat, rs5.1 ≤ (((((((((c - 1) - rs1.1) - 1) - rs2.1) - 1) - rs3.1) - 1) - rs4.1) - 1) ∧ rs5.2 ≤ (((((((((s - 2) - rs1.2) - 2) - rs2.2) - 2) - rs3.2) - 2) - rs4.2) - 2) ∧ pCall_v d mX9_init rs5 [.ref (pN N8), .int 400] N9 (fun M5 => pK M5 l0 = (1, 1) ∧ ∀ N10 : pM, N10 = (psP M5 l0 4 ((pN N8) + 1)) → (1 ≤ ((((((((((c - 1) - rs1.1) - 1) - rs2.1) - 1) - rs3.1) - 1) - rs4.1) - 1) - rs5.1) ∧ 2 ≤ ((((((((((s - 2) - rs1.2) - 2) - rs2.2) - 2) - rs3.2) - 2) - rs4.2) - 2) - rs5.2) ∧ pN N10 < pBIG ∧ ∀ N11 : pM, N11 = (pnew N10 (1, 9)) → (∃ rs6 : Nat × Nat, rs6.1 ≤ (((((((((((c - 1) - rs1.1) - 1) - rs2.1) - 1) - rs3.1) - 1) - rs4.1) - 1) - rs5.1) - 1) ∧ rs6.2 ≤ (((((((((((s - 2) - rs1.2) - 2) - rs2.2) - 2) - rs3.2) - 2) - rs4.2) - 2) - rs5.2) - 2) ∧ pCall_v d mX9_init rs6 [.ref (pN N10), .int 400] N11 (fun M6 => pK M6 l0 = (1, 1) ∧ ∀ N12 : pM, N12 = (psP M6 l0 5 ((pN N10) + 1)) → (1 ≤ ((((((((((((c - 1) - rs1.1) - 1) - rs2.1) - 1) - rs3.1) - 1) - rs4.1) - 1) - rs5.1) - 1) - rs6.1) ∧ 3 ≤ ((((((((((((s - 2) - rs1.2) - 2) - rs2.2) - 2) - rs3.2) - 2) - rs4.2) - 2) - rs5.2) - 2) - rs6.2) ∧ pN N12 < pBIG ∧ ∀ N13 : pM, N13 = (pnew N12 (1, 5)) → (∃ rs7 : Nat × Nat, rs7.1 ≤ (((((((((((((c - 1) - rs1.1) - 1) - rs2.1) - 1) - rs3.1) - 1) - rs4.1) - 1) - rs5.1) - 1) - rs6.1) - 1) ∧ rs7.2 ≤ (((((((((((((s - 2) - rs1.2) - 2) - rs2.2) - 2) - rs3.2) - 2) - rs4.2) - 2) - rs5.2) - 2) - rs6.2) - 3) ∧ pCall_v d mX5_init rs7 [.ref (pN N12), .int 200] N13 (fun M7 => pK M7 l0 = (1, 1) ∧ ∀ N14 : pM, N14 = (psP M7 l0 6 ((pN N12) + 1)) → (Q (.inl none) N14)))))))))))))))))))))) : Go d mX1_init Q 0 ([some (.ref l0)], [], c, s) M := by
  refine st_aload oX1_init_0 rfl ?_
  refine st_objinit oX1_init_1 (ps8 rfl) ?_
  refine st_aload oX1_init_4 rfl ?_
  obtain ⟨h1, h2, h3, h⟩ := h
  refine st_new oX1_init_5 h1 h2 h3 ?_
  refine st_nm (fun N1 eN1 => ?_)
  have h := h N1 eN1
  refine st_dup oX1_init_8 rfl ?_
  refine st_const oX1_init_9 ?_
  obtain ⟨rs1, h1, h2, h⟩ := h
  refine st_callI_v [.int 12] oX1_init_11 rfl rfl (ps8 rfl) h1 h2 (pCall_v.mono h (fun M1 h => ?_))
  obtain ⟨hK, h⟩ := h
  refine st_putP oX1_init_14 hK ?_
  refine st_nm (fun N2 eN2 => ?_)
  have h := h N2 eN2
  refine st_aload oX1_init_17 rfl ?_
  obtain ⟨h1, h2, h3, h⟩ := h
  refine st_new oX1_init_18 h1 h2 h3 ?_
  refine st_nm (fun N3 eN3 => ?_)
  have h := h N3 eN3
  refine st_dup oX1_init_21 rfl ?_
  refine st_const oX1_init_22 ?_
  obtain ⟨rs2, h1, h2, h⟩ := h
  refine st_callI_v [.int 12] oX1_init_24 rfl rfl (ps8 rfl) h1 h2 (pCall_v.mono h (fun M2 h => ?_))
  obtain ⟨hK, h⟩ := h
  refine st_putP oX1_init_27 hK ?_
  refine st_nm (fun N4 eN4 => ?_)
  have h := h N4 eN4
  refine st_aload oX1_init_30 rfl ?_
  obtain ⟨h1, h2, h3, h⟩ := h
  refine st_new oX1_init_31 h1 h2 h3 ?_
  refine st_nm (fun N5 eN5 => ?_)
  have h := h N5 eN5
  refine st_dup oX1_init_34 rfl ?_
  refine st_const oX1_init_35 ?_
  obtain ⟨rs3, h1, h2, h⟩ := h
  refine st_callI_v [.int 12] oX1_init_37 rfl rfl (ps8 rfl) h1 h2 (pCall_v.mono h (fun M3 h => ?_))
  obtain ⟨hK, h⟩ := h
  refine st_putP oX1_init_40 hK ?_
  refine st_nm (fun N6 eN6 => ?_)
  have h := h N6 eN6
  refine st_aload oX1_init_43 rfl ?_
  obtain ⟨h1, h2, h3, h⟩ := h
  refine st_new oX1_init_44 h1 h2 h3 ?_
  refine st_nm (fun N7 eN7 => ?_)
  have h := h N7 eN7
  refine st_dup oX1_init_47 rfl ?_
  refine st_const oX1_init_48 ?_
  obtain ⟨rs4, h1, h2, h⟩ := h
  refine st_callI_v [.int 12] oX1_init_50 rfl rfl (ps8 rfl) h1 h2 (pCall_v.mono h (fun M4 h => ?_))
  obtain ⟨hK, h⟩ := h
  refine st_putP oX1_init_53 hK ?_
  refine st_nm (fun N8 eN8 => ?_)
  have h := h N8 eN8
  refine st_aload oX1_init_56 rfl ?_
  obtain ⟨h1, h2, h3, h⟩ := h
  refine st_new oX1_init_57 h1 h2 h3 ?_
  refine st_nm (fun N9 eN9 => ?_)
  have h := h N9 eN9
  refine st_dup oX1_init_60 rfl ?_
  refine st_const oX1_init_61 ?_
  obtain ⟨rs5, h1, h2, h⟩ := h
  refine st_callI_v [.int 400] oX1_init_64 rfl rfl (ps8 rfl) h1 h2 (pCall_v.mono h (fun M5 h => ?_))
  obtain ⟨hK, h⟩ := h
  refine st_putP oX1_init_67 hK ?_
  refine st_nm (fun N10 eN10 => ?_)
  have h := h N10 eN10
  refine st_aload oX1_init_70 rfl ?_
  obtain ⟨h1, h2, h3, h⟩ := h
  refine st_new oX1_init_71 h1 h2 h3 ?_
  refine st_nm (fun N11 eN11 => ?_)
  have h := h N11 eN11
  refine st_dup oX1_init_74 rfl ?_
  refine st_const oX1_init_75 ?_
  obtain ⟨rs6, h1, h2, h⟩ := h
  refine st_callI_v [.int 400] oX1_init_78 rfl rfl (ps8 rfl) h1 h2 (pCall_v.mono h (fun M6 h => ?_))
  obtain ⟨hK, h⟩ := h
  refine st_putP oX1_init_81 hK ?_
  refine st_nm (fun N12 eN12 => ?_)
  have h := h N12 eN12
  refine st_aload oX1_init_84 rfl ?_
  obtain ⟨h1, h2, h3, h⟩ := h
  refine st_new oX1_init_85 h1 h2 h3 ?_
  refine st_nm (fun N13 eN13 => ?_)
  have h := h N13 eN13
  refine st_dup oX1_init_88 rfl ?_
  refine st_const oX1_init_89 ?_
  obtain ⟨rs7, h1, h2, h⟩ := h
  refine st_callI_v [.int 200] oX1_init_92 rfl rfl (ps8 rfl) h1 h2 (pCall_v.mono h (fun M7 h => ?_))
  obtain ⟨hK, h⟩ := h
  refine st_putP oX1_init_95 hK ?_
  refine st_nm (fun N14 eN14 => ?_)
  have h := h N14 eN14
  exact st_vret oX1_init_98 h
theorem bX1_clear_0 {d : Nat} {Q : pR → pM → Prop} {c s : Nat} {M : pM} {l0 : Nat} (h : pK M l0 = (1, 1) ∧ ∃ b1 : Nat, pP M l0 0 = b1 + 1 ∧ pK M b1 = (1, 9) ∧ pCall_v d mX9_clear (0, 0) [.ref b1] M (fun M1 => pK M1 l0 = (1, 1) ∧ ∃ b2 : Nat, pP M1 l0 1 = b2 + 1 ∧ pK M1 b2 = (1, 9) ∧ pCall_v d mX9_clear (0, 0) [.ref b2] M1 (fun M2 => pK M2 l0 = (1, 1) ∧ ∃ b3 : Nat, pP M2 l0 2 = b3 + 1 ∧ pK M2 b3 = (1, 9) ∧ pCall_v d mX9_clear (0, 0) [.ref b3] M2 (fun M3 => pK M3 l0 = (1, 1) ∧ ∃ b4 : Nat, pP M3 l0 3 = b4 + 1 ∧ pK M3 b4 = (1, 9) ∧ pCall_v d mX9_clear (0, 0) [.ref b4] M3 (fun M4 => pK M4 l0 = (1, 1) ∧ ∃ b5 : Nat, pP M4 l0 4 = b5 + 1 ∧ pK M4 b5 = (1, 9) ∧ pCall_v d mX9_clear (0, 0) [.ref b5] M4 (fun M5 => pK M5 l0 = (1, 1) ∧ ∃ b6 : Nat, pP M5 l0 5 = b6 + 1 ∧ pK M5 b6 = (1, 9) ∧ pCall_v d mX9_clear (0, 0) [.ref b6] M5 (fun M6 => pK M6 l0 = (1, 1) ∧ ∃ b7 : Nat, pP M6 l0 6 = b7 + 1 ∧ pK M6 b7 = (1, 5) ∧ pCall_v d mX5_clear (0, 0) [.ref b7] M6 (fun M7 => Q (.inl none) M7)))))))) : Go d mX1_clear Q 0 ([some (.ref l0)], [], c, s) M := by
  refine st_aload oX1_clear_0 rfl ?_
  obtain ⟨hK, b1, hP, h⟩ := h
  refine st_getP oX1_clear_1 hK hP ?_
  obtain ⟨hK, h⟩ := h
  refine st_callV0_v [] oX1_clear_4 rfl rfl hK (ps8 rfl) (pCall_v.mono h (fun M1 h => ?_))
  refine st_aload oX1_clear_7 rfl ?_
  obtain ⟨hK, b2, hP, h⟩ := h
  refine st_getP oX1_clear_8 hK hP ?_
  obtain ⟨hK, h⟩ := h
  refine st_callV0_v [] oX1_clear_11 rfl rfl hK (ps8 rfl) (pCall_v.mono h (fun M2 h => ?_))
  refine st_aload oX1_clear_14 rfl ?_
  obtain ⟨hK, b3, hP, h⟩ := h
  refine st_getP oX1_clear_15 hK hP ?_
  obtain ⟨hK, h⟩ := h
  refine st_callV0_v [] oX1_clear_18 rfl rfl hK (ps8 rfl) (pCall_v.mono h (fun M3 h => ?_))
  refine st_aload oX1_clear_21 rfl ?_
  obtain ⟨hK, b4, hP, h⟩ := h
  refine st_getP oX1_clear_22 hK hP ?_
  obtain ⟨hK, h⟩ := h
  refine st_callV0_v [] oX1_clear_25 rfl rfl hK (ps8 rfl) (pCall_v.mono h (fun M4 h => ?_))
  refine st_aload oX1_clear_28 rfl ?_
  obtain ⟨hK, b5, hP, h⟩ := h
  refine st_getP oX1_clear_29 hK hP ?_
  obtain ⟨hK, h⟩ := h
  refine st_callV0_v [] oX1_clear_32 rfl rfl hK (ps8 rfl) (pCall_v.mono h (fun M5 h => ?_))
  refine st_aload oX1_clear_35 rfl ?_
  obtain ⟨hK, b6, hP, h⟩ := h
  refine st_getP oX1_clear_36 hK hP ?_
  obtain ⟨hK, h⟩ := h
  refine st_callV0_v [] oX1_clear_39 rfl rfl hK (ps8 rfl) (pCall_v.mono h (fun M6 h => ?_))
  refine st_aload oX1_clear_42 rfl ?_
  obtain ⟨hK, b7, hP, h⟩ := h
  refine st_getP oX1_clear_43 hK hP ?_
  obtain ⟨hK, h⟩ := h
  refine st_callV0_v [] oX1_clear_46 rfl rfl hK (ps8 rfl) (pCall_v.mono h (fun M7 h => ?_))
  exact st_vret oX1_clear_49 h
theorem bX1_size_0 {d : Nat} {Q : pR → pM → Prop} {c s : Nat} {M : pM} {l0 : Nat} (h : pK M l0 = (1, 1) ∧ ∃ b1 : Nat, pP M l0 0 = b1 + 1 ∧ pK M b1 = (1, 9) ∧ pCall_i d mX9_size (0, 0) [.ref b1] M (fun v1 M1 => Q (.inl (some (.int v1))) M1)) : Go d mX1_size Q 0 ([some (.ref l0)], [], c, s) M := by
  refine st_aload oX1_size_0 rfl ?_
  obtain ⟨hK, b1, hP, h⟩ := h
  refine st_getP oX1_size_1 hK hP ?_
  obtain ⟨hK, h⟩ := h
  refine st_callV0_i [] oX1_size_4 rfl rfl hK (ps8 rfl) (pCall_i.mono h (fun v1 M1 h => ?_))
  exact st_iret oX1_size_7 h
theorem bX1_startSum_0 {d : Nat} {Q : pR → pM → Prop} {c s : Nat} {M : pM} {l0 : Nat} (h : pK M l0 = (1, 1) ∧ ∃ b1 : Nat, pP M l0 1 = b1 + 1 ∧ pK M l0 = (1, 1) ∧ ∃ b2 : Nat, pP M l0 4 = b2 + 1 ∧ pK M b2 = (1, 9) ∧ pCall_i d mX9_size (0, 0) [.ref b2] M (fun v1 M1 => pK M1 b1 = (1, 9) ∧ pCall_v d mX9_add (0, 0) [.ref b1, .int v1] M1 (fun M2 => Q (.inl none) M2))) : Go d mX1_startSum Q 0 ([some (.ref l0)], [], c, s) M := by
  refine st_aload oX1_startSum_0 rfl ?_
  obtain ⟨hK, b1, hP, h⟩ := h
  refine st_getP oX1_startSum_1 hK hP ?_
  refine st_aload oX1_startSum_4 rfl ?_
  obtain ⟨hK, b2, hP, h⟩ := h
  refine st_getP oX1_startSum_5 hK hP ?_
  obtain ⟨hK, h⟩ := h
  refine st_callV0_i [] oX1_startSum_8 rfl rfl hK (ps8 rfl) (pCall_i.mono h (fun v1 M1 h => ?_))
  obtain ⟨hK, h⟩ := h
  refine st_callV0_v [.int v1] oX1_startSum_11 rfl rfl hK (ps8 rfl) (pCall_v.mono h (fun M2 h => ?_))
  exact st_vret oX1_startSum_14 h
theorem bX1_startTest_0 {d : Nat} {Q : pR → pM → Prop} {c s : Nat} {M : pM} {l0 : Nat} (h : pK M l0 = (1, 1) ∧ ∃ b1 : Nat, pP M l0 2 = b1 + 1 ∧ pK M l0 = (1, 1) ∧ ∃ b2 : Nat, pP M l0 4 = b2 + 1 ∧ pK M b2 = (1, 9) ∧ pCall_i d mX9_size (0, 0) [.ref b2] M (fun v1 M1 => pK M1 b1 = (1, 9) ∧ pCall_v d mX9_add (0, 0) [.ref b1, .int v1] M1 (fun M2 => Q (.inl none) M2))) : Go d mX1_startTest Q 0 ([some (.ref l0)], [], c, s) M := by
  refine st_aload oX1_startTest_0 rfl ?_
  obtain ⟨hK, b1, hP, h⟩ := h
  refine st_getP oX1_startTest_1 hK hP ?_
  refine st_aload oX1_startTest_4 rfl ?_
  obtain ⟨hK, b2, hP, h⟩ := h
  refine st_getP oX1_startTest_5 hK hP ?_
  obtain ⟨hK, h⟩ := h
  refine st_callV0_i [] oX1_startTest_8 rfl rfl hK (ps8 rfl) (pCall_i.mono h (fun v1 M1 h => ?_))
  obtain ⟨hK, h⟩ := h
  refine st_callV0_v [.int v1] oX1_startTest_11 rfl rfl hK (ps8 rfl) (pCall_v.mono h (fun M2 h => ?_))
  exact st_vret oX1_startTest_14 h
theorem bX1_end_0 {d : Nat} {Q : pR → pM → Prop} {c s : Nat} {M : pM} {l0 : Nat} (h : pK M l0 = (1, 1) ∧ ∃ b1 : Nat, pP M l0 3 = b1 + 1 ∧ pK M l0 = (1, 1) ∧ ∃ b2 : Nat, pP M l0 4 = b2 + 1 ∧ pK M b2 = (1, 9) ∧ pCall_i d mX9_size (0, 0) [.ref b2] M (fun v1 M1 => pK M1 b1 = (1, 9) ∧ pCall_v d mX9_add (0, 0) [.ref b1, .int v1] M1 (fun M2 => Q (.inl none) M2))) : Go d mX1_end Q 0 ([some (.ref l0)], [], c, s) M := by
  refine st_aload oX1_end_0 rfl ?_
  obtain ⟨hK, b1, hP, h⟩ := h
  refine st_getP oX1_end_1 hK hP ?_
  refine st_aload oX1_end_4 rfl ?_
  obtain ⟨hK, b2, hP, h⟩ := h
  refine st_getP oX1_end_5 hK hP ?_
  obtain ⟨hK, h⟩ := h
  refine st_callV0_i [] oX1_end_8 rfl rfl hK (ps8 rfl) (pCall_i.mono h (fun v1 M1 h => ?_))
  obtain ⟨hK, h⟩ := h
  refine st_callV0_v [.int v1] oX1_end_11 rfl rfl hK (ps8 rfl) (pCall_v.mono h (fun M2 h => ?_))
  exact st_vret oX1_end_14 h
theorem bX1_addStep_0 {d : Nat} {Q : pR → pM → Prop} {c s : Nat} {M : pM} {l0 : Nat} {l1 : Int32} {l2 : Int32} (h : pK M l0 = (1, 1) ∧ ∃ b1 : Nat, pP M l0 4 = b1 + 1 ∧ pK M b1 = (1, 9) ∧ pCall_v d mX9_add (0, 0) [.ref b1, .int l1] M (fun M1 => pK M1 l0 = (1, 1) ∧ ∃ b2 : Nat, pP M1 l0 5 = b2 + 1 ∧ pK M1 b2 = (1, 9) ∧ pCall_v d mX9_add (0, 0) [.ref b2, .int l2] M1 (fun M2 => Q (.inl none) M2))) : Go d mX1_addStep Q 0 ([some (.ref l0), some (.int l1), some (.int l2)], [], c, s) M := by
  refine st_aload oX1_addStep_0 rfl ?_
  obtain ⟨hK, b1, hP, h⟩ := h
  refine st_getP oX1_addStep_1 hK hP ?_
  refine st_iload oX1_addStep_4 rfl ?_
  obtain ⟨hK, h⟩ := h
  refine st_callV0_v [.int l1] oX1_addStep_5 rfl rfl hK (ps8 rfl) (pCall_v.mono h (fun M1 h => ?_))
  refine st_aload oX1_addStep_8 rfl ?_
  obtain ⟨hK, b2, hP, h⟩ := h
  refine st_getP oX1_addStep_9 hK hP ?_
  refine st_iload oX1_addStep_12 rfl ?_
  obtain ⟨hK, h⟩ := h
  refine st_callV0_v [.int l2] oX1_addStep_13 rfl rfl hK (ps8 rfl) (pCall_v.mono h (fun M2 h => ?_))
  exact st_vret oX1_addStep_16 h
theorem bX1_link_0 {d : Nat} {Q : pR → pM → Prop} {c s : Nat} {M : pM} {l0 : Nat} {l1 : Nat} (h : Go d mX1_link Q 2 ([some (.ref l0), some (.ref l1), some (.int 0), none], [], c, s) M) : Go d mX1_link Q 0 ([some (.ref l0), some (.ref l1), none, none], [], c, s) M := by
  refine st_const oX1_link_0 ?_
  refine st_istore (L2 := [some (.ref l0), some (.ref l1), some (.int 0), none]) oX1_link_1 (by decide) rfl rfl ?_
  exact h
theorem bX1_link_2 {d : Nat} {Q : pR → pM → Prop} {c s : Nat} {M : pM} {l0 : Nat} {l1 : Nat} {l2 : Int32} (h : pK M l0 = (1, 1) ∧ ∃ b1 : Nat, pP M l0 4 = b1 + 1 ∧ pK M b1 = (1, 9) ∧ pCall_i d mX9_size (0, 0) [.ref b1] M (fun v1 M1 => ((v1 ≤ l2 → Q (.inl none) M1) ∧ (¬ v1 ≤ l2 → pK M1 l0 = (1, 1) ∧ ∃ b2 : Nat, pP M1 l0 4 = b2 + 1 ∧ pK M1 b2 = (1, 9) ∧ pCall_i d mX9_at (0, 0) [.ref b2, .int l2] M1 (fun v2 M2 => ((v2 = 2 → Go d mX1_link Q 39 ([some (.ref l0), some (.ref l1), some (.int l2), none], [], c, s) M2) ∧ (¬ v2 = 2 → ((v2 = 12 → Go d mX1_link Q 39 ([some (.ref l0), some (.ref l1), some (.int l2), none], [], c, s) M2) ∧ (¬ v2 = 12 → ((v2 = 13 → Go d mX1_link Q 39 ([some (.ref l0), some (.ref l1), some (.int l2), none], [], c, s) M2) ∧ (¬ v2 = 13 → Go d mX1_link Q 59 ([some (.ref l0), some (.ref l1), some (.int l2), none], [], c, s) M2))))))))))) : Go d mX1_link Q 2 ([some (.ref l0), some (.ref l1), some (.int l2), none], [], c, s) M := by
  refine st_iload oX1_link_2 rfl ?_
  refine st_aload oX1_link_3 rfl ?_
  obtain ⟨hK, b1, hP, h⟩ := h
  refine st_getP oX1_link_4 hK hP ?_
  obtain ⟨hK, h⟩ := h
  refine st_callV0_i [] oX1_link_7 rfl rfl hK (ps8 rfl) (pCall_i.mono h (fun v1 M1 h => ?_))
  refine st_icmp oX1_link_10 (fun g => ?_) (fun g => ?_)
  · have h := h.1 g
    exact st_vret oX1_link_65 h
  · have h := h.2 g
    refine st_aload oX1_link_13 rfl ?_
    obtain ⟨hK, b2, hP, h⟩ := h
    refine st_getP oX1_link_14 hK hP ?_
    refine st_iload oX1_link_17 rfl ?_
    obtain ⟨hK, h⟩ := h
    refine st_callV0_i [.int l2] oX1_link_18 rfl rfl hK (ps8 rfl) (pCall_i.mono h (fun v2 M2 h => ?_))
    refine st_istore (L2 := [some (.ref l0), some (.ref l1), some (.int l2), some (.int v2)]) oX1_link_21 (by decide) rfl rfl ?_
    refine st_iload oX1_link_22 rfl ?_
    refine st_const oX1_link_23 ?_
    refine st_icmp oX1_link_24 (fun g => ?_) (fun g => ?_)
    · have h := h.1 g
      exact Go.wk (L := [some (.ref l0), some (.ref l1), some (.int l2), none]) (And.intro (Or.inr rfl) (And.intro (Or.inr rfl) (And.intro (Or.inr rfl) (And.intro (Or.inl rfl) True.intro)))) h
    · have h := h.2 g
      refine st_iload oX1_link_27 rfl ?_
      refine st_const oX1_link_28 ?_
      refine st_icmp oX1_link_30 (fun g => ?_) (fun g => ?_)
      · have h := h.1 g
        exact Go.wk (L := [some (.ref l0), some (.ref l1), some (.int l2), none]) (And.intro (Or.inr rfl) (And.intro (Or.inr rfl) (And.intro (Or.inr rfl) (And.intro (Or.inl rfl) True.intro)))) h
      · have h := h.2 g
        refine st_iload oX1_link_33 rfl ?_
        refine st_const oX1_link_34 ?_
        refine st_icmp oX1_link_36 (fun g => ?_) (fun g => ?_)
        · have h := h.1 g
          exact Go.wk (L := [some (.ref l0), some (.ref l1), some (.int l2), none]) (And.intro (Or.inr rfl) (And.intro (Or.inr rfl) (And.intro (Or.inr rfl) (And.intro (Or.inl rfl) True.intro)))) h
        · have h := h.2 g
          exact Go.wk (L := [some (.ref l0), some (.ref l1), some (.int l2), none]) (And.intro (Or.inr rfl) (And.intro (Or.inr rfl) (And.intro (Or.inr rfl) (And.intro (Or.inl rfl) True.intro)))) h
theorem bX1_link_39 {d : Nat} {Q : pR → pM → Prop} {c s : Nat} {M : pM} {l0 : Nat} {l1 : Nat} {l2 : Int32} (h : pK M l0 = (1, 1) ∧ ∃ b1 : Nat, pP M l0 5 = b1 + 1 ∧ pK M l0 = (1, 1) ∧ ∃ b2 : Nat, pP M l0 5 = b2 + 1 ∧ pK M b2 = (1, 9) ∧ pCall_i d mX9_at (0, 0) [.ref b2, .int l2] M (fun v1 M1 => pK M1 l1 = (1, 9) ∧ pCall_i d mX9_at (0, 0) [.ref l1, .int v1] M1 (fun v2 M2 => pK M2 b1 = (1, 9) ∧ pCall_v d mX9_put (0, 0) [.ref b1, .int l2, .int v2] M2 (fun M3 => Go d mX1_link Q 59 ([some (.ref l0), some (.ref l1), some (.int l2), none], [], c, s) M3)))) : Go d mX1_link Q 39 ([some (.ref l0), some (.ref l1), some (.int l2), none], [], c, s) M := by
  refine st_aload oX1_link_39 rfl ?_
  obtain ⟨hK, b1, hP, h⟩ := h
  refine st_getP oX1_link_40 hK hP ?_
  refine st_iload oX1_link_43 rfl ?_
  refine st_aload oX1_link_44 rfl ?_
  refine st_aload oX1_link_45 rfl ?_
  obtain ⟨hK, b2, hP, h⟩ := h
  refine st_getP oX1_link_46 hK hP ?_
  refine st_iload oX1_link_49 rfl ?_
  obtain ⟨hK, h⟩ := h
  refine st_callV0_i [.int l2] oX1_link_50 rfl rfl hK (ps8 rfl) (pCall_i.mono h (fun v1 M1 h => ?_))
  obtain ⟨hK, h⟩ := h
  refine st_callV0_i [.int v1] oX1_link_53 rfl rfl hK (ps8 rfl) (pCall_i.mono h (fun v2 M2 h => ?_))
  obtain ⟨hK, h⟩ := h
  refine st_callV0_v [.int l2, .int v2] oX1_link_56 rfl rfl hK (ps8 rfl) (pCall_v.mono h (fun M3 h => ?_))
  exact h
theorem bX1_link_59 {d : Nat} {Q : pR → pM → Prop} {c s : Nat} {M : pM} {l0 : Nat} {l1 : Nat} {l2 : Int32} (h : Go d mX1_link Q 2 ([some (.ref l0), some (.ref l1), some (.int (l2 + 1)), none], [], c, s) M) : Go d mX1_link Q 59 ([some (.ref l0), some (.ref l1), some (.int l2), none], [], c, s) M := by
  refine st_iinc (L2 := [some (.ref l0), some (.ref l1), some (.int (l2 + 1)), none]) oX1_link_59 rfl (by decide) rfl rfl ?_
  refine st_goto oX1_link_62 ?_
  exact h
