theorem bX6_init_0 {d : Nat} {Q : pR → pM → Prop} {c s : Nat} {M : pM} {l0 : Nat} (h : 1 ≤ c ∧ 2 ≤ s ∧ pN M < pBIG ∧ ∀ N1 : pM, N1 = (pnew M (1, 9)) → (∃ rs1 : Nat × Nat, rs1.1 ≤ (c - 1) ∧ rs1.2 ≤ (s - 2) ∧ pCall_v d mX9_init rs1 [.ref (pN M), .int 40] N1 (fun M1 => pK M1 l0 = (1, 6) ∧ ∀ N2 : pM, N2 = (psP M1 l0 0 ((pN M) + 1)) → (1 ≤ ((c - 1) - rs1.1) ∧ 2 ≤ ((s - 2) - rs1.2) ∧ pN N2 < pBIG ∧ ∀ N3 : pM, N3 = (pnew N2 (1, 9)) → (∃ rs2 : Nat × Nat, rs2.1 ≤ (((c - 1) - rs1.1) - 1) ∧ rs2.2 ≤ (((s - 2) - rs1.2) - 2) ∧ pCall_v d mX9_init rs2 [.ref (pN N2), .int 40] N3 (fun M2 => pK M2 l0 = (1, 6) ∧ ∀ N4 : pM, N4 = (psP M2 l0 1 ((pN N2) + 1)) → (1 ≤ ((((c - 1) - rs1.1) - 1) - rs2.1) ∧ 2 ≤ ((((s - 2) - rs1.2) - 2) - rs2.2) ∧ pN N4 < pBIG ∧ ∀ N5 : pM, N5 = (pnew N4 (1, 9)) → (∃ rs3 : Nat × Nat, rs3.1 ≤ (((((c - 1) - rs1.1) - 1) - rs2.1) - 1) ∧ rs3.2 ≤ (((((s - 2) - rs1.2) - 2) - rs2.2) - 2) ∧ pCall_v d mX9_init rs3 [.ref (pN N4), .int 40] N5 (fun M3 => pK M3 l0 = (1, 6) ∧ ∀ N6 : pM, N6 = (psP M3 l0 2 ((pN N4) + 1)) → (1 ≤ ((((((c - 1) - rs1.1) - 1) - rs2.1) - 1) - rs3.1) ∧ 2 ≤ ((((((s - 2) - rs1.2) - 2) - rs2.2) - 2) - rs3.2) ∧ pN N6 < pBIG ∧ ∀ N7 : pM, N7 = (pnew N6 (1, 9)) → (∃ rs4 : Nat × Nat, rs4.1 ≤ (((((((c - 1) - rs1.1) - 1) - rs2.1) - 1) - rs3.1) - 1) ∧ rs4.2 ≤ (((((((s - 2) - rs1.2) - 2) - rs2.2) - 2) - rs3.2) - 2) ∧ pCall_v d mX9_init rs4 [.ref (pN N6), .int 5] N7 (fun M4 => pK M4 l0 = (1, 6) ∧ ∀ N8 : pM, N8 = (psP M4 l0 3 ((pN N6) + 1)) → (1 ≤ ((((((((c - 1) - rs1.1) - 1) - rs2.1) - 1) - rs3.1) - 1) - rs4.1) ∧ 2 ≤ ((((((((s - 2) - rs1.2) - 2) - rs2.2) - 2) - rs3.2) - 2) - rs4.2) ∧ pN N8 < pBIG ∧ ∀ N9 : pM, N9 = (pnew N8 (1, 9)) → (∃ rs5 : Nat × Nat, rs5.1 ≤ (((((((((c - 1) - rs1.1) - 1) - rs2.1) - 1) - rs3.1) - 1) - rs4.1) - 1) ∧ rs5.2 ≤ (((((((((s - 2) - rs1.2) - 2) - rs2.2) - 2) - rs3.2) - 2) - rs4.2) - 2) ∧ pCall_v d mX9_init rs5 [.ref (pN N8), .int 11] N9 (fun M5 => pK M5 l0 = (1, 6) ∧ ∀ N10 : pM, N10 = (psP M5 l0 4 ((pN N8) + 1)) → (1 ≤ ((((((((((c - 1) - rs1.1) - 1) - rs2.1) - 1) - rs3.1) - 1) - rs4.1) - 1) - rs5.1) ∧ 1 ≤ ((((((((((s - 2) - rs1.2) - 2) - rs2.2) - 2) - rs3.2) - 2) - rs4.2) - 2) - rs5.2) ∧ pN N10 < pBIG ∧ ∀ N11 : pM, N11 = (pnew N10 (1, 8)) → (∃ rs6 : Nat × Nat, rs6.1 ≤ (((((((((((c - 1) - rs1.1) - 1) - rs2.1) - 1) - rs3.1) - 1) - rs4.1) - 1) - rs5.1) - 1) ∧ rs6.2 ≤ (((((((((((s - 2) - rs1.2) - 2) - rs2.2) - 2) - rs3.2) - 2) - rs4.2) - 2) - rs5.2) - 1) ∧ pCall_v d mX8_init rs6 [.ref (pN N10)] N11 (fun M6 => pK M6 l0 = (1, 6) ∧ ∀ N12 : pM, N12 = (psP M6 l0 5 ((pN N10) + 1)) → (pK N12 l0 = (1, 6) ∧ ∀ N13 : pM, N13 = (psI N12 l0 6 0) → (Q (.inl none) N13)))))))))))))))))))) : Go d mX6_init Q 0 ([some (.ref l0)], [], c, s) M := by
  refine st_aload oX6_init_0 rfl ?_
  refine st_objinit oX6_init_1 (ps8 rfl) ?_
  refine st_aload oX6_init_4 rfl ?_
  obtain ⟨h1, h2, h3, h⟩ := h
  refine st_new oX6_init_5 h1 h2 h3 ?_
  refine st_nm (fun N1 eN1 => ?_)
  have h := h N1 eN1
  refine st_dup oX6_init_8 rfl ?_
  refine st_const oX6_init_9 ?_
  obtain ⟨rs1, h1, h2, h⟩ := h
  refine st_callI_v [.int 40] oX6_init_11 rfl rfl (ps8 rfl) h1 h2 (pCall_v.mono h (fun M1 h => ?_))
  obtain ⟨hK, h⟩ := h
  refine st_putP oX6_init_14 hK ?_
  refine st_nm (fun N2 eN2 => ?_)
  have h := h N2 eN2
  refine st_aload oX6_init_17 rfl ?_
  obtain ⟨h1, h2, h3, h⟩ := h
  refine st_new oX6_init_18 h1 h2 h3 ?_
  refine st_nm (fun N3 eN3 => ?_)
  have h := h N3 eN3
  refine st_dup oX6_init_21 rfl ?_
  refine st_const oX6_init_22 ?_
  obtain ⟨rs2, h1, h2, h⟩ := h
  refine st_callI_v [.int 40] oX6_init_24 rfl rfl (ps8 rfl) h1 h2 (pCall_v.mono h (fun M2 h => ?_))
  obtain ⟨hK, h⟩ := h
  refine st_putP oX6_init_27 hK ?_
  refine st_nm (fun N4 eN4 => ?_)
  have h := h N4 eN4
  refine st_aload oX6_init_30 rfl ?_
  obtain ⟨h1, h2, h3, h⟩ := h
  refine st_new oX6_init_31 h1 h2 h3 ?_
  refine st_nm (fun N5 eN5 => ?_)
  have h := h N5 eN5
  refine st_dup oX6_init_34 rfl ?_
  refine st_const oX6_init_35 ?_
  obtain ⟨rs3, h1, h2, h⟩ := h
  refine st_callI_v [.int 40] oX6_init_37 rfl rfl (ps8 rfl) h1 h2 (pCall_v.mono h (fun M3 h => ?_))
  obtain ⟨hK, h⟩ := h
  refine st_putP oX6_init_40 hK ?_
  refine st_nm (fun N6 eN6 => ?_)
  have h := h N6 eN6
  refine st_aload oX6_init_43 rfl ?_
  obtain ⟨h1, h2, h3, h⟩ := h
  refine st_new oX6_init_44 h1 h2 h3 ?_
  refine st_nm (fun N7 eN7 => ?_)
  have h := h N7 eN7
  refine st_dup oX6_init_47 rfl ?_
  refine st_const oX6_init_48 ?_
  obtain ⟨rs4, h1, h2, h⟩ := h
  refine st_callI_v [.int 5] oX6_init_49 rfl rfl (ps8 rfl) h1 h2 (pCall_v.mono h (fun M4 h => ?_))
  obtain ⟨hK, h⟩ := h
  refine st_putP oX6_init_52 hK ?_
  refine st_nm (fun N8 eN8 => ?_)
  have h := h N8 eN8
  refine st_aload oX6_init_55 rfl ?_
  obtain ⟨h1, h2, h3, h⟩ := h
  refine st_new oX6_init_56 h1 h2 h3 ?_
  refine st_nm (fun N9 eN9 => ?_)
  have h := h N9 eN9
  refine st_dup oX6_init_59 rfl ?_
  refine st_const oX6_init_60 ?_
  obtain ⟨rs5, h1, h2, h⟩ := h
  refine st_callI_v [.int 11] oX6_init_62 rfl rfl (ps8 rfl) h1 h2 (pCall_v.mono h (fun M5 h => ?_))
  obtain ⟨hK, h⟩ := h
  refine st_putP oX6_init_65 hK ?_
  refine st_nm (fun N10 eN10 => ?_)
  have h := h N10 eN10
  refine st_aload oX6_init_68 rfl ?_
  obtain ⟨h1, h2, h3, h⟩ := h
  refine st_new oX6_init_69 h1 h2 h3 ?_
  refine st_nm (fun N11 eN11 => ?_)
  have h := h N11 eN11
  refine st_dup oX6_init_72 rfl ?_
  obtain ⟨rs6, h1, h2, h⟩ := h
  refine st_callI_v [] oX6_init_73 rfl rfl (ps8 rfl) h1 h2 (pCall_v.mono h (fun M6 h => ?_))
  obtain ⟨hK, h⟩ := h
  refine st_putP oX6_init_76 hK ?_
  refine st_nm (fun N12 eN12 => ?_)
  have h := h N12 eN12
  refine st_aload oX6_init_79 rfl ?_
  refine st_const oX6_init_80 ?_
  obtain ⟨hK, h⟩ := h
  refine st_putI oX6_init_81 hK ?_
  refine st_nm (fun N13 eN13 => ?_)
  have h := h N13 eN13
  exact st_vret oX6_init_84 h
theorem bX6_far_0 {d : Nat} {Q : pR → pM → Prop} {c s : Nat} {M : pM} {l0 : Nat} {l1 : Int32} (h : pK M l0 = (1, 6) ∧ ∃ b1 : Nat, pP M l0 0 = b1 + 1 ∧ pK M b1 = (1, 9) ∧ pCall_i d mX9_at (0, 0) [.ref b1, .int l1] M (fun v1 M1 => Q (.inl (some (.int v1))) M1)) : Go d mX6_far Q 0 ([some (.ref l0), some (.int l1)], [], c, s) M := by
  refine st_aload oX6_far_0 rfl ?_
  obtain ⟨hK, b1, hP, h⟩ := h
  refine st_getP oX6_far_1 hK hP ?_
  refine st_iload oX6_far_4 rfl ?_
  obtain ⟨hK, h⟩ := h
  refine st_callV0_i [.int l1] oX6_far_5 rfl rfl hK (ps8 rfl) (pCall_i.mono h (fun v1 M1 h => ?_))
  exact st_iret oX6_far_8 h
theorem bX6_score_0 {d : Nat} {Q : pR → pM → Prop} {c s : Nat} {M : pM} {l0 : Nat} {l1 : Int32} (h : pK M l0 = (1, 6) ∧ ∃ b1 : Nat, pP M l0 1 = b1 + 1 ∧ pK M b1 = (1, 9) ∧ pCall_i d mX9_at (0, 0) [.ref b1, .int l1] M (fun v1 M1 => Q (.inl (some (.int v1))) M1)) : Go d mX6_score Q 0 ([some (.ref l0), some (.int l1)], [], c, s) M := by
  refine st_aload oX6_score_0 rfl ?_
  obtain ⟨hK, b1, hP, h⟩ := h
  refine st_getP oX6_score_1 hK hP ?_
  refine st_iload oX6_score_4 rfl ?_
  obtain ⟨hK, h⟩ := h
  refine st_callV0_i [.int l1] oX6_score_5 rfl rfl hK (ps8 rfl) (pCall_i.mono h (fun v1 M1 h => ?_))
  exact st_iret oX6_score_8 h
theorem bX6_place_0 {d : Nat} {Q : pR → pM → Prop} {c s : Nat} {M : pM} {l0 : Nat} {l1 : Int32} (h : pK M l0 = (1, 6) ∧ ∃ b1 : Nat, pP M l0 2 = b1 + 1 ∧ pK M b1 = (1, 9) ∧ pCall_i d mX9_at (0, 0) [.ref b1, .int l1] M (fun v1 M1 => Q (.inl (some (.int v1))) M1)) : Go d mX6_place Q 0 ([some (.ref l0), some (.int l1)], [], c, s) M := by
  refine st_aload oX6_place_0 rfl ?_
  obtain ⟨hK, b1, hP, h⟩ := h
  refine st_getP oX6_place_1 hK hP ?_
  refine st_iload oX6_place_4 rfl ?_
  obtain ⟨hK, h⟩ := h
  refine st_callV0_i [.int l1] oX6_place_5 rfl rfl hK (ps8 rfl) (pCall_i.mono h (fun v1 M1 h => ?_))
  exact st_iret oX6_place_8 h
theorem bX6_nearWords_0 {d : Nat} {Q : pR → pM → Prop} {c s : Nat} {M : pM} {l0 : Nat} (h : pK M l0 = (1, 6) ∧ Q (.inl (some (.int (pI M l0 6)))) M) : Go d mX6_nearWords Q 0 ([some (.ref l0)], [], c, s) M := by
  refine st_aload oX6_nearWords_0 rfl ?_
  obtain ⟨hK, h⟩ := h
  refine st_getI oX6_nearWords_1 hK ?_
  exact st_iret oX6_nearWords_4 h
theorem bX6_offered_0 {d : Nat} {Q : pR → pM → Prop} {c s : Nat} {M : pM} {l0 : Nat} {l1 : Int32} (h : pK M l0 = (1, 6) ∧ ∃ b1 : Nat, pP M l0 3 = b1 + 1 ∧ pK M b1 = (1, 9) ∧ pCall_i d mX9_at (0, 0) [.ref b1, .int l1] M (fun v1 M1 => Q (.inl (some (.int v1))) M1)) : Go d mX6_offered Q 0 ([some (.ref l0), some (.int l1)], [], c, s) M := by
  refine st_aload oX6_offered_0 rfl ?_
  obtain ⟨hK, b1, hP, h⟩ := h
  refine st_getP oX6_offered_1 hK hP ?_
  refine st_iload oX6_offered_4 rfl ?_
  obtain ⟨hK, h⟩ := h
  refine st_callV0_i [.int l1] oX6_offered_5 rfl rfl hK (ps8 rfl) (pCall_i.mono h (fun v1 M1 h => ?_))
  exact st_iret oX6_offered_8 h
theorem bX6_isOffered_0 {d : Nat} {Q : pR → pM → Prop} {c s : Nat} {M : pM} {l0 : Nat} {l1 : Int32} (h : pK M l0 = (1, 6) ∧ ∃ b1 : Nat, pP M l0 2 = b1 + 1 ∧ pK M b1 = (1, 9) ∧ pCall_i d mX9_at (0, 0) [.ref b1, .int l1] M (fun v1 M1 => ((v1 < 0 → Q (.inl (some (.int 0))) M1) ∧ (¬ v1 < 0 → pK M1 l0 = (1, 6) ∧ ∃ b2 : Nat, pP M1 l0 2 = b2 + 1 ∧ pK M1 b2 = (1, 9) ∧ pCall_i d mX9_at (0, 0) [.ref b2, .int l1] M1 (fun v2 M2 => ((5 ≤ v2 → Q (.inl (some (.int 0))) M2) ∧ (¬ 5 ≤ v2 → Q (.inl (some (.int 1))) M2))))))) : Go d mX6_isOffered Q 0 ([some (.ref l0), some (.int l1)], [], c, s) M := by
  refine st_aload oX6_isOffered_0 rfl ?_
  obtain ⟨hK, b1, hP, h⟩ := h
  refine st_getP oX6_isOffered_1 hK hP ?_
  refine st_iload oX6_isOffered_4 rfl ?_
  obtain ⟨hK, h⟩ := h
  refine st_callV0_i [.int l1] oX6_isOffered_5 rfl rfl hK (ps8 rfl) (pCall_i.mono h (fun v1 M1 h => ?_))
  refine st_if oX6_isOffered_8 (fun g => ?_) (fun g => ?_)
  · have h := h.1 g
    refine st_const oX6_isOffered_27 ?_
    exact st_zret oX6_isOffered_28 (Or.inl rfl) h
  · have h := h.2 g
    refine st_aload oX6_isOffered_11 rfl ?_
    obtain ⟨hK, b2, hP, h⟩ := h
    refine st_getP oX6_isOffered_12 hK hP ?_
    refine st_iload oX6_isOffered_15 rfl ?_
    obtain ⟨hK, h⟩ := h
    refine st_callV0_i [.int l1] oX6_isOffered_16 rfl rfl hK (ps8 rfl) (pCall_i.mono h (fun v2 M2 h => ?_))
    refine st_const oX6_isOffered_19 ?_
    refine st_icmp oX6_isOffered_20 (fun g => ?_) (fun g => ?_)
    · have h := h.1 g
      refine st_const oX6_isOffered_27 ?_
      exact st_zret oX6_isOffered_28 (Or.inl rfl) h
    · have h := h.2 g
      refine st_const oX6_isOffered_23 ?_
      refine st_goto oX6_isOffered_24 ?_
      exact st_zret oX6_isOffered_28 (Or.inr rfl) h
theorem bX6_renew_0 {d : Nat} {Q : pR → pM → Prop} {c s : Nat} {M : pM} {l0 : Nat} {l1 : Nat} {l2 : Nat} (h : pK M l0 = (1, 6) ∧ ∃ b1 : Nat, pP M l0 0 = b1 + 1 ∧ pK M b1 = (1, 9) ∧ pCall_v d mX9_clear (0, 0) [.ref b1] M (fun M1 => pK M1 l0 = (1, 6) ∧ ∃ b2 : Nat, pP M1 l0 1 = b2 + 1 ∧ pK M1 b2 = (1, 9) ∧ pCall_v d mX9_clear (0, 0) [.ref b2] M1 (fun M2 => Go d mX6_renew Q 16 ([some (.ref l0), some (.ref l1), some (.ref l2), some (.int 0), none, none], [], c, s) M2))) : Go d mX6_renew Q 0 ([some (.ref l0), some (.ref l1), some (.ref l2), none, none, none], [], c, s) M := by
  refine st_aload oX6_renew_0 rfl ?_
  obtain ⟨hK, b1, hP, h⟩ := h
  refine st_getP oX6_renew_1 hK hP ?_
  obtain ⟨hK, h⟩ := h
  refine st_callV0_v [] oX6_renew_4 rfl rfl hK (ps8 rfl) (pCall_v.mono h (fun M1 h => ?_))
  refine st_aload oX6_renew_7 rfl ?_
  obtain ⟨hK, b2, hP, h⟩ := h
  refine st_getP oX6_renew_8 hK hP ?_
  obtain ⟨hK, h⟩ := h
  refine st_callV0_v [] oX6_renew_11 rfl rfl hK (ps8 rfl) (pCall_v.mono h (fun M2 h => ?_))
  refine st_const oX6_renew_14 ?_
  refine st_istore (L2 := [some (.ref l0), some (.ref l1), some (.ref l2), some (.int 0), none, none]) oX6_renew_15 (by decide) rfl rfl ?_
  exact h
theorem bX6_renew_16 {d : Nat} {Q : pR → pM → Prop} {c s : Nat} {M : pM} {l0 : Nat} {l1 : Nat} {l2 : Nat} {l3 : Int32} (h : pK M l1 = (1, 0) ∧ ∃ b1 : Nat, pP M l1 1 = b1 + 1 ∧ pK M b1 = (1, 5) ∧ pCall_i d mX5_size (0, 0) [.ref b1] M (fun v1 M1 => ((v1 ≤ l3 → pK M1 l2 = (1, 3) ∧ pK M1 l0 = (1, 6) ∧ pCall_v d mX6_placeWords (0, 0) [.ref l0, .ref l1, .int (pI M1 l2 3)] M1 (fun M2 => Q (.inl none) M2)) ∧ (¬ v1 ≤ l3 → pK M1 l2 = (1, 3) ∧ ∃ b2 : Nat, pP M1 l2 0 = b2 + 1 ∧ pK M1 l1 = (1, 0) ∧ ∃ b3 : Nat, pP M1 l1 1 = b3 + 1 ∧ pK M1 b3 = (1, 5) ∧ pCall_r d mX5_at (0, 0) [.ref b3, .int l3] M1 (fun v2 M3 => pK M3 l1 = (1, 0) ∧ ∃ b4 : Nat, pP M3 l1 4 = b4 + 1 ∧ pK M3 l0 = (1, 6) ∧ pCall_i d mX6_distance (0, 0) [.ref l0, .ref b2, .ref v2, .ref b4] M3 (fun v3 M4 => pK M4 l0 = (1, 6) ∧ ∃ b5 : Nat, pP M4 l0 5 = b5 + 1 ∧ pK M4 l1 = (1, 0) ∧ ∃ b6 : Nat, pP M4 l1 3 = b6 + 1 ∧ pK M4 b6 = (1, 9) ∧ pCall_i d mX9_at (0, 0) [.ref b6, .int l3] M4 (fun v4 M5 => pK M5 b5 = (1, 8) ∧ pCall_i d mX8_boost (0, 0) [.ref b5, .ref l1, .ref l2, .int v4, .int v3] M5 (fun v5 M6 => pK M6 l0 = (1, 6) ∧ ∃ b7 : Nat, pP M6 l0 0 = b7 + 1 ∧ pK M6 b7 = (1, 9) ∧ pCall_v d mX9_add (0, 0) [.ref b7, .int v3] M6 (fun M7 => pK M7 l0 = (1, 6) ∧ ∃ b8 : Nat, pP M7 l0 1 = b8 + 1 ∧ pK M7 l1 = (1, 0) ∧ ∃ b9 : Nat, pP M7 l1 2 = b9 + 1 ∧ pK M7 b9 = (1, 9) ∧ pCall_i d mX9_at (0, 0) [.ref b9, .int l3] M7 (fun v6 M8 => pK M8 b8 = (1, 9) ∧ pCall_v d mX9_add (0, 0) [.ref b8, .int ((v6 + v5) - (10 * v3))] M8 (fun M9 => Go d mX6_renew Q 16 ([some (.ref l0), some (.ref l1), some (.ref l2), some (.int (l3 + 1)), none, none], [], c, s) M9))))))))))) : Go d mX6_renew Q 16 ([some (.ref l0), some (.ref l1), some (.ref l2), some (.int l3), none, none], [], c, s) M := by
  refine st_iload oX6_renew_16 rfl ?_
  refine st_aload oX6_renew_17 rfl ?_
  obtain ⟨hK, b1, hP, h⟩ := h
  refine st_getP oX6_renew_18 hK hP ?_
  obtain ⟨hK, h⟩ := h
  refine st_callV0_i [] oX6_renew_21 rfl rfl hK (ps8 rfl) (pCall_i.mono h (fun v1 M1 h => ?_))
  refine st_icmp oX6_renew_24 (fun g => ?_) (fun g => ?_)
  · have h := h.1 g
    refine st_aload oX6_renew_109 rfl ?_
    refine st_aload oX6_renew_110 rfl ?_
    refine st_aload oX6_renew_111 rfl ?_
    obtain ⟨hK, h⟩ := h
    refine st_getI oX6_renew_112 hK ?_
    obtain ⟨hK, h⟩ := h
    refine st_callV0_v [.ref l1, .int (pI M1 l2 3)] oX6_renew_115 rfl rfl hK (ps8 rfl) (pCall_v.mono h (fun M2 h => ?_))
    exact st_vret oX6_renew_118 h
  · have h := h.2 g
    refine st_aload oX6_renew_27 rfl ?_
    refine st_aload oX6_renew_28 rfl ?_
    obtain ⟨hK, b2, hP, h⟩ := h
    refine st_getP oX6_renew_29 hK hP ?_
    refine st_aload oX6_renew_32 rfl ?_
    obtain ⟨hK, b3, hP, h⟩ := h
    refine st_getP oX6_renew_33 hK hP ?_
    refine st_iload oX6_renew_36 rfl ?_
    obtain ⟨hK, h⟩ := h
    refine st_callV0_r [.int l3] oX6_renew_37 rfl rfl hK (ps8 rfl) (pCall_r.mono h (fun v2 M3 h => ?_))
    refine st_aload oX6_renew_40 rfl ?_
    obtain ⟨hK, b4, hP, h⟩ := h
    refine st_getP oX6_renew_41 hK hP ?_
    obtain ⟨hK, h⟩ := h
    refine st_callV0_i [.ref b2, .ref v2, .ref b4] oX6_renew_44 rfl rfl hK (ps8 rfl) (pCall_i.mono h (fun v3 M4 h => ?_))
    refine st_istore (L2 := [some (.ref l0), some (.ref l1), some (.ref l2), some (.int l3), some (.int v3), none]) oX6_renew_47 (by decide) rfl rfl ?_
    refine st_aload oX6_renew_49 rfl ?_
    obtain ⟨hK, b5, hP, h⟩ := h
    refine st_getP oX6_renew_50 hK hP ?_
    refine st_aload oX6_renew_53 rfl ?_
    refine st_aload oX6_renew_54 rfl ?_
    refine st_aload oX6_renew_55 rfl ?_
    obtain ⟨hK, b6, hP, h⟩ := h
    refine st_getP oX6_renew_56 hK hP ?_
    refine st_iload oX6_renew_59 rfl ?_
    obtain ⟨hK, h⟩ := h
    refine st_callV0_i [.int l3] oX6_renew_60 rfl rfl hK (ps8 rfl) (pCall_i.mono h (fun v4 M5 h => ?_))
    refine st_iload oX6_renew_63 rfl ?_
    obtain ⟨hK, h⟩ := h
    refine st_callV0_i [.ref l1, .ref l2, .int v4, .int v3] oX6_renew_65 rfl rfl hK (ps8 rfl) (pCall_i.mono h (fun v5 M6 h => ?_))
    refine st_istore (L2 := [some (.ref l0), some (.ref l1), some (.ref l2), some (.int l3), some (.int v3), some (.int v5)]) oX6_renew_68 (by decide) rfl rfl ?_
    refine st_aload oX6_renew_70 rfl ?_
    obtain ⟨hK, b7, hP, h⟩ := h
    refine st_getP oX6_renew_71 hK hP ?_
    refine st_iload oX6_renew_74 rfl ?_
    obtain ⟨hK, h⟩ := h
    refine st_callV0_v [.int v3] oX6_renew_76 rfl rfl hK (ps8 rfl) (pCall_v.mono h (fun M7 h => ?_))
    refine st_aload oX6_renew_79 rfl ?_
    obtain ⟨hK, b8, hP, h⟩ := h
    refine st_getP oX6_renew_80 hK hP ?_
    refine st_aload oX6_renew_83 rfl ?_
    obtain ⟨hK, b9, hP, h⟩ := h
    refine st_getP oX6_renew_84 hK hP ?_
    refine st_iload oX6_renew_87 rfl ?_
    obtain ⟨hK, h⟩ := h
    refine st_callV0_i [.int l3] oX6_renew_88 rfl rfl hK (ps8 rfl) (pCall_i.mono h (fun v6 M8 h => ?_))
    refine st_iload oX6_renew_91 rfl ?_
    refine st_ibin oX6_renew_93 ?_
    refine st_const oX6_renew_94 ?_
    refine st_iload oX6_renew_96 rfl ?_
    refine st_ibin oX6_renew_98 ?_
    refine st_ibin oX6_renew_99 ?_
    obtain ⟨hK, h⟩ := h
    refine st_callV0_v [.int ((v6 + v5) - (10 * v3))] oX6_renew_100 rfl rfl hK (ps8 rfl) (pCall_v.mono h (fun M9 h => ?_))
    refine st_iinc (L2 := [some (.ref l0), some (.ref l1), some (.ref l2), some (.int (l3 + 1)), some (.int v3), some (.int v5)]) oX6_renew_103 rfl (by decide) rfl rfl ?_
    refine st_goto oX6_renew_106 ?_
    exact Go.wk (L := [some (.ref l0), some (.ref l1), some (.ref l2), some (.int (l3 + 1)), none, none]) (And.intro (Or.inr rfl) (And.intro (Or.inr rfl) (And.intro (Or.inr rfl) (And.intro (Or.inr rfl) (And.intro (Or.inl rfl) (And.intro (Or.inl rfl) True.intro)))))) h
theorem bX6_placeWords_0 {d : Nat} {Q : pR → pM → Prop} {c s : Nat} {M : pM} {l0 : Nat} {l1 : Nat} {l2 : Int32} (h : pK M l0 = (1, 6) ∧ ∃ b1 : Nat, pP M l0 2 = b1 + 1 ∧ pK M b1 = (1, 9) ∧ pCall_v d mX9_clear (0, 0) [.ref b1] M (fun M1 => pK M1 l0 = (1, 6) ∧ ∃ b2 : Nat, pP M1 l0 3 = b2 + 1 ∧ pK M1 b2 = (1, 9) ∧ pCall_v d mX9_fill (0, 0) [.ref b2, .int (-1)] M1 (fun M2 => pK M2 l0 = (1, 6) ∧ Go d mX6_placeWords Q 22 ([some (.ref l0), some (.ref l1), some (.int l2), some (.int 0), none], [], c, s) (psI M2 l0 6 0)))) : Go d mX6_placeWords Q 0 ([some (.ref l0), some (.ref l1), some (.int l2), none, none], [], c, s) M := by
  refine st_aload oX6_placeWords_0 rfl ?_
  obtain ⟨hK, b1, hP, h⟩ := h
  refine st_getP oX6_placeWords_1 hK hP ?_
  obtain ⟨hK, h⟩ := h
  refine st_callV0_v [] oX6_placeWords_4 rfl rfl hK (ps8 rfl) (pCall_v.mono h (fun M1 h => ?_))
  refine st_aload oX6_placeWords_7 rfl ?_
  obtain ⟨hK, b2, hP, h⟩ := h
  refine st_getP oX6_placeWords_8 hK hP ?_
  refine st_const oX6_placeWords_11 ?_
  obtain ⟨hK, h⟩ := h
  refine st_callV0_v [.int (-1)] oX6_placeWords_12 rfl rfl hK (ps8 rfl) (pCall_v.mono h (fun M2 h => ?_))
  refine st_aload oX6_placeWords_15 rfl ?_
  refine st_const oX6_placeWords_16 ?_
  obtain ⟨hK, h⟩ := h
  refine st_putI oX6_placeWords_17 hK ?_
  refine st_const oX6_placeWords_20 ?_
  refine st_istore (L2 := [some (.ref l0), some (.ref l1), some (.int l2), some (.int 0), none]) oX6_placeWords_21 (by decide) rfl rfl ?_
  exact h
theorem bX6_placeWords_22 {d : Nat} {Q : pR → pM → Prop} {c s : Nat} {M : pM} {l0 : Nat} {l1 : Nat} {l2 : Int32} {l3 : Int32} (h : pK M l1 = (1, 0) ∧ ∃ b1 : Nat, pP M l1 1 = b1 + 1 ∧ pK M b1 = (1, 5) ∧ pCall_i d mX5_size (0, 0) [.ref b1] M (fun v1 M1 => ((v1 ≤ l3 → Q (.inl none) M1) ∧ (¬ v1 ≤ l3 → pK M1 l0 = (1, 6) ∧ ∃ b2 : Nat, pP M1 l0 0 = b2 + 1 ∧ pK M1 b2 = (1, 9) ∧ pCall_i d mX9_at (0, 0) [.ref b2, .int l3] M1 (fun v2 M2 => ((v2 ≤ l2 → pK M2 l0 = (1, 6) ∧ pCall_i d mX6_wordsAhead (0, 0) [.ref l0, .ref l1, .int l3, .int l2] M2 (fun v3 M3 => pK M3 l0 = (1, 6) ∧ ∃ b3 : Nat, pP M3 l0 2 = b3 + 1 ∧ pK M3 b3 = (1, 9) ∧ pCall_v d mX9_add (0, 0) [.ref b3, .int v3] M3 (fun M4 => pK M4 l0 = (1, 6) ∧ ∃ b4 : Nat, pP M4 l0 3 = b4 + 1 ∧ pK M4 b4 = (1, 9) ∧ pCall_v d mX9_put (0, 0) [.ref b4, .int v3, .int l3] M4 (fun M5 => pK M5 l0 = (1, 6) ∧ pK M5 l0 = (1, 6) ∧ Go d mX6_placeWords Q 94 ([some (.ref l0), some (.ref l1), some (.int l2), some (.int l3), none], [], c, s) (psI M5 l0 6 ((pI M5 l0 6) + 1)))))) ∧ (¬ v2 ≤ l2 → pK M2 l0 = (1, 6) ∧ ∃ b5 : Nat, pP M2 l0 2 = b5 + 1 ∧ pK M2 b5 = (1, 9) ∧ pCall_v d mX9_add (0, 0) [.ref b5, .int (-1)] M2 (fun M6 => Go d mX6_placeWords Q 94 ([some (.ref l0), some (.ref l1), some (.int l2), some (.int l3), none], [], c, s) M6)))))))) : Go d mX6_placeWords Q 22 ([some (.ref l0), some (.ref l1), some (.int l2), some (.int l3), none], [], c, s) M := by
  refine st_iload oX6_placeWords_22 rfl ?_
  refine st_aload oX6_placeWords_23 rfl ?_
  obtain ⟨hK, b1, hP, h⟩ := h
  refine st_getP oX6_placeWords_24 hK hP ?_
  obtain ⟨hK, h⟩ := h
  refine st_callV0_i [] oX6_placeWords_27 rfl rfl hK (ps8 rfl) (pCall_i.mono h (fun v1 M1 h => ?_))
  refine st_icmp oX6_placeWords_30 (fun g => ?_) (fun g => ?_)
  · have h := h.1 g
    exact st_vret oX6_placeWords_100 h
  · have h := h.2 g
    refine st_aload oX6_placeWords_33 rfl ?_
    obtain ⟨hK, b2, hP, h⟩ := h
    refine st_getP oX6_placeWords_34 hK hP ?_
    refine st_iload oX6_placeWords_37 rfl ?_
    obtain ⟨hK, h⟩ := h
    refine st_callV0_i [.int l3] oX6_placeWords_38 rfl rfl hK (ps8 rfl) (pCall_i.mono h (fun v2 M2 h => ?_))
    refine st_iload oX6_placeWords_41 rfl ?_
    refine st_icmp oX6_placeWords_42 (fun g => ?_) (fun g => ?_)
    · have h := h.1 g
      refine st_aload oX6_placeWords_56 rfl ?_
      refine st_aload oX6_placeWords_57 rfl ?_
      refine st_iload oX6_placeWords_58 rfl ?_
      refine st_iload oX6_placeWords_59 rfl ?_
      obtain ⟨hK, h⟩ := h
      refine st_callV0_i [.ref l1, .int l3, .int l2] oX6_placeWords_60 rfl rfl hK (ps8 rfl) (pCall_i.mono h (fun v3 M3 h => ?_))
      refine st_istore (L2 := [some (.ref l0), some (.ref l1), some (.int l2), some (.int l3), some (.int v3)]) oX6_placeWords_63 (by decide) rfl rfl ?_
      refine st_aload oX6_placeWords_65 rfl ?_
      obtain ⟨hK, b3, hP, h⟩ := h
      refine st_getP oX6_placeWords_66 hK hP ?_
      refine st_iload oX6_placeWords_69 rfl ?_
      obtain ⟨hK, h⟩ := h
      refine st_callV0_v [.int v3] oX6_placeWords_71 rfl rfl hK (ps8 rfl) (pCall_v.mono h (fun M4 h => ?_))
      refine st_aload oX6_placeWords_74 rfl ?_
      obtain ⟨hK, b4, hP, h⟩ := h
      refine st_getP oX6_placeWords_75 hK hP ?_
      refine st_iload oX6_placeWords_78 rfl ?_
      refine st_iload oX6_placeWords_80 rfl ?_
      obtain ⟨hK, h⟩ := h
      refine st_callV0_v [.int v3, .int l3] oX6_placeWords_81 rfl rfl hK (ps8 rfl) (pCall_v.mono h (fun M5 h => ?_))
      refine st_aload oX6_placeWords_84 rfl ?_
      refine st_dup oX6_placeWords_85 rfl ?_
      obtain ⟨hK, h⟩ := h
      refine st_getI oX6_placeWords_86 hK ?_
      refine st_const oX6_placeWords_89 ?_
      refine st_ibin oX6_placeWords_90 ?_
      obtain ⟨hK, h⟩ := h
      refine st_putI oX6_placeWords_91 hK ?_
      exact Go.wk (L := [some (.ref l0), some (.ref l1), some (.int l2), some (.int l3), none]) (And.intro (Or.inr rfl) (And.intro (Or.inr rfl) (And.intro (Or.inr rfl) (And.intro (Or.inr rfl) (And.intro (Or.inl rfl) True.intro))))) h
    · have h := h.2 g
      refine st_aload oX6_placeWords_45 rfl ?_
      obtain ⟨hK, b5, hP, h⟩ := h
      refine st_getP oX6_placeWords_46 hK hP ?_
      refine st_const oX6_placeWords_49 ?_
      obtain ⟨hK, h⟩ := h
      refine st_callV0_v [.int (-1)] oX6_placeWords_50 rfl rfl hK (ps8 rfl) (pCall_v.mono h (fun M6 h => ?_))
      refine st_goto oX6_placeWords_53 ?_
      exact h
theorem bX6_placeWords_94 {d : Nat} {Q : pR → pM → Prop} {c s : Nat} {M : pM} {l0 : Nat} {l1 : Nat} {l2 : Int32} {l3 : Int32} (h : Go d mX6_placeWords Q 22 ([some (.ref l0), some (.ref l1), some (.int l2), some (.int (l3 + 1)), none], [], c, s) M) : Go d mX6_placeWords Q 94 ([some (.ref l0), some (.ref l1), some (.int l2), some (.int l3), none], [], c, s) M := by
  refine st_iinc (L2 := [some (.ref l0), some (.ref l1), some (.int l2), some (.int (l3 + 1)), none]) oX6_placeWords_94 rfl (by decide) rfl rfl ?_
  refine st_goto oX6_placeWords_97 ?_
  exact h
theorem bX6_wordsAhead_0 {d : Nat} {Q : pR → pM → Prop} {c s : Nat} {M : pM} {l0 : Nat} {l1 : Nat} {l2 : Int32} {l3 : Int32} (h : Go d mX6_wordsAhead Q 6 ([some (.ref l0), some (.ref l1), some (.int l2), some (.int l3), some (.int 0), some (.int 0), none], [], c, s) M) : Go d mX6_wordsAhead Q 0 ([some (.ref l0), some (.ref l1), some (.int l2), some (.int l3), none, none, none], [], c, s) M := by
  refine st_const oX6_wordsAhead_0 ?_
  refine st_istore (L2 := [some (.ref l0), some (.ref l1), some (.int l2), some (.int l3), some (.int 0), none, none]) oX6_wordsAhead_1 (by decide) rfl rfl ?_
  refine st_const oX6_wordsAhead_3 ?_
  refine st_istore (L2 := [some (.ref l0), some (.ref l1), some (.int l2), some (.int l3), some (.int 0), some (.int 0), none]) oX6_wordsAhead_4 (by decide) rfl rfl ?_
  exact h
theorem bX6_wordsAhead_6 {d : Nat} {Q : pR → pM → Prop} {c s : Nat} {M : pM} {l0 : Nat} {l1 : Nat} {l2 : Int32} {l3 : Int32} {l4 : Int32} {l5 : Int32} (h : pK M l1 = (1, 0) ∧ ∃ b1 : Nat, pP M l1 1 = b1 + 1 ∧ pK M b1 = (1, 5) ∧ pCall_i d mX5_size (0, 0) [.ref b1] M (fun v1 M1 => ((v1 ≤ l5 → Q (.inl (some (.int l4))) M1) ∧ (¬ v1 ≤ l5 → pK M1 l0 = (1, 6) ∧ ∃ b2 : Nat, pP M1 l0 1 = b2 + 1 ∧ pK M1 b2 = (1, 9) ∧ pCall_i d mX9_at (0, 0) [.ref b2, .int l5] M1 (fun v2 M2 => pK M2 l0 = (1, 6) ∧ ∃ b3 : Nat, pP M2 l0 1 = b3 + 1 ∧ pK M2 b3 = (1, 9) ∧ pCall_i d mX9_at (0, 0) [.ref b3, .int l2] M2 (fun v3 M3 => ((v3 < v2 → Go d mX6_wordsAhead Q 68 ([some (.ref l0), some (.ref l1), some (.int l2), some (.int l3), some (.int l4), some (.int l5), none], [], c, s) M3) ∧ (¬ v3 < v2 → pK M3 l0 = (1, 6) ∧ ∃ b4 : Nat, pP M3 l0 1 = b4 + 1 ∧ pK M3 b4 = (1, 9) ∧ pCall_i d mX9_at (0, 0) [.ref b4, .int l5] M3 (fun v4 M4 => pK M4 l0 = (1, 6) ∧ ∃ b5 : Nat, pP M4 l0 1 = b5 + 1 ∧ pK M4 b5 = (1, 9) ∧ pCall_i d mX9_at (0, 0) [.ref b5, .int l2] M4 (fun v5 M5 => ((v4 = v5 → pCall_i d mX6_leadsTie (0, 0) [.ref l1, .int l5, .int l2] M5 (fun v6 M6 => ((v6 = 0 → Go d mX6_wordsAhead Q 72 ([some (.ref l0), some (.ref l1), some (.int l2), some (.int l3), some (.int l4), some (.int l5), none], [], c, s) M6) ∧ (¬ v6 = 0 → Go d mX6_wordsAhead Q 68 ([some (.ref l0), some (.ref l1), some (.int l2), some (.int l3), some (.int l4), some (.int l5), none], [], c, s) M6)))) ∧ (¬ v4 = v5 → Go d mX6_wordsAhead Q 72 ([some (.ref l0), some (.ref l1), some (.int l2), some (.int l3), some (.int l4), some (.int l5), none], [], c, s) M5)))))))))))) : Go d mX6_wordsAhead Q 6 ([some (.ref l0), some (.ref l1), some (.int l2), some (.int l3), some (.int l4), some (.int l5), none], [], c, s) M := by
  refine st_iload oX6_wordsAhead_6 rfl ?_
  refine st_aload oX6_wordsAhead_8 rfl ?_
  obtain ⟨hK, b1, hP, h⟩ := h
  refine st_getP oX6_wordsAhead_9 hK hP ?_
  obtain ⟨hK, h⟩ := h
  refine st_callV0_i [] oX6_wordsAhead_12 rfl rfl hK (ps8 rfl) (pCall_i.mono h (fun v1 M1 h => ?_))
  refine st_icmp oX6_wordsAhead_15 (fun g => ?_) (fun g => ?_)
  · have h := h.1 g
    refine st_iload oX6_wordsAhead_108 rfl ?_
    exact st_iret oX6_wordsAhead_110 h
  · have h := h.2 g
    refine st_aload oX6_wordsAhead_18 rfl ?_
    obtain ⟨hK, b2, hP, h⟩ := h
    refine st_getP oX6_wordsAhead_19 hK hP ?_
    refine st_iload oX6_wordsAhead_22 rfl ?_
    obtain ⟨hK, h⟩ := h
    refine st_callV0_i [.int l5] oX6_wordsAhead_24 rfl rfl hK (ps8 rfl) (pCall_i.mono h (fun v2 M2 h => ?_))
    refine st_aload oX6_wordsAhead_27 rfl ?_
    obtain ⟨hK, b3, hP, h⟩ := h
    refine st_getP oX6_wordsAhead_28 hK hP ?_
    refine st_iload oX6_wordsAhead_31 rfl ?_
    obtain ⟨hK, h⟩ := h
    refine st_callV0_i [.int l2] oX6_wordsAhead_32 rfl rfl hK (ps8 rfl) (pCall_i.mono h (fun v3 M3 h => ?_))
    refine st_icmp oX6_wordsAhead_35 (fun g => ?_) (fun g => ?_)
    · have h := h.1 g
      exact h
    · have h := h.2 g
      refine st_aload oX6_wordsAhead_38 rfl ?_
      obtain ⟨hK, b4, hP, h⟩ := h
      refine st_getP oX6_wordsAhead_39 hK hP ?_
      refine st_iload oX6_wordsAhead_42 rfl ?_
      obtain ⟨hK, h⟩ := h
      refine st_callV0_i [.int l5] oX6_wordsAhead_44 rfl rfl hK (ps8 rfl) (pCall_i.mono h (fun v4 M4 h => ?_))
      refine st_aload oX6_wordsAhead_47 rfl ?_
      obtain ⟨hK, b5, hP, h⟩ := h
      refine st_getP oX6_wordsAhead_48 hK hP ?_
      refine st_iload oX6_wordsAhead_51 rfl ?_
      obtain ⟨hK, h⟩ := h
      refine st_callV0_i [.int l2] oX6_wordsAhead_52 rfl rfl hK (ps8 rfl) (pCall_i.mono h (fun v5 M5 h => ?_))
      refine st_icmp oX6_wordsAhead_55 (fun g => ?_) (fun g => ?_)
      · have h := h.1 g
        refine st_aload oX6_wordsAhead_58 rfl ?_
        refine st_iload oX6_wordsAhead_59 rfl ?_
        refine st_iload oX6_wordsAhead_61 rfl ?_
        refine st_callS0_i [.ref l1, .int l5, .int l2] oX6_wordsAhead_62 rfl rfl (ps8 rfl) (pCall_i.mono h (fun v6 M6 h => ?_))
        refine st_if oX6_wordsAhead_65 (fun g => ?_) (fun g => ?_)
        · have h := h.1 g
          exact h
        · have h := h.2 g
          exact h
      · have h := h.2 g
        exact h
theorem bX6_wordsAhead_68 {d : Nat} {Q : pR → pM → Prop} {c s : Nat} {M : pM} {l0 : Nat} {l1 : Nat} {l2 : Int32} {l3 : Int32} {l4 : Int32} {l5 : Int32} (h : ((l5 = l2 → Go d mX6_wordsAhead Q 102 ([some (.ref l0), some (.ref l1), some (.int l2), some (.int l3), some (.int l4), some (.int l5), none], [], c, s) M) ∧ (¬ l5 = l2 → pK M l0 = (1, 6) ∧ ∃ b1 : Nat, pP M l0 0 = b1 + 1 ∧ pK M b1 = (1, 9) ∧ pCall_i d mX9_at (0, 0) [.ref b1, .int l5] M (fun v1 M1 => ((l3 < v1 → Go d mX6_wordsAhead Q 102 ([some (.ref l0), some (.ref l1), some (.int l2), some (.int l3), some (.int l4), some (.int l5), none], [], c, s) M1) ∧ (¬ l3 < v1 → (((1 : Int32) = 0 → Go d mX6_wordsAhead Q 102 ([some (.ref l0), some (.ref l1), some (.int l2), some (.int l3), some (.int l4), some (.int l5), none], [], c, s) M1) ∧ (¬ (1 : Int32) = 0 → Go d mX6_wordsAhead Q 102 ([some (.ref l0), some (.ref l1), some (.int l2), some (.int l3), some (.int (l4 + 1)), some (.int l5), none], [], c, s) M1)))))))) : Go d mX6_wordsAhead Q 68 ([some (.ref l0), some (.ref l1), some (.int l2), some (.int l3), some (.int l4), some (.int l5), none], [], c, s) M := by
  refine st_const oX6_wordsAhead_68 ?_
  refine st_goto oX6_wordsAhead_69 ?_
  refine st_istore (L2 := [some (.ref l0), some (.ref l1), some (.int l2), some (.int l3), some (.int l4), some (.int l5), some (.int 1)]) oX6_wordsAhead_73 (by decide) rfl rfl ?_
  refine st_iload oX6_wordsAhead_75 rfl ?_
  refine st_iload oX6_wordsAhead_77 rfl ?_
  refine st_icmp oX6_wordsAhead_78 (fun g => ?_) (fun g => ?_)
  · have h := h.1 g
    exact Go.wk (L := [some (.ref l0), some (.ref l1), some (.int l2), some (.int l3), some (.int l4), some (.int l5), none]) (And.intro (Or.inr rfl) (And.intro (Or.inr rfl) (And.intro (Or.inr rfl) (And.intro (Or.inr rfl) (And.intro (Or.inr rfl) (And.intro (Or.inr rfl) (And.intro (Or.inl rfl) True.intro))))))) h
  · have h := h.2 g
    refine st_aload oX6_wordsAhead_81 rfl ?_
    obtain ⟨hK, b1, hP, h⟩ := h
    refine st_getP oX6_wordsAhead_82 hK hP ?_
    refine st_iload oX6_wordsAhead_85 rfl ?_
    obtain ⟨hK, h⟩ := h
    refine st_callV0_i [.int l5] oX6_wordsAhead_87 rfl rfl hK (ps8 rfl) (pCall_i.mono h (fun v1 M1 h => ?_))
    refine st_iload oX6_wordsAhead_90 rfl ?_
    refine st_icmp oX6_wordsAhead_91 (fun g => ?_) (fun g => ?_)
    · have h := h.1 g
      exact Go.wk (L := [some (.ref l0), some (.ref l1), some (.int l2), some (.int l3), some (.int l4), some (.int l5), none]) (And.intro (Or.inr rfl) (And.intro (Or.inr rfl) (And.intro (Or.inr rfl) (And.intro (Or.inr rfl) (And.intro (Or.inr rfl) (And.intro (Or.inr rfl) (And.intro (Or.inl rfl) True.intro))))))) h
    · have h := h.2 g
      refine st_iload oX6_wordsAhead_94 rfl ?_
      refine st_if oX6_wordsAhead_96 (fun g => ?_) (fun g => ?_)
      · have h := h.1 g
        exact Go.wk (L := [some (.ref l0), some (.ref l1), some (.int l2), some (.int l3), some (.int l4), some (.int l5), none]) (And.intro (Or.inr rfl) (And.intro (Or.inr rfl) (And.intro (Or.inr rfl) (And.intro (Or.inr rfl) (And.intro (Or.inr rfl) (And.intro (Or.inr rfl) (And.intro (Or.inl rfl) True.intro))))))) h
      · have h := h.2 g
        refine st_iinc (L2 := [some (.ref l0), some (.ref l1), some (.int l2), some (.int l3), some (.int (l4 + 1)), some (.int l5), some (.int 1)]) oX6_wordsAhead_99 rfl (by decide) rfl rfl ?_
        exact Go.wk (L := [some (.ref l0), some (.ref l1), some (.int l2), some (.int l3), some (.int (l4 + 1)), some (.int l5), none]) (And.intro (Or.inr rfl) (And.intro (Or.inr rfl) (And.intro (Or.inr rfl) (And.intro (Or.inr rfl) (And.intro (Or.inr rfl) (And.intro (Or.inr rfl) (And.intro (Or.inl rfl) True.intro))))))) h
theorem bX6_wordsAhead_72 {d : Nat} {Q : pR → pM → Prop} {c s : Nat} {M : pM} {l0 : Nat} {l1 : Nat} {l2 : Int32} {l3 : Int32} {l4 : Int32} {l5 : Int32} (h : ((l5 = l2 → Go d mX6_wordsAhead Q 102 ([some (.ref l0), some (.ref l1), some (.int l2), some (.int l3), some (.int l4), some (.int l5), none], [], c, s) M) ∧ (¬ l5 = l2 → pK M l0 = (1, 6) ∧ ∃ b1 : Nat, pP M l0 0 = b1 + 1 ∧ pK M b1 = (1, 9) ∧ pCall_i d mX9_at (0, 0) [.ref b1, .int l5] M (fun v1 M1 => ((l3 < v1 → Go d mX6_wordsAhead Q 102 ([some (.ref l0), some (.ref l1), some (.int l2), some (.int l3), some (.int l4), some (.int l5), none], [], c, s) M1) ∧ (¬ l3 < v1 → (((0 : Int32) = 0 → Go d mX6_wordsAhead Q 102 ([some (.ref l0), some (.ref l1), some (.int l2), some (.int l3), some (.int l4), some (.int l5), none], [], c, s) M1) ∧ (¬ (0 : Int32) = 0 → Go d mX6_wordsAhead Q 102 ([some (.ref l0), some (.ref l1), some (.int l2), some (.int l3), some (.int (l4 + 1)), some (.int l5), none], [], c, s) M1)))))))) : Go d mX6_wordsAhead Q 72 ([some (.ref l0), some (.ref l1), some (.int l2), some (.int l3), some (.int l4), some (.int l5), none], [], c, s) M := by
  refine st_const oX6_wordsAhead_72 ?_
  refine st_istore (L2 := [some (.ref l0), some (.ref l1), some (.int l2), some (.int l3), some (.int l4), some (.int l5), some (.int 0)]) oX6_wordsAhead_73 (by decide) rfl rfl ?_
  refine st_iload oX6_wordsAhead_75 rfl ?_
  refine st_iload oX6_wordsAhead_77 rfl ?_
  refine st_icmp oX6_wordsAhead_78 (fun g => ?_) (fun g => ?_)
  · have h := h.1 g
    exact Go.wk (L := [some (.ref l0), some (.ref l1), some (.int l2), some (.int l3), some (.int l4), some (.int l5), none]) (And.intro (Or.inr rfl) (And.intro (Or.inr rfl) (And.intro (Or.inr rfl) (And.intro (Or.inr rfl) (And.intro (Or.inr rfl) (And.intro (Or.inr rfl) (And.intro (Or.inl rfl) True.intro))))))) h
  · have h := h.2 g
    refine st_aload oX6_wordsAhead_81 rfl ?_
    obtain ⟨hK, b1, hP, h⟩ := h
    refine st_getP oX6_wordsAhead_82 hK hP ?_
    refine st_iload oX6_wordsAhead_85 rfl ?_
    obtain ⟨hK, h⟩ := h
    refine st_callV0_i [.int l5] oX6_wordsAhead_87 rfl rfl hK (ps8 rfl) (pCall_i.mono h (fun v1 M1 h => ?_))
    refine st_iload oX6_wordsAhead_90 rfl ?_
    refine st_icmp oX6_wordsAhead_91 (fun g => ?_) (fun g => ?_)
    · have h := h.1 g
      exact Go.wk (L := [some (.ref l0), some (.ref l1), some (.int l2), some (.int l3), some (.int l4), some (.int l5), none]) (And.intro (Or.inr rfl) (And.intro (Or.inr rfl) (And.intro (Or.inr rfl) (And.intro (Or.inr rfl) (And.intro (Or.inr rfl) (And.intro (Or.inr rfl) (And.intro (Or.inl rfl) True.intro))))))) h
    · have h := h.2 g
      refine st_iload oX6_wordsAhead_94 rfl ?_
      refine st_if oX6_wordsAhead_96 (fun g => ?_) (fun g => ?_)
      · have h := h.1 g
        exact Go.wk (L := [some (.ref l0), some (.ref l1), some (.int l2), some (.int l3), some (.int l4), some (.int l5), none]) (And.intro (Or.inr rfl) (And.intro (Or.inr rfl) (And.intro (Or.inr rfl) (And.intro (Or.inr rfl) (And.intro (Or.inr rfl) (And.intro (Or.inr rfl) (And.intro (Or.inl rfl) True.intro))))))) h
      · have h := h.2 g
        refine st_iinc (L2 := [some (.ref l0), some (.ref l1), some (.int l2), some (.int l3), some (.int (l4 + 1)), some (.int l5), some (.int 0)]) oX6_wordsAhead_99 rfl (by decide) rfl rfl ?_
        exact Go.wk (L := [some (.ref l0), some (.ref l1), some (.int l2), some (.int l3), some (.int (l4 + 1)), some (.int l5), none]) (And.intro (Or.inr rfl) (And.intro (Or.inr rfl) (And.intro (Or.inr rfl) (And.intro (Or.inr rfl) (And.intro (Or.inr rfl) (And.intro (Or.inr rfl) (And.intro (Or.inl rfl) True.intro))))))) h
theorem bX6_wordsAhead_102 {d : Nat} {Q : pR → pM → Prop} {c s : Nat} {M : pM} {l0 : Nat} {l1 : Nat} {l2 : Int32} {l3 : Int32} {l4 : Int32} {l5 : Int32} (h : Go d mX6_wordsAhead Q 6 ([some (.ref l0), some (.ref l1), some (.int l2), some (.int l3), some (.int l4), some (.int (l5 + 1)), none], [], c, s) M) : Go d mX6_wordsAhead Q 102 ([some (.ref l0), some (.ref l1), some (.int l2), some (.int l3), some (.int l4), some (.int l5), none], [], c, s) M := by
  refine st_iinc (L2 := [some (.ref l0), some (.ref l1), some (.int l2), some (.int l3), some (.int l4), some (.int (l5 + 1)), none]) oX6_wordsAhead_102 rfl (by decide) rfl rfl ?_
  refine st_goto oX6_wordsAhead_105 ?_
  exact h
theorem bX6_leadsTie_0 {d : Nat} {Q : pR → pM → Prop} {c s : Nat} {M : pM} {l0 : Nat} {l1 : Int32} {l2 : Int32} (h : pK M l0 = (1, 0) ∧ ∃ b1 : Nat, pP M l0 1 = b1 + 1 ∧ pK M b1 = (1, 5) ∧ pCall_r d mX5_at (0, 0) [.ref b1, .int l1] M (fun v1 M1 => pK M1 v1 = (1, 9) ∧ pCall_i d mX9_size (0, 0) [.ref v1] M1 (fun v2 M2 => pK M2 l0 = (1, 0) ∧ ∃ b2 : Nat, pP M2 l0 1 = b2 + 1 ∧ pK M2 b2 = (1, 5) ∧ pCall_r d mX5_at (0, 0) [.ref b2, .int l2] M2 (fun v3 M3 => pK M3 v3 = (1, 9) ∧ pCall_i d mX9_size (0, 0) [.ref v3] M3 (fun v4 M4 => ((v2 < v4 → Q (.inl (some (.int 1))) M4) ∧ (¬ v2 < v4 → ((v2 = v4 → ((l2 ≤ l1 → Q (.inl (some (.int 0))) M4) ∧ (¬ l2 ≤ l1 → Q (.inl (some (.int 1))) M4))) ∧ (¬ v2 = v4 → Q (.inl (some (.int 0))) M4))))))))) : Go d mX6_leadsTie Q 0 ([some (.ref l0), some (.int l1), some (.int l2), none, none], [], c, s) M := by
  refine st_aload oX6_leadsTie_0 rfl ?_
  obtain ⟨hK, b1, hP, h⟩ := h
  refine st_getP oX6_leadsTie_1 hK hP ?_
  refine st_iload oX6_leadsTie_4 rfl ?_
  obtain ⟨hK, h⟩ := h
  refine st_callV0_r [.int l1] oX6_leadsTie_5 rfl rfl hK (ps8 rfl) (pCall_r.mono h (fun v1 M1 h => ?_))
  obtain ⟨hK, h⟩ := h
  refine st_callV0_i [] oX6_leadsTie_8 rfl rfl hK (ps8 rfl) (pCall_i.mono h (fun v2 M2 h => ?_))
  refine st_istore (L2 := [some (.ref l0), some (.int l1), some (.int l2), some (.int v2), none]) oX6_leadsTie_11 (by decide) rfl rfl ?_
  refine st_aload oX6_leadsTie_12 rfl ?_
  obtain ⟨hK, b2, hP, h⟩ := h
  refine st_getP oX6_leadsTie_13 hK hP ?_
  refine st_iload oX6_leadsTie_16 rfl ?_
  obtain ⟨hK, h⟩ := h
  refine st_callV0_r [.int l2] oX6_leadsTie_17 rfl rfl hK (ps8 rfl) (pCall_r.mono h (fun v3 M3 h => ?_))
  obtain ⟨hK, h⟩ := h
  refine st_callV0_i [] oX6_leadsTie_20 rfl rfl hK (ps8 rfl) (pCall_i.mono h (fun v4 M4 h => ?_))
  refine st_istore (L2 := [some (.ref l0), some (.int l1), some (.int l2), some (.int v2), some (.int v4)]) oX6_leadsTie_23 (by decide) rfl rfl ?_
  refine st_iload oX6_leadsTie_25 rfl ?_
  refine st_iload oX6_leadsTie_26 rfl ?_
  refine st_icmp oX6_leadsTie_28 (fun g => ?_) (fun g => ?_)
  · have h := h.1 g
    refine st_const oX6_leadsTie_42 ?_
    refine st_goto oX6_leadsTie_43 ?_
    exact st_zret oX6_leadsTie_47 (Or.inr rfl) h
  · have h := h.2 g
    refine st_iload oX6_leadsTie_31 rfl ?_
    refine st_iload oX6_leadsTie_32 rfl ?_
    refine st_icmp oX6_leadsTie_34 (fun g => ?_) (fun g => ?_)
    · have h := h.1 g
      refine st_iload oX6_leadsTie_37 rfl ?_
      refine st_iload oX6_leadsTie_38 rfl ?_
      refine st_icmp oX6_leadsTie_39 (fun g => ?_) (fun g => ?_)
      · have h := h.1 g
        refine st_const oX6_leadsTie_46 ?_
        exact st_zret oX6_leadsTie_47 (Or.inl rfl) h
      · have h := h.2 g
        refine st_const oX6_leadsTie_42 ?_
        refine st_goto oX6_leadsTie_43 ?_
        exact st_zret oX6_leadsTie_47 (Or.inr rfl) h
    · have h := h.2 g
      refine st_const oX6_leadsTie_46 ?_
      exact st_zret oX6_leadsTie_47 (Or.inl rfl) h
theorem bX6_leastScoreToLead_0 {d : Nat} {Q : pR → pM → Prop} {c s : Nat} {M : pM} {l0 : Nat} {l1 : Nat} {l2 : Int32} (h : Go d mX6_leastScoreToLead Q 7 ([some (.ref l0), some (.ref l1), some (.int l2), some (.long (-2147483648)), none, some (.int 0), none, none], [], c, s) M) : Go d mX6_leastScoreToLead Q 0 ([some (.ref l0), some (.ref l1), some (.int l2), none, none, none, none, none], [], c, s) M := by
  refine st_const oX6_leastScoreToLead_0 ?_
  refine st_lstore (L2 := [some (.ref l0), some (.ref l1), some (.int l2), some (.long (-2147483648)), none, none, none, none]) oX6_leastScoreToLead_3 (by decide) rfl rfl ?_
  refine st_const oX6_leastScoreToLead_4 ?_
  refine st_istore (L2 := [some (.ref l0), some (.ref l1), some (.int l2), some (.long (-2147483648)), none, some (.int 0), none, none]) oX6_leastScoreToLead_5 (by decide) rfl rfl ?_
  exact h
theorem bX6_leastScoreToLead_7 {d : Nat} {Q : pR → pM → Prop} {c s : Nat} {M : pM} {l0 : Nat} {l1 : Nat} {l2 : Int32} {l3 : Int64} {l5 : Int32} (h : pK M l1 = (1, 0) ∧ ∃ b1 : Nat, pP M l1 1 = b1 + 1 ∧ pK M b1 = (1, 5) ∧ pCall_i d mX5_size (0, 0) [.ref b1] M (fun v1 M1 => ((v1 ≤ l5 → Q (.inl (some (.long l3))) M1) ∧ (¬ v1 ≤ l5 → ((l5 = l2 → Go d mX6_leastScoreToLead Q 73 ([some (.ref l0), some (.ref l1), some (.int l2), some (.long l3), none, some (.int l5), none, none], [], c, s) M1) ∧ (¬ l5 = l2 → pK M1 l0 = (1, 6) ∧ ∃ b2 : Nat, pP M1 l0 2 = b2 + 1 ∧ pK M1 b2 = (1, 9) ∧ pCall_i d mX9_at (0, 0) [.ref b2, .int l5] M1 (fun v2 M2 => ((v2 < 0 → Go d mX6_leastScoreToLead Q 73 ([some (.ref l0), some (.ref l1), some (.int l2), some (.long l3), none, some (.int l5), none, none], [], c, s) M2) ∧ (¬ v2 < 0 → pK M2 l0 = (1, 6) ∧ ∃ b3 : Nat, pP M2 l0 1 = b3 + 1 ∧ pK M2 b3 = (1, 9) ∧ pCall_i d mX9_at (0, 0) [.ref b3, .int l5] M2 (fun v3 M3 => pCall_i d mX6_leadsTie (0, 0) [.ref l1, .int l2, .int l5] M3 (fun v4 M4 => ((v4 = 0 → Go d mX6_leastScoreToLead Q 73 ([some (.ref l0), some (.ref l1), some (.int l2), some (.long (if ((Int32.toInt64 v3) + 1) < l3 then l3 else ((Int32.toInt64 v3) + 1))), none, some (.int l5), none, none], [], c, s) M4) ∧ (¬ v4 = 0 → Go d mX6_leastScoreToLead Q 73 ([some (.ref l0), some (.ref l1), some (.int l2), some (.long (if (Int32.toInt64 v3) < l3 then l3 else (Int32.toInt64 v3))), none, some (.int l5), none, none], [], c, s) M4))))))))))))) : Go d mX6_leastScoreToLead Q 7 ([some (.ref l0), some (.ref l1), some (.int l2), some (.long l3), none, some (.int l5), none, none], [], c, s) M := by
  refine st_iload oX6_leastScoreToLead_7 rfl ?_
  refine st_aload oX6_leastScoreToLead_9 rfl ?_
  obtain ⟨hK, b1, hP, h⟩ := h
  refine st_getP oX6_leastScoreToLead_10 hK hP ?_
  obtain ⟨hK, h⟩ := h
  refine st_callV0_i [] oX6_leastScoreToLead_13 rfl rfl hK (ps8 rfl) (pCall_i.mono h (fun v1 M1 h => ?_))
  refine st_icmp oX6_leastScoreToLead_16 (fun g => ?_) (fun g => ?_)
  · have h := h.1 g
    refine st_lload oX6_leastScoreToLead_79 rfl ?_
    exact st_lret oX6_leastScoreToLead_80 h
  · have h := h.2 g
    refine st_iload oX6_leastScoreToLead_19 rfl ?_
    refine st_iload oX6_leastScoreToLead_21 rfl ?_
    refine st_icmp oX6_leastScoreToLead_22 (fun g => ?_) (fun g => ?_)
    · have h := h.1 g
      exact h
    · have h := h.2 g
      refine st_aload oX6_leastScoreToLead_25 rfl ?_
      obtain ⟨hK, b2, hP, h⟩ := h
      refine st_getP oX6_leastScoreToLead_26 hK hP ?_
      refine st_iload oX6_leastScoreToLead_29 rfl ?_
      obtain ⟨hK, h⟩ := h
      refine st_callV0_i [.int l5] oX6_leastScoreToLead_31 rfl rfl hK (ps8 rfl) (pCall_i.mono h (fun v2 M2 h => ?_))
      refine st_if oX6_leastScoreToLead_34 (fun g => ?_) (fun g => ?_)
      · have h := h.1 g
        exact h
      · have h := h.2 g
        refine st_aload oX6_leastScoreToLead_37 rfl ?_
        obtain ⟨hK, b3, hP, h⟩ := h
        refine st_getP oX6_leastScoreToLead_38 hK hP ?_
        refine st_iload oX6_leastScoreToLead_41 rfl ?_
        obtain ⟨hK, h⟩ := h
        refine st_callV0_i [.int l5] oX6_leastScoreToLead_43 rfl rfl hK (ps8 rfl) (pCall_i.mono h (fun v3 M3 h => ?_))
        refine st_i2l oX6_leastScoreToLead_46 ?_
        refine st_lstore (L2 := [some (.ref l0), some (.ref l1), some (.int l2), some (.long l3), none, some (.int l5), some (.long (Int32.toInt64 v3)), none]) oX6_leastScoreToLead_47 (by decide) rfl rfl ?_
        refine st_lload oX6_leastScoreToLead_49 rfl ?_
        refine st_aload oX6_leastScoreToLead_50 rfl ?_
        refine st_iload oX6_leastScoreToLead_51 rfl ?_
        refine st_iload oX6_leastScoreToLead_52 rfl ?_
        refine st_callS0_i [.ref l1, .int l2, .int l5] oX6_leastScoreToLead_54 rfl rfl (ps8 rfl) (pCall_i.mono h (fun v4 M4 h => ?_))
        refine st_if oX6_leastScoreToLead_57 (fun g => ?_) (fun g => ?_)
        · have h := h.1 g
          refine st_lload oX6_leastScoreToLead_65 rfl ?_
          refine st_const oX6_leastScoreToLead_67 ?_
          refine st_lbin oX6_leastScoreToLead_68 ?_
          refine st_lmax oX6_leastScoreToLead_69 (ps8 rfl) ?_
          refine st_lstore (L2 := [some (.ref l0), some (.ref l1), some (.int l2), some (.long (if ((Int32.toInt64 v3) + 1) < l3 then l3 else ((Int32.toInt64 v3) + 1))), none, some (.int l5), some (.long (Int32.toInt64 v3)), none]) oX6_leastScoreToLead_72 (by decide) rfl rfl ?_
          exact Go.wk (L := [some (.ref l0), some (.ref l1), some (.int l2), some (.long (if ((Int32.toInt64 v3) + 1) < l3 then l3 else ((Int32.toInt64 v3) + 1))), none, some (.int l5), none, none]) (And.intro (Or.inr rfl) (And.intro (Or.inr rfl) (And.intro (Or.inr rfl) (And.intro (Or.inr rfl) (And.intro (Or.inr rfl) (And.intro (Or.inr rfl) (And.intro (Or.inl rfl) (And.intro (Or.inr rfl) True.intro)))))))) h
        · have h := h.2 g
          refine st_lload oX6_leastScoreToLead_60 rfl ?_
          refine st_goto oX6_leastScoreToLead_62 ?_
          refine st_lmax oX6_leastScoreToLead_69 (ps8 rfl) ?_
          refine st_lstore (L2 := [some (.ref l0), some (.ref l1), some (.int l2), some (.long (if (Int32.toInt64 v3) < l3 then l3 else (Int32.toInt64 v3))), none, some (.int l5), some (.long (Int32.toInt64 v3)), none]) oX6_leastScoreToLead_72 (by decide) rfl rfl ?_
          exact Go.wk (L := [some (.ref l0), some (.ref l1), some (.int l2), some (.long (if (Int32.toInt64 v3) < l3 then l3 else (Int32.toInt64 v3))), none, some (.int l5), none, none]) (And.intro (Or.inr rfl) (And.intro (Or.inr rfl) (And.intro (Or.inr rfl) (And.intro (Or.inr rfl) (And.intro (Or.inr rfl) (And.intro (Or.inr rfl) (And.intro (Or.inl rfl) (And.intro (Or.inr rfl) True.intro)))))))) h
theorem bX6_leastScoreToLead_73 {d : Nat} {Q : pR → pM → Prop} {c s : Nat} {M : pM} {l0 : Nat} {l1 : Nat} {l2 : Int32} {l3 : Int64} {l5 : Int32} (h : Go d mX6_leastScoreToLead Q 7 ([some (.ref l0), some (.ref l1), some (.int l2), some (.long l3), none, some (.int (l5 + 1)), none, none], [], c, s) M) : Go d mX6_leastScoreToLead Q 73 ([some (.ref l0), some (.ref l1), some (.int l2), some (.long l3), none, some (.int l5), none, none], [], c, s) M := by
  refine st_iinc (L2 := [some (.ref l0), some (.ref l1), some (.int l2), some (.long l3), none, some (.int (l5 + 1)), none, none]) oX6_leastScoreToLead_73 rfl (by decide) rfl rfl ?_
  refine st_goto oX6_leastScoreToLead_76 ?_
  exact h
theorem bX6_distance_0 {d : Nat} {Q : pR → pM → Prop} {c s : Nat} {M : pM} {l0 : Nat} {l1 : Nat} {l2 : Nat} {l3 : Nat} (h : pK M l0 = (1, 6) ∧ ∃ b1 : Nat, pP M l0 4 = b1 + 1 ∧ pK M b1 = (1, 9) ∧ pCall_v d mX9_clear (0, 0) [.ref b1] M (fun M1 => Go d mX6_distance Q 10 ([some (.ref l0), some (.ref l1), some (.ref l2), some (.ref l3), some (.int 0), none], [], c, s) M1)) : Go d mX6_distance Q 0 ([some (.ref l0), some (.ref l1), some (.ref l2), some (.ref l3), none, none], [], c, s) M := by
  refine st_aload oX6_distance_0 rfl ?_
  obtain ⟨hK, b1, hP, h⟩ := h
  refine st_getP oX6_distance_1 hK hP ?_
  obtain ⟨hK, h⟩ := h
  refine st_callV0_v [] oX6_distance_4 rfl rfl hK (ps8 rfl) (pCall_v.mono h (fun M1 h => ?_))
  refine st_const oX6_distance_7 ?_
  refine st_istore (L2 := [some (.ref l0), some (.ref l1), some (.ref l2), some (.ref l3), some (.int 0), none]) oX6_distance_8 (by decide) rfl rfl ?_
  exact h
theorem bX6_distance_10 {d : Nat} {Q : pR → pM → Prop} {c s : Nat} {M : pM} {l0 : Nat} {l1 : Nat} {l2 : Nat} {l3 : Nat} {l4 : Int32} (h : pK M l2 = (1, 9) ∧ pCall_i d mX9_size (0, 0) [.ref l2] M (fun v1 M1 => ((v1 < l4 → Go d mX6_distance Q 39 ([some (.ref l0), some (.ref l1), some (.ref l2), some (.ref l3), some (.int 0), none], [], c, s) M1) ∧ (¬ v1 < l4 → pK M1 l0 = (1, 6) ∧ ∃ b1 : Nat, pP M1 l0 4 = b1 + 1 ∧ pK M1 b1 = (1, 9) ∧ pCall_v d mX9_add (0, 0) [.ref b1, .int (l4 * 3)] M1 (fun M2 => Go d mX6_distance Q 10 ([some (.ref l0), some (.ref l1), some (.ref l2), some (.ref l3), some (.int (l4 + 1)), none], [], c, s) M2))))) : Go d mX6_distance Q 10 ([some (.ref l0), some (.ref l1), some (.ref l2), some (.ref l3), some (.int l4), none], [], c, s) M := by
  refine st_iload oX6_distance_10 rfl ?_
  refine st_aload oX6_distance_12 rfl ?_
  obtain ⟨hK, h⟩ := h
  refine st_callV0_i [] oX6_distance_13 rfl rfl hK (ps8 rfl) (pCall_i.mono h (fun v1 M1 h => ?_))
  refine st_icmp oX6_distance_16 (fun g => ?_) (fun g => ?_)
  · have h := h.1 g
    refine st_const oX6_distance_36 ?_
    refine st_istore (L2 := [some (.ref l0), some (.ref l1), some (.ref l2), some (.ref l3), some (.int 0), none]) oX6_distance_37 (by decide) rfl rfl ?_
    exact h
  · have h := h.2 g
    refine st_aload oX6_distance_19 rfl ?_
    obtain ⟨hK, b1, hP, h⟩ := h
    refine st_getP oX6_distance_20 hK hP ?_
    refine st_iload oX6_distance_23 rfl ?_
    refine st_const oX6_distance_25 ?_
    refine st_ibin oX6_distance_26 ?_
    obtain ⟨hK, h⟩ := h
    refine st_callV0_v [.int (l4 * 3)] oX6_distance_27 rfl rfl hK (ps8 rfl) (pCall_v.mono h (fun M2 h => ?_))
    refine st_iinc (L2 := [some (.ref l0), some (.ref l1), some (.ref l2), some (.ref l3), some (.int (l4 + 1)), none]) oX6_distance_30 rfl (by decide) rfl rfl ?_
    refine st_goto oX6_distance_33 ?_
    exact h
theorem bX6_distance_39 {d : Nat} {Q : pR → pM → Prop} {c s : Nat} {M : pM} {l0 : Nat} {l1 : Nat} {l2 : Nat} {l3 : Nat} {l4 : Int32} (h : pK M l1 = (1, 9) ∧ pCall_i d mX9_size (0, 0) [.ref l1] M (fun v1 M1 => ((v1 ≤ l4 → pK M1 l0 = (1, 6) ∧ ∃ b1 : Nat, pP M1 l0 4 = b1 + 1 ∧ pK M1 b1 = (1, 9) ∧ pCall_i d mX9_at (0, 0) [.ref b1, .int 0] M1 (fun v2 M2 => Go d mX6_distance Q 79 ([some (.ref l0), none, some (.ref l2), none, some (.int v2), some (.int 1)], [], c, s) M2)) ∧ (¬ v1 ≤ l4 → pK M1 l1 = (1, 9) ∧ pCall_i d mX9_at (0, 0) [.ref l1, .int l4] M1 (fun v3 M3 => pK M3 l0 = (1, 6) ∧ pCall_v d mX6_typeOneMore (0, 0) [.ref l0, .int v3, .ref l2, .ref l3] M3 (fun M4 => Go d mX6_distance Q 39 ([some (.ref l0), some (.ref l1), some (.ref l2), some (.ref l3), some (.int (l4 + 1)), none], [], c, s) M4)))))) : Go d mX6_distance Q 39 ([some (.ref l0), some (.ref l1), some (.ref l2), some (.ref l3), some (.int l4), none], [], c, s) M := by
  refine st_iload oX6_distance_39 rfl ?_
  refine st_aload oX6_distance_41 rfl ?_
  obtain ⟨hK, h⟩ := h
  refine st_callV0_i [] oX6_distance_42 rfl rfl hK (ps8 rfl) (pCall_i.mono h (fun v1 M1 h => ?_))
  refine st_icmp oX6_distance_45 (fun g => ?_) (fun g => ?_)
  · have h := h.1 g
    refine st_aload oX6_distance_66 rfl ?_
    obtain ⟨hK, b1, hP, h⟩ := h
    refine st_getP oX6_distance_67 hK hP ?_
    refine st_const oX6_distance_70 ?_
    obtain ⟨hK, h⟩ := h
    refine st_callV0_i [.int 0] oX6_distance_71 rfl rfl hK (ps8 rfl) (pCall_i.mono h (fun v2 M2 h => ?_))
    refine st_istore (L2 := [some (.ref l0), some (.ref l1), some (.ref l2), some (.ref l3), some (.int v2), none]) oX6_distance_74 (by decide) rfl rfl ?_
    refine st_const oX6_distance_76 ?_
    refine st_istore (L2 := [some (.ref l0), some (.ref l1), some (.ref l2), some (.ref l3), some (.int v2), some (.int 1)]) oX6_distance_77 (by decide) rfl rfl ?_
    exact Go.wk (L := [some (.ref l0), none, some (.ref l2), none, some (.int v2), some (.int 1)]) (And.intro (Or.inr rfl) (And.intro (Or.inl rfl) (And.intro (Or.inr rfl) (And.intro (Or.inl rfl) (And.intro (Or.inr rfl) (And.intro (Or.inr rfl) True.intro)))))) h
  · have h := h.2 g
    refine st_aload oX6_distance_48 rfl ?_
    refine st_aload oX6_distance_49 rfl ?_
    refine st_iload oX6_distance_50 rfl ?_
    obtain ⟨hK, h⟩ := h
    refine st_callV0_i [.int l4] oX6_distance_52 rfl rfl hK (ps8 rfl) (pCall_i.mono h (fun v3 M3 h => ?_))
    refine st_aload oX6_distance_55 rfl ?_
    refine st_aload oX6_distance_56 rfl ?_
    obtain ⟨hK, h⟩ := h
    refine st_callV0_v [.int v3, .ref l2, .ref l3] oX6_distance_57 rfl rfl hK (ps8 rfl) (pCall_v.mono h (fun M4 h => ?_))
    refine st_iinc (L2 := [some (.ref l0), some (.ref l1), some (.ref l2), some (.ref l3), some (.int (l4 + 1)), none]) oX6_distance_60 rfl (by decide) rfl rfl ?_
    refine st_goto oX6_distance_63 ?_
    exact h
theorem bX6_distance_79 {d : Nat} {Q : pR → pM → Prop} {c s : Nat} {M : pM} {l0 : Nat} {l2 : Nat} {l4 : Int32} {l5 : Int32} (h : pK M l2 = (1, 9) ∧ pCall_i d mX9_size (0, 0) [.ref l2] M (fun v1 M1 => ((v1 < l5 → Q (.inl (some (.int l4))) M1) ∧ (¬ v1 < l5 → pK M1 l0 = (1, 6) ∧ ∃ b1 : Nat, pP M1 l0 4 = b1 + 1 ∧ pK M1 b1 = (1, 9) ∧ pCall_i d mX9_at (0, 0) [.ref b1, .int l5] M1 (fun v2 M2 => Go d mX6_distance Q 79 ([some (.ref l0), none, some (.ref l2), none, some (.int (if v2 < l4 then v2 else l4)), some (.int (l5 + 1))], [], c, s) M2))))) : Go d mX6_distance Q 79 ([some (.ref l0), none, some (.ref l2), none, some (.int l4), some (.int l5)], [], c, s) M := by
  refine st_iload oX6_distance_79 rfl ?_
  refine st_aload oX6_distance_81 rfl ?_
  obtain ⟨hK, h⟩ := h
  refine st_callV0_i [] oX6_distance_82 rfl rfl hK (ps8 rfl) (pCall_i.mono h (fun v1 M1 h => ?_))
  refine st_icmp oX6_distance_85 (fun g => ?_) (fun g => ?_)
  · have h := h.1 g
    refine st_iload oX6_distance_110 rfl ?_
    exact st_iret oX6_distance_112 h
  · have h := h.2 g
    refine st_iload oX6_distance_88 rfl ?_
    refine st_aload oX6_distance_90 rfl ?_
    obtain ⟨hK, b1, hP, h⟩ := h
    refine st_getP oX6_distance_91 hK hP ?_
    refine st_iload oX6_distance_94 rfl ?_
    obtain ⟨hK, h⟩ := h
    refine st_callV0_i [.int l5] oX6_distance_96 rfl rfl hK (ps8 rfl) (pCall_i.mono h (fun v2 M2 h => ?_))
    refine st_min oX6_distance_99 (ps8 rfl) ?_
    refine st_istore (L2 := [some (.ref l0), none, some (.ref l2), none, some (.int (if v2 < l4 then v2 else l4)), some (.int l5)]) oX6_distance_102 (by decide) rfl rfl ?_
    refine st_iinc (L2 := [some (.ref l0), none, some (.ref l2), none, some (.int (if v2 < l4 then v2 else l4)), some (.int (l5 + 1))]) oX6_distance_104 rfl (by decide) rfl rfl ?_
    refine st_goto oX6_distance_107 ?_
    exact h
theorem bX6_typeOneMore_0 {d : Nat} {Q : pR → pM → Prop} {c s : Nat} {M : pM} {l0 : Nat} {l1 : Int32} {l2 : Nat} {l3 : Nat} (h : pK M l0 = (1, 6) ∧ ∃ b1 : Nat, pP M l0 4 = b1 + 1 ∧ pK M b1 = (1, 9) ∧ pCall_i d mX9_at (0, 0) [.ref b1, .int 0] M (fun v1 M1 => pK M1 l0 = (1, 6) ∧ ∃ b2 : Nat, pP M1 l0 4 = b2 + 1 ∧ pK M1 b2 = (1, 9) ∧ pCall_v d mX9_put (0, 0) [.ref b2, .int 0, .int (v1 + 3)] M1 (fun M2 => Go d mX6_typeOneMore Q 25 ([some (.ref l0), some (.int l1), some (.ref l2), some (.ref l3), some (.int v1), some (.int 1), none, none, none], [], c, s) M2))) : Go d mX6_typeOneMore Q 0 ([some (.ref l0), some (.int l1), some (.ref l2), some (.ref l3), none, none, none, none, none], [], c, s) M := by
  refine st_aload oX6_typeOneMore_0 rfl ?_
  obtain ⟨hK, b1, hP, h⟩ := h
  refine st_getP oX6_typeOneMore_1 hK hP ?_
  refine st_const oX6_typeOneMore_4 ?_
  obtain ⟨hK, h⟩ := h
  refine st_callV0_i [.int 0] oX6_typeOneMore_5 rfl rfl hK (ps8 rfl) (pCall_i.mono h (fun v1 M1 h => ?_))
  refine st_istore (L2 := [some (.ref l0), some (.int l1), some (.ref l2), some (.ref l3), some (.int v1), none, none, none, none]) oX6_typeOneMore_8 (by decide) rfl rfl ?_
  refine st_aload oX6_typeOneMore_10 rfl ?_
  obtain ⟨hK, b2, hP, h⟩ := h
  refine st_getP oX6_typeOneMore_11 hK hP ?_
  refine st_const oX6_typeOneMore_14 ?_
  refine st_iload oX6_typeOneMore_15 rfl ?_
  refine st_const oX6_typeOneMore_17 ?_
  refine st_ibin oX6_typeOneMore_18 ?_
  obtain ⟨hK, h⟩ := h
  refine st_callV0_v [.int 0, .int (v1 + 3)] oX6_typeOneMore_19 rfl rfl hK (ps8 rfl) (pCall_v.mono h (fun M2 h => ?_))
  refine st_const oX6_typeOneMore_22 ?_
  refine st_istore (L2 := [some (.ref l0), some (.int l1), some (.ref l2), some (.ref l3), some (.int v1), some (.int 1), none, none, none]) oX6_typeOneMore_23 (by decide) rfl rfl ?_
  exact h
theorem bX6_typeOneMore_25 {d : Nat} {Q : pR → pM → Prop} {c s : Nat} {M : pM} {l0 : Nat} {l1 : Int32} {l2 : Nat} {l3 : Nat} {l4 : Int32} {l5 : Int32} (h : pK M l2 = (1, 9) ∧ pCall_i d mX9_size (0, 0) [.ref l2] M (fun v1 M1 => ((v1 < l5 → Q (.inl none) M1) ∧ (¬ v1 < l5 → pK M1 l0 = (1, 6) ∧ ∃ b1 : Nat, pP M1 l0 4 = b1 + 1 ∧ pK M1 b1 = (1, 9) ∧ pCall_i d mX9_at (0, 0) [.ref b1, .int l5] M1 (fun v2 M2 => pK M2 l2 = (1, 9) ∧ pCall_i d mX9_at (0, 0) [.ref l2, .int (l5 - 1)] M2 (fun v3 M3 => pK M3 l0 = (1, 6) ∧ ∃ b2 : Nat, pP M3 l0 4 = b2 + 1 ∧ pK M3 b2 = (1, 9) ∧ pCall_i d mX9_at (0, 0) [.ref b2, .int (l5 - 1)] M3 (fun v4 M4 => ((v3 = l1 → Go d mX6_typeOneMore Q 114 ([some (.ref l0), some (.int l1), some (.ref l2), some (.ref l3), none, some (.int l5), some (.int v2), none, some (.int (if l4 < ((if v4 < v2 then v4 else v2) + 3) then l4 else ((if v4 < v2 then v4 else v2) + 3)))], [], c, s) M4) ∧ (¬ v3 = l1 → pK M4 l3 = (1, 4) ∧ pCall_i d mX4_areNeighbours (0, 0) [.ref l3, .int v3, .int l1] M4 (fun v5 M5 => ((v5 = 0 → Go d mX6_typeOneMore Q 114 ([some (.ref l0), some (.int l1), some (.ref l2), some (.ref l3), none, some (.int l5), some (.int v2), none, some (.int ((if v4 < v2 then v4 else v2) + 3))], [], c, s) M5) ∧ (¬ v5 = 0 → Go d mX6_typeOneMore Q 114 ([some (.ref l0), some (.int l1), some (.ref l2), some (.ref l3), none, some (.int l5), some (.int v2), none, some (.int (if (l4 + 2) < ((if v4 < v2 then v4 else v2) + 3) then (l4 + 2) else ((if v4 < v2 then v4 else v2) + 3)))], [], c, s) M5)))))))))))) : Go d mX6_typeOneMore Q 25 ([some (.ref l0), some (.int l1), some (.ref l2), some (.ref l3), some (.int l4), some (.int l5), none, none, none], [], c, s) M := by
  refine st_iload oX6_typeOneMore_25 rfl ?_
  refine st_aload oX6_typeOneMore_27 rfl ?_
  obtain ⟨hK, h⟩ := h
  refine st_callV0_i [] oX6_typeOneMore_28 rfl rfl hK (ps8 rfl) (pCall_i.mono h (fun v1 M1 h => ?_))
  refine st_icmp oX6_typeOneMore_31 (fun g => ?_) (fun g => ?_)
  · have h := h.1 g
    exact st_vret oX6_typeOneMore_135 h
  · have h := h.2 g
    refine st_aload oX6_typeOneMore_34 rfl ?_
    obtain ⟨hK, b1, hP, h⟩ := h
    refine st_getP oX6_typeOneMore_35 hK hP ?_
    refine st_iload oX6_typeOneMore_38 rfl ?_
    obtain ⟨hK, h⟩ := h
    refine st_callV0_i [.int l5] oX6_typeOneMore_40 rfl rfl hK (ps8 rfl) (pCall_i.mono h (fun v2 M2 h => ?_))
    refine st_istore (L2 := [some (.ref l0), some (.int l1), some (.ref l2), some (.ref l3), some (.int l4), some (.int l5), some (.int v2), none, none]) oX6_typeOneMore_43 (by decide) rfl rfl ?_
    refine st_aload oX6_typeOneMore_45 rfl ?_
    refine st_iload oX6_typeOneMore_46 rfl ?_
    refine st_const oX6_typeOneMore_48 ?_
    refine st_ibin oX6_typeOneMore_49 ?_
    obtain ⟨hK, h⟩ := h
    refine st_callV0_i [.int (l5 - 1)] oX6_typeOneMore_50 rfl rfl hK (ps8 rfl) (pCall_i.mono h (fun v3 M3 h => ?_))
    refine st_istore (L2 := [some (.ref l0), some (.int l1), some (.ref l2), some (.ref l3), some (.int l4), some (.int l5), some (.int v2), some (.int v3), none]) oX6_typeOneMore_53 (by decide) rfl rfl ?_
    refine st_iload oX6_typeOneMore_55 rfl ?_
    refine st_aload oX6_typeOneMore_57 rfl ?_
    obtain ⟨hK, b2, hP, h⟩ := h
    refine st_getP oX6_typeOneMore_58 hK hP ?_
    refine st_iload oX6_typeOneMore_61 rfl ?_
    refine st_const oX6_typeOneMore_63 ?_
    refine st_ibin oX6_typeOneMore_64 ?_
    obtain ⟨hK, h⟩ := h
    refine st_callV0_i [.int (l5 - 1)] oX6_typeOneMore_65 rfl rfl hK (ps8 rfl) (pCall_i.mono h (fun v4 M4 h => ?_))
    refine st_min oX6_typeOneMore_68 (ps8 rfl) ?_
    refine st_const oX6_typeOneMore_71 ?_
    refine st_ibin oX6_typeOneMore_72 ?_
    refine st_istore (L2 := [some (.ref l0), some (.int l1), some (.ref l2), some (.ref l3), some (.int l4), some (.int l5), some (.int v2), some (.int v3), some (.int ((if v4 < v2 then v4 else v2) + 3))]) oX6_typeOneMore_73 (by decide) rfl rfl ?_
    refine st_iload oX6_typeOneMore_75 rfl ?_
    refine st_iload oX6_typeOneMore_77 rfl ?_
    refine st_icmp oX6_typeOneMore_78 (fun g => ?_) (fun g => ?_)
    · have h := h.1 g
      refine st_iload oX6_typeOneMore_81 rfl ?_
      refine st_iload oX6_typeOneMore_83 rfl ?_
      refine st_min oX6_typeOneMore_85 (ps8 rfl) ?_
      refine st_istore (L2 := [some (.ref l0), some (.int l1), some (.ref l2), some (.ref l3), some (.int l4), some (.int l5), some (.int v2), some (.int v3), some (.int (if l4 < ((if v4 < v2 then v4 else v2) + 3) then l4 else ((if v4 < v2 then v4 else v2) + 3)))]) oX6_typeOneMore_88 (by decide) rfl rfl ?_
      refine st_goto oX6_typeOneMore_90 ?_
      exact Go.wk (L := [some (.ref l0), some (.int l1), some (.ref l2), some (.ref l3), none, some (.int l5), some (.int v2), none, some (.int (if l4 < ((if v4 < v2 then v4 else v2) + 3) then l4 else ((if v4 < v2 then v4 else v2) + 3)))]) (And.intro (Or.inr rfl) (And.intro (Or.inr rfl) (And.intro (Or.inr rfl) (And.intro (Or.inr rfl) (And.intro (Or.inl rfl) (And.intro (Or.inr rfl) (And.intro (Or.inr rfl) (And.intro (Or.inl rfl) (And.intro (Or.inr rfl) True.intro))))))))) h
    · have h := h.2 g
      refine st_aload oX6_typeOneMore_93 rfl ?_
      refine st_iload oX6_typeOneMore_94 rfl ?_
      refine st_iload oX6_typeOneMore_96 rfl ?_
      obtain ⟨hK, h⟩ := h
      refine st_callV0_i [.int v3, .int l1] oX6_typeOneMore_97 rfl rfl hK (ps8 rfl) (pCall_i.mono h (fun v5 M5 h => ?_))
      refine st_if oX6_typeOneMore_100 (fun g => ?_) (fun g => ?_)
      · have h := h.1 g
        exact Go.wk (L := [some (.ref l0), some (.int l1), some (.ref l2), some (.ref l3), none, some (.int l5), some (.int v2), none, some (.int ((if v4 < v2 then v4 else v2) + 3))]) (And.intro (Or.inr rfl) (And.intro (Or.inr rfl) (And.intro (Or.inr rfl) (And.intro (Or.inr rfl) (And.intro (Or.inl rfl) (And.intro (Or.inr rfl) (And.intro (Or.inr rfl) (And.intro (Or.inl rfl) (And.intro (Or.inr rfl) True.intro))))))))) h
      · have h := h.2 g
        refine st_iload oX6_typeOneMore_103 rfl ?_
        refine st_iload oX6_typeOneMore_105 rfl ?_
        refine st_const oX6_typeOneMore_107 ?_
        refine st_ibin oX6_typeOneMore_108 ?_
        refine st_min oX6_typeOneMore_109 (ps8 rfl) ?_
        refine st_istore (L2 := [some (.ref l0), some (.int l1), some (.ref l2), some (.ref l3), some (.int l4), some (.int l5), some (.int v2), some (.int v3), some (.int (if (l4 + 2) < ((if v4 < v2 then v4 else v2) + 3) then (l4 + 2) else ((if v4 < v2 then v4 else v2) + 3)))]) oX6_typeOneMore_112 (by decide) rfl rfl ?_
        exact Go.wk (L := [some (.ref l0), some (.int l1), some (.ref l2), some (.ref l3), none, some (.int l5), some (.int v2), none, some (.int (if (l4 + 2) < ((if v4 < v2 then v4 else v2) + 3) then (l4 + 2) else ((if v4 < v2 then v4 else v2) + 3)))]) (And.intro (Or.inr rfl) (And.intro (Or.inr rfl) (And.intro (Or.inr rfl) (And.intro (Or.inr rfl) (And.intro (Or.inl rfl) (And.intro (Or.inr rfl) (And.intro (Or.inr rfl) (And.intro (Or.inl rfl) (And.intro (Or.inr rfl) True.intro))))))))) h
theorem bX6_typeOneMore_114 {d : Nat} {Q : pR → pM → Prop} {c s : Nat} {M : pM} {l0 : Nat} {l1 : Int32} {l2 : Nat} {l3 : Nat} {l5 : Int32} {l6 : Int32} {l8 : Int32} (h : pK M l0 = (1, 6) ∧ ∃ b1 : Nat, pP M l0 4 = b1 + 1 ∧ pK M b1 = (1, 9) ∧ pCall_v d mX9_put (0, 0) [.ref b1, .int l5, .int l8] M (fun M1 => Go d mX6_typeOneMore Q 25 ([some (.ref l0), some (.int l1), some (.ref l2), some (.ref l3), some (.int l6), some (.int (l5 + 1)), none, none, none], [], c, s) M1)) : Go d mX6_typeOneMore Q 114 ([some (.ref l0), some (.int l1), some (.ref l2), some (.ref l3), none, some (.int l5), some (.int l6), none, some (.int l8)], [], c, s) M := by
  refine st_aload oX6_typeOneMore_114 rfl ?_
  obtain ⟨hK, b1, hP, h⟩ := h
  refine st_getP oX6_typeOneMore_115 hK hP ?_
  refine st_iload oX6_typeOneMore_118 rfl ?_
  refine st_iload oX6_typeOneMore_120 rfl ?_
  obtain ⟨hK, h⟩ := h
  refine st_callV0_v [.int l5, .int l8] oX6_typeOneMore_122 rfl rfl hK (ps8 rfl) (pCall_v.mono h (fun M1 h => ?_))
  refine st_iload oX6_typeOneMore_125 rfl ?_
  refine st_istore (L2 := [some (.ref l0), some (.int l1), some (.ref l2), some (.ref l3), some (.int l6), some (.int l5), some (.int l6), none, some (.int l8)]) oX6_typeOneMore_127 (by decide) rfl rfl ?_
  refine st_iinc (L2 := [some (.ref l0), some (.int l1), some (.ref l2), some (.ref l3), some (.int l6), some (.int (l5 + 1)), some (.int l6), none, some (.int l8)]) oX6_typeOneMore_129 rfl (by decide) rfl rfl ?_
  refine st_goto oX6_typeOneMore_132 ?_
  exact Go.wk (L := [some (.ref l0), some (.int l1), some (.ref l2), some (.ref l3), some (.int l6), some (.int (l5 + 1)), none, none, none]) (And.intro (Or.inr rfl) (And.intro (Or.inr rfl) (And.intro (Or.inr rfl) (And.intro (Or.inr rfl) (And.intro (Or.inr rfl) (And.intro (Or.inr rfl) (And.intro (Or.inl rfl) (And.intro (Or.inr rfl) (And.intro (Or.inl rfl) True.intro))))))))) h
