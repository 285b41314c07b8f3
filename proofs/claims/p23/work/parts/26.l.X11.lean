theorem bX11_init_0 {d : Nat} {Q : pR → pM → Prop} {c s : Nat} {M : pM} {l0 : Nat} (h : 1 ≤ c ∧ 2 ≤ s ∧ pN M < pBIG ∧ ∀ N1 : pM, N1 = (pnew M (1, 9)) → (∃ rs1 : Nat × Nat, rs1.1 ≤ (c - 1) ∧ rs1.2 ≤ (s - 2) ∧ pCall_v d mX9_init rs1 [.ref (pN M), .int 2000] N1 (fun M1 => pK M1 l0 = (1, 11) ∧ ∀ N2 : pM, N2 = (psP M1 l0 0 ((pN M) + 1)) → (1 ≤ ((c - 1) - rs1.1) ∧ 3 ≤ ((s - 2) - rs1.2) ∧ pN N2 < pBIG ∧ ∀ N3 : pM, N3 = (pnew N2 (1, 7)) → (∃ rs2 : Nat × Nat, rs2.1 ≤ (((c - 1) - rs1.1) - 1) ∧ rs2.2 ≤ (((s - 2) - rs1.2) - 3) ∧ pCall_v d mX7_init rs2 [.ref (pN N2)] N3 (fun M2 => pK M2 l0 = (1, 11) ∧ ∀ N4 : pM, N4 = (psP M2 l0 1 ((pN N2) + 1)) → (1 ≤ ((((c - 1) - rs1.1) - 1) - rs2.1) ∧ 6 ≤ ((((s - 2) - rs1.2) - 3) - rs2.2) ∧ pN N4 < pBIG ∧ ∀ N5 : pM, N5 = (pnew N4 (1, 0)) → (∃ rs3 : Nat × Nat, rs3.1 ≤ (((((c - 1) - rs1.1) - 1) - rs2.1) - 1) ∧ rs3.2 ≤ (((((s - 2) - rs1.2) - 3) - rs2.2) - 6) ∧ pCall_v d mX0_init rs3 [.ref (pN N4)] N5 (fun M3 => pK M3 l0 = (1, 11) ∧ ∀ N6 : pM, N6 = (psP M3 l0 2 ((pN N4) + 1)) → (1 ≤ ((((((c - 1) - rs1.1) - 1) - rs2.1) - 1) - rs3.1) ∧ 6 ≤ ((((((s - 2) - rs1.2) - 3) - rs2.2) - 6) - rs3.2) ∧ pN N6 < pBIG ∧ ∀ N7 : pM, N7 = (pnew N6 (1, 0)) → (∃ rs4 : Nat × Nat, rs4.1 ≤ (((((((c - 1) - rs1.1) - 1) - rs2.1) - 1) - rs3.1) - 1) ∧ rs4.2 ≤ (((((((s - 2) - rs1.2) - 3) - rs2.2) - 6) - rs3.2) - 6) ∧ pCall_v d mX0_init rs4 [.ref (pN N6)] N7 (fun M4 => pK M4 l0 = (1, 11) ∧ ∀ N8 : pM, N8 = (psP M4 l0 3 ((pN N6) + 1)) → (1 ≤ ((((((((c - 1) - rs1.1) - 1) - rs2.1) - 1) - rs3.1) - 1) - rs4.1) ∧ 4 ≤ ((((((((s - 2) - rs1.2) - 3) - rs2.2) - 6) - rs3.2) - 6) - rs4.2) ∧ pN N8 < pBIG ∧ ∀ N9 : pM, N9 = (pnew N8 (1, 3)) → (∃ rs5 : Nat × Nat, rs5.1 ≤ (((((((((c - 1) - rs1.1) - 1) - rs2.1) - 1) - rs3.1) - 1) - rs4.1) - 1) ∧ rs5.2 ≤ (((((((((s - 2) - rs1.2) - 3) - rs2.2) - 6) - rs3.2) - 6) - rs4.2) - 4) ∧ pCall_v d mX3_init rs5 [.ref (pN N8)] N9 (fun M5 => pK M5 l0 = (1, 11) ∧ ∀ N10 : pM, N10 = (psP M5 l0 4 ((pN N8) + 1)) → (1 ≤ ((((((((((c - 1) - rs1.1) - 1) - rs2.1) - 1) - rs3.1) - 1) - rs4.1) - 1) - rs5.1) ∧ 7 ≤ ((((((((((s - 2) - rs1.2) - 3) - rs2.2) - 6) - rs3.2) - 6) - rs4.2) - 4) - rs5.2) ∧ pN N10 < pBIG ∧ ∀ N11 : pM, N11 = (pnew N10 (1, 6)) → (∃ rs6 : Nat × Nat, rs6.1 ≤ (((((((((((c - 1) - rs1.1) - 1) - rs2.1) - 1) - rs3.1) - 1) - rs4.1) - 1) - rs5.1) - 1) ∧ rs6.2 ≤ (((((((((((s - 2) - rs1.2) - 3) - rs2.2) - 6) - rs3.2) - 6) - rs4.2) - 4) - rs5.2) - 7) ∧ pCall_v d mX6_init rs6 [.ref (pN N10)] N11 (fun M6 => pK M6 l0 = (1, 11) ∧ ∀ N12 : pM, N12 = (psP M6 l0 5 ((pN N10) + 1)) → (pK N12 l0 = (1, 11) ∧ ∀ N13 : pM, N13 = (psI N12 l0 6 0) → (1 ≤ ((((((((((((c - 1) - rs1.1) - 1) - rs2.1) - 1) - rs3.1) - 1) - rs4.1) - 1) - rs5.1) - 1) - rs6.1) ∧ 4 ≤ ((((((((((((s - 2) - rs1.2) - 3) - rs2.2) - 6) - rs3.2) - 6) - rs4.2) - 4) - rs5.2) - 7) - rs6.2) ∧ pN N13 < pBIG ∧ ∀ N14 : pM, N14 = (pnew N13 (1, 3)) → (∃ rs7 : Nat × Nat, rs7.1 ≤ (((((((((((((c - 1) - rs1.1) - 1) - rs2.1) - 1) - rs3.1) - 1) - rs4.1) - 1) - rs5.1) - 1) - rs6.1) - 1) ∧ rs7.2 ≤ (((((((((((((s - 2) - rs1.2) - 3) - rs2.2) - 6) - rs3.2) - 6) - rs4.2) - 4) - rs5.2) - 7) - rs6.2) - 4) ∧ pCall_v d mX3_init rs7 [.ref (pN N13)] N14 (fun M7 => pK M7 l0 = (1, 11) ∧ ∀ N15 : pM, N15 = (psP M7 l0 7 ((pN N13) + 1)) → (1 ≤ ((((((((((((((c - 1) - rs1.1) - 1) - rs2.1) - 1) - rs3.1) - 1) - rs4.1) - 1) - rs5.1) - 1) - rs6.1) - 1) - rs7.1) ∧ 7 ≤ ((((((((((((((s - 2) - rs1.2) - 3) - rs2.2) - 6) - rs3.2) - 6) - rs4.2) - 4) - rs5.2) - 7) - rs6.2) - 4) - rs7.2) ∧ pN N15 < pBIG ∧ ∀ N16 : pM, N16 = (pnew N15 (1, 6)) → (∃ rs8 : Nat × Nat, rs8.1 ≤ (((((((((((((((c - 1) - rs1.1) - 1) - rs2.1) - 1) - rs3.1) - 1) - rs4.1) - 1) - rs5.1) - 1) - rs6.1) - 1) - rs7.1) - 1) ∧ rs8.2 ≤ (((((((((((((((s - 2) - rs1.2) - 3) - rs2.2) - 6) - rs3.2) - 6) - rs4.2) - 4) - rs5.2) - 7) - rs6.2) - 4) - rs7.2) - 7) ∧ pCall_v d mX6_init rs8 [.ref (pN N15)] N16 (fun M8 => pK M8 l0 = (1, 11) ∧ ∀ N17 : pM, N17 = (psP M8 l0 8 ((pN N15) + 1)) → (pK N17 l0 = (1, 11) ∧ ∀ N18 : pM, N18 = (psI N17 l0 9 (-1)) → (Q (.inl none) N18))))))))))))))))))))))))))) : Go d mX11_init Q 0 ([some (.ref l0)], [], c, s) M := by
  refine st_aload oX11_init_0 rfl ?_
  refine st_objinit oX11_init_1 (ps8 rfl) ?_
  refine st_aload oX11_init_4 rfl ?_
  obtain ⟨h1, h2, h3, h⟩ := h
  refine st_new oX11_init_5 h1 h2 h3 ?_
  refine st_nm (fun N1 eN1 => ?_)
  have h := h N1 eN1
  refine st_dup oX11_init_8 rfl ?_
  refine st_const oX11_init_9 ?_
  obtain ⟨rs1, h1, h2, h⟩ := h
  refine st_callI_v [.int 2000] oX11_init_12 rfl rfl (ps8 rfl) h1 h2 (pCall_v.mono h (fun M1 h => ?_))
  obtain ⟨hK, h⟩ := h
  refine st_putP oX11_init_15 hK ?_
  refine st_nm (fun N2 eN2 => ?_)
  have h := h N2 eN2
  refine st_aload oX11_init_18 rfl ?_
  obtain ⟨h1, h2, h3, h⟩ := h
  refine st_new oX11_init_19 h1 h2 h3 ?_
  refine st_nm (fun N3 eN3 => ?_)
  have h := h N3 eN3
  refine st_dup oX11_init_22 rfl ?_
  obtain ⟨rs2, h1, h2, h⟩ := h
  refine st_callI_v [] oX11_init_23 rfl rfl (ps8 rfl) h1 h2 (pCall_v.mono h (fun M2 h => ?_))
  obtain ⟨hK, h⟩ := h
  refine st_putP oX11_init_26 hK ?_
  refine st_nm (fun N4 eN4 => ?_)
  have h := h N4 eN4
  refine st_aload oX11_init_29 rfl ?_
  obtain ⟨h1, h2, h3, h⟩ := h
  refine st_new oX11_init_30 h1 h2 h3 ?_
  refine st_nm (fun N5 eN5 => ?_)
  have h := h N5 eN5
  refine st_dup oX11_init_33 rfl ?_
  obtain ⟨rs3, h1, h2, h⟩ := h
  refine st_callI_v [] oX11_init_34 rfl rfl (ps8 rfl) h1 h2 (pCall_v.mono h (fun M3 h => ?_))
  obtain ⟨hK, h⟩ := h
  refine st_putP oX11_init_37 hK ?_
  refine st_nm (fun N6 eN6 => ?_)
  have h := h N6 eN6
  refine st_aload oX11_init_40 rfl ?_
  obtain ⟨h1, h2, h3, h⟩ := h
  refine st_new oX11_init_41 h1 h2 h3 ?_
  refine st_nm (fun N7 eN7 => ?_)
  have h := h N7 eN7
  refine st_dup oX11_init_44 rfl ?_
  obtain ⟨rs4, h1, h2, h⟩ := h
  refine st_callI_v [] oX11_init_45 rfl rfl (ps8 rfl) h1 h2 (pCall_v.mono h (fun M4 h => ?_))
  obtain ⟨hK, h⟩ := h
  refine st_putP oX11_init_48 hK ?_
  refine st_nm (fun N8 eN8 => ?_)
  have h := h N8 eN8
  refine st_aload oX11_init_51 rfl ?_
  obtain ⟨h1, h2, h3, h⟩ := h
  refine st_new oX11_init_52 h1 h2 h3 ?_
  refine st_nm (fun N9 eN9 => ?_)
  have h := h N9 eN9
  refine st_dup oX11_init_55 rfl ?_
  obtain ⟨rs5, h1, h2, h⟩ := h
  refine st_callI_v [] oX11_init_56 rfl rfl (ps8 rfl) h1 h2 (pCall_v.mono h (fun M5 h => ?_))
  obtain ⟨hK, h⟩ := h
  refine st_putP oX11_init_59 hK ?_
  refine st_nm (fun N10 eN10 => ?_)
  have h := h N10 eN10
  refine st_aload oX11_init_62 rfl ?_
  obtain ⟨h1, h2, h3, h⟩ := h
  refine st_new oX11_init_63 h1 h2 h3 ?_
  refine st_nm (fun N11 eN11 => ?_)
  have h := h N11 eN11
  refine st_dup oX11_init_66 rfl ?_
  obtain ⟨rs6, h1, h2, h⟩ := h
  refine st_callI_v [] oX11_init_67 rfl rfl (ps8 rfl) h1 h2 (pCall_v.mono h (fun M6 h => ?_))
  obtain ⟨hK, h⟩ := h
  refine st_putP oX11_init_70 hK ?_
  refine st_nm (fun N12 eN12 => ?_)
  have h := h N12 eN12
  refine st_aload oX11_init_73 rfl ?_
  refine st_const oX11_init_74 ?_
  obtain ⟨hK, h⟩ := h
  refine st_putZ oX11_init_75 hK (Or.inl rfl) ?_
  refine st_nm (fun N13 eN13 => ?_)
  have h := h N13 eN13
  refine st_aload oX11_init_78 rfl ?_
  obtain ⟨h1, h2, h3, h⟩ := h
  refine st_new oX11_init_79 h1 h2 h3 ?_
  refine st_nm (fun N14 eN14 => ?_)
  have h := h N14 eN14
  refine st_dup oX11_init_82 rfl ?_
  obtain ⟨rs7, h1, h2, h⟩ := h
  refine st_callI_v [] oX11_init_83 rfl rfl (ps8 rfl) h1 h2 (pCall_v.mono h (fun M7 h => ?_))
  obtain ⟨hK, h⟩ := h
  refine st_putP oX11_init_86 hK ?_
  refine st_nm (fun N15 eN15 => ?_)
  have h := h N15 eN15
  refine st_aload oX11_init_89 rfl ?_
  obtain ⟨h1, h2, h3, h⟩ := h
  refine st_new oX11_init_90 h1 h2 h3 ?_
  refine st_nm (fun N16 eN16 => ?_)
  have h := h N16 eN16
  refine st_dup oX11_init_93 rfl ?_
  obtain ⟨rs8, h1, h2, h⟩ := h
  refine st_callI_v [] oX11_init_94 rfl rfl (ps8 rfl) h1 h2 (pCall_v.mono h (fun M8 h => ?_))
  obtain ⟨hK, h⟩ := h
  refine st_putP oX11_init_97 hK ?_
  refine st_nm (fun N17 eN17 => ?_)
  have h := h N17 eN17
  refine st_aload oX11_init_100 rfl ?_
  refine st_const oX11_init_101 ?_
  obtain ⟨hK, h⟩ := h
  refine st_putI oX11_init_102 hK ?_
  refine st_nm (fun N18 eN18 => ?_)
  have h := h N18 eN18
  exact st_vret oX11_init_105 h
theorem bX11_feed_0 {d : Nat} {Q : pR → pM → Prop} {c s : Nat} {M : pM} {l0 : Nat} {l1 : Int32} {l2 : Int32} {l3 : Int32} {l4 : Int32} {l5 : Int32} (h : pK M l0 = (1, 11) ∧ ∃ b1 : Nat, pP M l0 0 = b1 + 1 ∧ pK M b1 = (1, 9) ∧ pCall_i d mX9_size (0, 0) [.ref b1] M (fun v1 M1 => (((v1 + 20) ≤ 2000 → pK M1 l0 = (1, 11) ∧ pCall_v d mX11_appendBytes (0, 0) [.ref l0, .int l1] M1 (fun M2 => pK M2 l0 = (1, 11) ∧ pCall_v d mX11_appendBytes (0, 0) [.ref l0, .int l2] M2 (fun M3 => pK M3 l0 = (1, 11) ∧ pCall_v d mX11_appendBytes (0, 0) [.ref l0, .int l3] M3 (fun M4 => pK M4 l0 = (1, 11) ∧ pCall_v d mX11_appendBytes (0, 0) [.ref l0, .int l4] M4 (fun M5 => pK M5 l0 = (1, 11) ∧ pCall_v d mX11_appendBytes (0, 0) [.ref l0, .int l5] M5 (fun M6 => pK M6 l0 = (1, 11) ∧ ∃ b2 : Nat, pP M6 l0 0 = b2 + 1 ∧ pK M6 b2 = (1, 9) ∧ pCall_i d mX9_size (0, 0) [.ref b2] M6 (fun v2 M7 => Q (.inl (some (.int v2))) M7))))))) ∧ (¬ (v1 + 20) ≤ 2000 → 1 ≤ c ∧ 6 ≤ s ∧ pN M1 < pBIG ∧ Q (.inr "java/lang/IllegalStateException") (pnew M1 (0, 0)))))) : Go d mX11_feed Q 0 ([some (.ref l0), some (.int l1), some (.int l2), some (.int l3), some (.int l4), some (.int l5)], [], c, s) M := by
  refine st_aload oX11_feed_0 rfl ?_
  obtain ⟨hK, b1, hP, h⟩ := h
  refine st_getP oX11_feed_1 hK hP ?_
  obtain ⟨hK, h⟩ := h
  refine st_callV0_i [] oX11_feed_4 rfl rfl hK (ps8 rfl) (pCall_i.mono h (fun v1 M1 h => ?_))
  refine st_const oX11_feed_7 ?_
  refine st_ibin oX11_feed_9 ?_
  refine st_const oX11_feed_10 ?_
  refine st_icmp oX11_feed_13 (fun g => ?_) (fun g => ?_)
  · have h := h.1 g
    refine st_aload oX11_feed_26 rfl ?_
    refine st_iload oX11_feed_27 rfl ?_
    obtain ⟨hK, h⟩ := h
    refine st_callV0_v [.int l1] oX11_feed_28 rfl rfl hK (ps8 rfl) (pCall_v.mono h (fun M2 h => ?_))
    refine st_aload oX11_feed_31 rfl ?_
    refine st_iload oX11_feed_32 rfl ?_
    obtain ⟨hK, h⟩ := h
    refine st_callV0_v [.int l2] oX11_feed_33 rfl rfl hK (ps8 rfl) (pCall_v.mono h (fun M3 h => ?_))
    refine st_aload oX11_feed_36 rfl ?_
    refine st_iload oX11_feed_37 rfl ?_
    obtain ⟨hK, h⟩ := h
    refine st_callV0_v [.int l3] oX11_feed_38 rfl rfl hK (ps8 rfl) (pCall_v.mono h (fun M4 h => ?_))
    refine st_aload oX11_feed_41 rfl ?_
    refine st_iload oX11_feed_42 rfl ?_
    obtain ⟨hK, h⟩ := h
    refine st_callV0_v [.int l4] oX11_feed_44 rfl rfl hK (ps8 rfl) (pCall_v.mono h (fun M5 h => ?_))
    refine st_aload oX11_feed_47 rfl ?_
    refine st_iload oX11_feed_48 rfl ?_
    obtain ⟨hK, h⟩ := h
    refine st_callV0_v [.int l5] oX11_feed_50 rfl rfl hK (ps8 rfl) (pCall_v.mono h (fun M6 h => ?_))
    refine st_aload oX11_feed_53 rfl ?_
    obtain ⟨hK, b2, hP, h⟩ := h
    refine st_getP oX11_feed_54 hK hP ?_
    obtain ⟨hK, h⟩ := h
    refine st_callV0_i [] oX11_feed_57 rfl rfl hK (ps8 rfl) (pCall_i.mono h (fun v2 M7 h => ?_))
    exact st_iret oX11_feed_60 h
  · have h := h.2 g
    exact st_throw oX11_feed_16 h.1 h.2.1 (ps8 rfl) h.2.2.1 h.2.2.2
theorem bX11_trim_0 {d : Nat} {Q : pR → pM → Prop} {c s : Nat} {M : pM} {l0 : Nat} {l1 : Int32} (h : ((l1 < 0 → 1 ≤ c ∧ 6 ≤ s ∧ pN M < pBIG ∧ Q (.inr "java/lang/IllegalArgumentException") (pnew M (0, 0))) ∧ (¬ l1 < 0 → pK M l0 = (1, 11) ∧ ∃ b1 : Nat, pP M l0 0 = b1 + 1 ∧ pK M b1 = (1, 9) ∧ pCall_i d mX9_size (0, 0) [.ref b1] M (fun v1 M1 => ((l1 ≤ v1 → pK M1 l0 = (1, 11) ∧ ∃ b2 : Nat, pP M1 l0 0 = b2 + 1 ∧ pK M1 b2 = (1, 9) ∧ pCall_v d mX9_shorten (0, 0) [.ref b2, .int l1] M1 (fun M2 => Q (.inl (some (.int l1))) M2)) ∧ (¬ l1 ≤ v1 → 1 ≤ c ∧ 6 ≤ s ∧ pN M1 < pBIG ∧ Q (.inr "java/lang/IllegalArgumentException") (pnew M1 (0, 0)))))))) : Go d mX11_trim Q 0 ([some (.ref l0), some (.int l1)], [], c, s) M := by
  refine st_iload oX11_trim_0 rfl ?_
  refine st_if oX11_trim_1 (fun g => ?_) (fun g => ?_)
  · have h := h.1 g
    exact st_throw oX11_trim_15 h.1 h.2.1 (ps8 rfl) h.2.2.1 h.2.2.2
  · have h := h.2 g
    refine st_iload oX11_trim_4 rfl ?_
    refine st_aload oX11_trim_5 rfl ?_
    obtain ⟨hK, b1, hP, h⟩ := h
    refine st_getP oX11_trim_6 hK hP ?_
    obtain ⟨hK, h⟩ := h
    refine st_callV0_i [] oX11_trim_9 rfl rfl hK (ps8 rfl) (pCall_i.mono h (fun v1 M1 h => ?_))
    refine st_icmp oX11_trim_12 (fun g => ?_) (fun g => ?_)
    · have h := h.1 g
      refine st_aload oX11_trim_25 rfl ?_
      obtain ⟨hK, b2, hP, h⟩ := h
      refine st_getP oX11_trim_26 hK hP ?_
      refine st_iload oX11_trim_29 rfl ?_
      obtain ⟨hK, h⟩ := h
      refine st_callV0_v [.int l1] oX11_trim_30 rfl rfl hK (ps8 rfl) (pCall_v.mono h (fun M2 h => ?_))
      refine st_iload oX11_trim_33 rfl ?_
      exact st_iret oX11_trim_34 h
    · have h := h.2 g
      exact st_throw oX11_trim_15 h.1 h.2.1 (ps8 rfl) h.2.2.1 h.2.2.2
theorem bX11_teach_0 {d : Nat} {Q : pR → pM → Prop} {c s : Nat} {M : pM} {l0 : Nat} (h : pK M l0 = (1, 11) ∧ ∃ b1 : Nat, pP M l0 1 = b1 + 1 ∧ pK M l0 = (1, 11) ∧ ∃ b2 : Nat, pP M l0 0 = b2 + 1 ∧ pK M l0 = (1, 11) ∧ ∃ b3 : Nat, pP M l0 3 = b3 + 1 ∧ pK M b1 = (1, 7) ∧ ∃ rs1 : Nat × Nat, rs1.1 ≤ c ∧ rs1.2 ≤ s ∧ pCall_i d mX7_read rs1 [.ref b1, .ref b2, .ref b3] M (fun v1 M1 => pK M1 l0 = (1, 11) ∧ ∃ b4 : Nat, pP M1 l0 1 = b4 + 1 ∧ pK M1 b4 = (1, 7) ∧ pCall_i d mX7_errorPosition (0, 0) [.ref b4] M1 (fun v2 M2 => pK M2 l0 = (1, 11) ∧ pK (psI M2 l0 9 v2) l0 = (1, 11) ∧ ∃ b5 : Nat, pP (psI M2 l0 9 v2) l0 0 = b5 + 1 ∧ pK (psI M2 l0 9 v2) b5 = (1, 9) ∧ pCall_v d mX9_clear (0, 0) [.ref b5] (psI M2 l0 9 v2) (fun M3 => ((v1 = 0 → pK M3 l0 = (1, 11) ∧ ∃ b6 : Nat, pP M3 l0 2 = b6 + 1 ∧ pK M3 l0 = (1, 11) ∧ ∃ b7 : Nat, pP M3 l0 3 = b7 + 1 ∧ pK M3 l0 = (1, 11) ∧ pK (psP M3 l0 2 (b7 + 1)) l0 = (1, 11) ∧ pK (psP (psP M3 l0 2 (b7 + 1)) l0 3 (b6 + 1)) l0 = (1, 11) ∧ ∃ b8 : Nat, pP (psP (psP M3 l0 2 (b7 + 1)) l0 3 (b6 + 1)) l0 4 = b8 + 1 ∧ pK (psP (psP M3 l0 2 (b7 + 1)) l0 3 (b6 + 1)) b8 = (1, 3) ∧ pCall_v d mX3_forget (0, 0) [.ref b8] (psP (psP M3 l0 2 (b7 + 1)) l0 3 (b6 + 1)) (fun M4 => pK M4 l0 = (1, 11) ∧ Q (.inl (some (.int v1))) (psI M4 l0 6 0))) ∧ (¬ v1 = 0 → Q (.inl (some (.int v1))) M3)))))) : Go d mX11_teach Q 0 ([some (.ref l0), none, none], [], c, s) M := by
  refine st_aload oX11_teach_0 rfl ?_
  obtain ⟨hK, b1, hP, h⟩ := h
  refine st_getP oX11_teach_1 hK hP ?_
  refine st_aload oX11_teach_4 rfl ?_
  obtain ⟨hK, b2, hP, h⟩ := h
  refine st_getP oX11_teach_5 hK hP ?_
  refine st_aload oX11_teach_8 rfl ?_
  obtain ⟨hK, b3, hP, h⟩ := h
  refine st_getP oX11_teach_9 hK hP ?_
  obtain ⟨hK, rs1, h1, h2, h⟩ := h
  refine st_callV_i [.ref b2, .ref b3] oX11_teach_12 rfl rfl hK (ps8 rfl) h1 h2 (pCall_i.mono h (fun v1 M1 h => ?_))
  refine st_istore (L2 := [some (.ref l0), some (.int v1), none]) oX11_teach_15 (by decide) rfl rfl ?_
  refine st_aload oX11_teach_16 rfl ?_
  refine st_aload oX11_teach_17 rfl ?_
  obtain ⟨hK, b4, hP, h⟩ := h
  refine st_getP oX11_teach_18 hK hP ?_
  obtain ⟨hK, h⟩ := h
  refine st_callV0_i [] oX11_teach_21 rfl rfl hK (ps8 rfl) (pCall_i.mono h (fun v2 M2 h => ?_))
  obtain ⟨hK, h⟩ := h
  refine st_putI oX11_teach_24 hK ?_
  refine st_aload oX11_teach_27 rfl ?_
  obtain ⟨hK, b5, hP, h⟩ := h
  refine st_getP oX11_teach_28 hK hP ?_
  obtain ⟨hK, h⟩ := h
  refine st_callV0_v [] oX11_teach_31 rfl rfl hK (ps8 rfl) (pCall_v.mono h (fun M3 h => ?_))
  refine st_iload oX11_teach_34 rfl ?_
  refine st_if oX11_teach_35 (fun g => ?_) (fun g => ?_)
  · have h := h.1 g
    refine st_aload oX11_teach_38 rfl ?_
    obtain ⟨hK, b6, hP, h⟩ := h
    refine st_getP oX11_teach_39 hK hP ?_
    refine st_astore (L2 := [some (.ref l0), some (.int v1), some (.ref b6)]) oX11_teach_42 (by decide) rfl rfl ?_
    refine st_aload oX11_teach_43 rfl ?_
    refine st_aload oX11_teach_44 rfl ?_
    obtain ⟨hK, b7, hP, h⟩ := h
    refine st_getP oX11_teach_45 hK hP ?_
    obtain ⟨hK, h⟩ := h
    refine st_putP oX11_teach_48 hK ?_
    refine st_aload oX11_teach_51 rfl ?_
    refine st_aload oX11_teach_52 rfl ?_
    obtain ⟨hK, h⟩ := h
    refine st_putP oX11_teach_53 hK ?_
    refine st_aload oX11_teach_56 rfl ?_
    obtain ⟨hK, b8, hP, h⟩ := h
    refine st_getP oX11_teach_57 hK hP ?_
    obtain ⟨hK, h⟩ := h
    refine st_callV0_v [] oX11_teach_60 rfl rfl hK (ps8 rfl) (pCall_v.mono h (fun M4 h => ?_))
    refine st_aload oX11_teach_63 rfl ?_
    refine st_const oX11_teach_64 ?_
    obtain ⟨hK, h⟩ := h
    refine st_putZ oX11_teach_65 hK (Or.inl rfl) ?_
    refine st_iload oX11_teach_68 rfl ?_
    exact st_iret oX11_teach_69 h
  · have h := h.2 g
    refine st_iload oX11_teach_68 rfl ?_
    exact st_iret oX11_teach_69 h
theorem bX11_count_0 {d : Nat} {Q : pR → pM → Prop} {c s : Nat} {M : pM} {l0 : Nat} {l1 : Int32} (h : ((l1 < 0 → 1 ≤ c ∧ 6 ≤ s ∧ pN M < pBIG ∧ Q (.inr "java/lang/IndexOutOfBoundsException") (pnew M (0, 0))) ∧ (¬ l1 < 0 → ((l1 < 13 → pK M l0 = (1, 11) ∧ pCall_v d mX11_rank (0, 0) [.ref l0] M (fun M1 => pK M1 l0 = (1, 11) ∧ pCall_i d mX11_figure (0, 0) [.ref l0, .int l1] M1 (fun v1 M2 => Q (.inl (some (.int v1))) M2))) ∧ (¬ l1 < 13 → 1 ≤ c ∧ 6 ≤ s ∧ pN M < pBIG ∧ Q (.inr "java/lang/IndexOutOfBoundsException") (pnew M (0, 0))))))) : Go d mX11_count Q 0 ([some (.ref l0), some (.int l1)], [], c, s) M := by
  refine st_iload oX11_count_0 rfl ?_
  refine st_if oX11_count_1 (fun g => ?_) (fun g => ?_)
  · have h := h.1 g
    exact st_throw oX11_count_10 h.1 h.2.1 (ps8 rfl) h.2.2.1 h.2.2.2
  · have h := h.2 g
    refine st_iload oX11_count_4 rfl ?_
    refine st_const oX11_count_5 ?_
    refine st_icmp oX11_count_7 (fun g => ?_) (fun g => ?_)
    · have h := h.1 g
      refine st_aload oX11_count_20 rfl ?_
      obtain ⟨hK, h⟩ := h
      refine st_callV0_v [] oX11_count_21 rfl rfl hK (ps8 rfl) (pCall_v.mono h (fun M1 h => ?_))
      refine st_aload oX11_count_24 rfl ?_
      refine st_iload oX11_count_25 rfl ?_
      obtain ⟨hK, h⟩ := h
      refine st_callV0_i [.int l1] oX11_count_26 rfl rfl hK (ps8 rfl) (pCall_i.mono h (fun v1 M2 h => ?_))
      exact st_iret oX11_count_29 h
    · have h := h.2 g
      exact st_throw oX11_count_10 h.1 h.2.1 (ps8 rfl) h.2.2.1 h.2.2.2
theorem bX11_type_0 {d : Nat} {Q : pR → pM → Prop} {c s : Nat} {M : pM} {l0 : Nat} {l1 : Int32} (h : pCall_i d mX11_isLetter (0, 0) [.int l1] M (fun v1 M1 => ((v1 = 0 → 1 ≤ c ∧ 6 ≤ s ∧ pN M1 < pBIG ∧ Q (.inr "java/lang/IllegalArgumentException") (pnew M1 (0, 0))) ∧ (¬ v1 = 0 → pK M1 l0 = (1, 11) ∧ ∃ b1 : Nat, pP M1 l0 4 = b1 + 1 ∧ pK M1 b1 = (1, 3) ∧ ∃ b2 : Nat, pP M1 b1 0 = b2 + 1 ∧ pK M1 b2 = (1, 9) ∧ pCall_i d mX9_isFull (0, 0) [.ref b2] M1 (fun v2 M2 => ((v2 = 0 → pK M2 l0 = (1, 11) ∧ ∃ b3 : Nat, pP M2 l0 4 = b3 + 1 ∧ pK M2 b3 = (1, 3) ∧ ∃ b4 : Nat, pP M2 b3 0 = b4 + 1 ∧ pK M2 b4 = (1, 9) ∧ pCall_v d mX9_add (0, 0) [.ref b4, .int l1] M2 (fun M3 => pK M3 l0 = (1, 11) ∧ pK (psI M3 l0 6 0) l0 = (1, 11) ∧ ∃ b5 : Nat, pP (psI M3 l0 6 0) l0 4 = b5 + 1 ∧ pK (psI M3 l0 6 0) b5 = (1, 3) ∧ ∃ b6 : Nat, pP (psI M3 l0 6 0) b5 0 = b6 + 1 ∧ pK (psI M3 l0 6 0) b6 = (1, 9) ∧ pCall_i d mX9_size (0, 0) [.ref b6] (psI M3 l0 6 0) (fun v3 M4 => Q (.inl (some (.int v3))) M4))) ∧ (¬ v2 = 0 → 1 ≤ c ∧ 6 ≤ s ∧ pN M2 < pBIG ∧ Q (.inr "java/lang/IllegalStateException") (pnew M2 (0, 0))))))))) : Go d mX11_type Q 0 ([some (.ref l0), some (.int l1)], [], c, s) M := by
  refine st_iload oX11_type_0 rfl ?_
  refine st_callS0_i [.int l1] oX11_type_1 rfl rfl (ps8 rfl) (pCall_i.mono h (fun v1 M1 h => ?_))
  refine st_if oX11_type_4 (fun g => ?_) (fun g => ?_)
  · have h := h.1 g
    exact st_throw oX11_type_7 h.1 h.2.1 (ps8 rfl) h.2.2.1 h.2.2.2
  · have h := h.2 g
    refine st_aload oX11_type_17 rfl ?_
    obtain ⟨hK, b1, hP, h⟩ := h
    refine st_getP oX11_type_18 hK hP ?_
    obtain ⟨hK, b2, hP, h⟩ := h
    refine st_getP oX11_type_21 hK hP ?_
    obtain ⟨hK, h⟩ := h
    refine st_callV0_i [] oX11_type_24 rfl rfl hK (ps8 rfl) (pCall_i.mono h (fun v2 M2 h => ?_))
    refine st_if oX11_type_27 (fun g => ?_) (fun g => ?_)
    · have h := h.1 g
      refine st_aload oX11_type_40 rfl ?_
      obtain ⟨hK, b3, hP, h⟩ := h
      refine st_getP oX11_type_41 hK hP ?_
      obtain ⟨hK, b4, hP, h⟩ := h
      refine st_getP oX11_type_44 hK hP ?_
      refine st_iload oX11_type_47 rfl ?_
      obtain ⟨hK, h⟩ := h
      refine st_callV0_v [.int l1] oX11_type_48 rfl rfl hK (ps8 rfl) (pCall_v.mono h (fun M3 h => ?_))
      refine st_aload oX11_type_51 rfl ?_
      refine st_const oX11_type_52 ?_
      obtain ⟨hK, h⟩ := h
      refine st_putZ oX11_type_53 hK (Or.inl rfl) ?_
      refine st_aload oX11_type_56 rfl ?_
      obtain ⟨hK, b5, hP, h⟩ := h
      refine st_getP oX11_type_57 hK hP ?_
      obtain ⟨hK, b6, hP, h⟩ := h
      refine st_getP oX11_type_60 hK hP ?_
      obtain ⟨hK, h⟩ := h
      refine st_callV0_i [] oX11_type_63 rfl rfl hK (ps8 rfl) (pCall_i.mono h (fun v3 M4 h => ?_))
      exact st_iret oX11_type_66 h
    · have h := h.2 g
      exact st_throw oX11_type_30 h.1 h.2.1 (ps8 rfl) h.2.2.1 h.2.2.2
theorem bX11_back_0 {d : Nat} {Q : pR → pM → Prop} {c s : Nat} {M : pM} {l0 : Nat} (h : pK M l0 = (1, 11) ∧ ∃ b1 : Nat, pP M l0 4 = b1 + 1 ∧ pK M b1 = (1, 3) ∧ ∃ b2 : Nat, pP M b1 0 = b2 + 1 ∧ pK M b2 = (1, 9) ∧ pCall_i d mX9_size (0, 0) [.ref b2] M (fun v1 M1 => ((v1 = 0 → 1 ≤ c ∧ 6 ≤ s ∧ pN M1 < pBIG ∧ Q (.inr "java/lang/IllegalStateException") (pnew M1 (0, 0))) ∧ (¬ v1 = 0 → pK M1 l0 = (1, 11) ∧ pK (psI M1 l0 6 0) l0 = (1, 11) ∧ ∃ b3 : Nat, pP (psI M1 l0 6 0) l0 4 = b3 + 1 ∧ pK (psI M1 l0 6 0) b3 = (1, 3) ∧ ∃ b4 : Nat, pP (psI M1 l0 6 0) b3 0 = b4 + 1 ∧ pK (psI M1 l0 6 0) b4 = (1, 9) ∧ pCall_i d mX9_removeLast (0, 0) [.ref b4] (psI M1 l0 6 0) (fun v2 M2 => Q (.inl (some (.int v2))) M2))))) : Go d mX11_back Q 0 ([some (.ref l0)], [], c, s) M := by
  refine st_aload oX11_back_0 rfl ?_
  obtain ⟨hK, b1, hP, h⟩ := h
  refine st_getP oX11_back_1 hK hP ?_
  obtain ⟨hK, b2, hP, h⟩ := h
  refine st_getP oX11_back_4 hK hP ?_
  obtain ⟨hK, h⟩ := h
  refine st_callV0_i [] oX11_back_7 rfl rfl hK (ps8 rfl) (pCall_i.mono h (fun v1 M1 h => ?_))
  refine st_if oX11_back_10 (fun g => ?_) (fun g => ?_)
  · have h := h.1 g
    exact st_throw oX11_back_13 h.1 h.2.1 (ps8 rfl) h.2.2.1 h.2.2.2
  · have h := h.2 g
    refine st_aload oX11_back_23 rfl ?_
    refine st_const oX11_back_24 ?_
    obtain ⟨hK, h⟩ := h
    refine st_putZ oX11_back_25 hK (Or.inl rfl) ?_
    refine st_aload oX11_back_28 rfl ?_
    obtain ⟨hK, b3, hP, h⟩ := h
    refine st_getP oX11_back_29 hK hP ?_
    obtain ⟨hK, b4, hP, h⟩ := h
    refine st_getP oX11_back_32 hK hP ?_
    obtain ⟨hK, h⟩ := h
    refine st_callV0_i [] oX11_back_35 rfl rfl hK (ps8 rfl) (pCall_i.mono h (fun v2 M2 h => ?_))
    exact st_iret oX11_back_38 h
theorem bX11_take_0 {d : Nat} {Q : pR → pM → Prop} {c s : Nat} {M : pM} {l0 : Nat} {l1 : Int32} (h : ((l1 < 0 → 1 ≤ c ∧ 6 ≤ s ∧ pN M < pBIG ∧ Q (.inr "java/lang/IndexOutOfBoundsException") (pnew M (0, 0))) ∧ (¬ l1 < 0 → ((l1 < 5 → pK M l0 = (1, 11) ∧ pCall_v d mX11_rank (0, 0) [.ref l0] M (fun M1 => pK M1 l0 = (1, 11) ∧ ∃ b1 : Nat, pP M1 l0 5 = b1 + 1 ∧ pK M1 b1 = (1, 6) ∧ pCall_i d mX6_offered (0, 0) [.ref b1, .int l1] M1 (fun v1 M2 => ((0 ≤ v1 → pK M2 l0 = (1, 11) ∧ pCall_v d mX11_takeWord (0, 0) [.ref l0, .int v1] M2 (fun M3 => Q (.inl (some (.int v1))) M3)) ∧ (¬ 0 ≤ v1 → 1 ≤ c ∧ 6 ≤ s ∧ pN M2 < pBIG ∧ Q (.inr "java/lang/IllegalStateException") (pnew M2 (0, 0))))))) ∧ (¬ l1 < 5 → 1 ≤ c ∧ 6 ≤ s ∧ pN M < pBIG ∧ Q (.inr "java/lang/IndexOutOfBoundsException") (pnew M (0, 0))))))) : Go d mX11_take Q 0 ([some (.ref l0), some (.int l1), none], [], c, s) M := by
  refine st_iload oX11_take_0 rfl ?_
  refine st_if oX11_take_1 (fun g => ?_) (fun g => ?_)
  · have h := h.1 g
    exact st_throw oX11_take_9 h.1 h.2.1 (ps8 rfl) h.2.2.1 h.2.2.2
  · have h := h.2 g
    refine st_iload oX11_take_4 rfl ?_
    refine st_const oX11_take_5 ?_
    refine st_icmp oX11_take_6 (fun g => ?_) (fun g => ?_)
    · have h := h.1 g
      refine st_aload oX11_take_19 rfl ?_
      obtain ⟨hK, h⟩ := h
      refine st_callV0_v [] oX11_take_20 rfl rfl hK (ps8 rfl) (pCall_v.mono h (fun M1 h => ?_))
      refine st_aload oX11_take_23 rfl ?_
      obtain ⟨hK, b1, hP, h⟩ := h
      refine st_getP oX11_take_24 hK hP ?_
      refine st_iload oX11_take_27 rfl ?_
      obtain ⟨hK, h⟩ := h
      refine st_callV0_i [.int l1] oX11_take_28 rfl rfl hK (ps8 rfl) (pCall_i.mono h (fun v1 M2 h => ?_))
      refine st_istore (L2 := [some (.ref l0), some (.int l1), some (.int v1)]) oX11_take_31 (by decide) rfl rfl ?_
      refine st_iload oX11_take_32 rfl ?_
      refine st_if oX11_take_33 (fun g => ?_) (fun g => ?_)
      · have h := h.1 g
        refine st_aload oX11_take_46 rfl ?_
        refine st_iload oX11_take_47 rfl ?_
        obtain ⟨hK, h⟩ := h
        refine st_callV0_v [.int v1] oX11_take_48 rfl rfl hK (ps8 rfl) (pCall_v.mono h (fun M3 h => ?_))
        refine st_iload oX11_take_51 rfl ?_
        exact st_iret oX11_take_52 h
      · have h := h.2 g
        exact st_throw oX11_take_36 h.1 h.2.1 (ps8 rfl) h.2.2.1 h.2.2.2
    · have h := h.2 g
      exact st_throw oX11_take_9 h.1 h.2.1 (ps8 rfl) h.2.2.1 h.2.2.2
theorem bX11_setLimit_0 {d : Nat} {Q : pR → pM → Prop} {c s : Nat} {M : pM} {l0 : Nat} {l1 : Int32} (h : ((l1 < 0 → 1 ≤ c ∧ 6 ≤ s ∧ pN M < pBIG ∧ Q (.inr "java/lang/IllegalArgumentException") (pnew M (0, 0))) ∧ (¬ l1 < 0 → ((l1 ≤ 9 → pK M l0 = (1, 11) ∧ ∃ b1 : Nat, pP M l0 4 = b1 + 1 ∧ pK M b1 = (1, 3) ∧ pK M l0 = (1, 11) ∧ ∃ b2 : Nat, pP M l0 4 = b2 + 1 ∧ pK M b2 = (1, 3) ∧ pK (psI M b2 3 l1) l0 = (1, 11) ∧ Q (.inl (some (.int (pI M b1 3)))) (psI (psI M b2 3 l1) l0 6 0)) ∧ (¬ l1 ≤ 9 → 1 ≤ c ∧ 6 ≤ s ∧ pN M < pBIG ∧ Q (.inr "java/lang/IllegalArgumentException") (pnew M (0, 0))))))) : Go d mX11_setLimit Q 0 ([some (.ref l0), some (.int l1), none], [], c, s) M := by
  refine st_iload oX11_setLimit_0 rfl ?_
  refine st_if oX11_setLimit_1 (fun g => ?_) (fun g => ?_)
  · have h := h.1 g
    exact st_throw oX11_setLimit_10 h.1 h.2.1 (ps8 rfl) h.2.2.1 h.2.2.2
  · have h := h.2 g
    refine st_iload oX11_setLimit_4 rfl ?_
    refine st_const oX11_setLimit_5 ?_
    refine st_icmp oX11_setLimit_7 (fun g => ?_) (fun g => ?_)
    · have h := h.1 g
      refine st_aload oX11_setLimit_20 rfl ?_
      obtain ⟨hK, b1, hP, h⟩ := h
      refine st_getP oX11_setLimit_21 hK hP ?_
      obtain ⟨hK, h⟩ := h
      refine st_getI oX11_setLimit_24 hK ?_
      refine st_istore (L2 := [some (.ref l0), some (.int l1), some (.int (pI M b1 3))]) oX11_setLimit_27 (by decide) rfl rfl ?_
      refine st_aload oX11_setLimit_28 rfl ?_
      obtain ⟨hK, b2, hP, h⟩ := h
      refine st_getP oX11_setLimit_29 hK hP ?_
      refine st_iload oX11_setLimit_32 rfl ?_
      obtain ⟨hK, h⟩ := h
      refine st_putI oX11_setLimit_33 hK ?_
      refine st_aload oX11_setLimit_36 rfl ?_
      refine st_const oX11_setLimit_37 ?_
      obtain ⟨hK, h⟩ := h
      refine st_putZ oX11_setLimit_38 hK (Or.inl rfl) ?_
      refine st_iload oX11_setLimit_41 rfl ?_
      exact st_iret oX11_setLimit_42 h
    · have h := h.2 g
      exact st_throw oX11_setLimit_10 h.1 h.2.1 (ps8 rfl) h.2.2.1 h.2.2.2
theorem bX11_offer_0 {d : Nat} {Q : pR → pM → Prop} {c s : Nat} {M : pM} {l0 : Nat} {l1 : Int32} (h : ((l1 < 0 → 1 ≤ c ∧ 6 ≤ s ∧ pN M < pBIG ∧ Q (.inr "java/lang/IndexOutOfBoundsException") (pnew M (0, 0))) ∧ (¬ l1 < 0 → ((l1 < 5 → pK M l0 = (1, 11) ∧ pCall_v d mX11_rank (0, 0) [.ref l0] M (fun M1 => pK M1 l0 = (1, 11) ∧ ∃ b1 : Nat, pP M1 l0 5 = b1 + 1 ∧ pK M1 b1 = (1, 6) ∧ pCall_i d mX6_offered (0, 0) [.ref b1, .int l1] M1 (fun v1 M2 => Q (.inl (some (.int v1))) M2))) ∧ (¬ l1 < 5 → 1 ≤ c ∧ 6 ≤ s ∧ pN M < pBIG ∧ Q (.inr "java/lang/IndexOutOfBoundsException") (pnew M (0, 0))))))) : Go d mX11_offer Q 0 ([some (.ref l0), some (.int l1)], [], c, s) M := by
  refine st_iload oX11_offer_0 rfl ?_
  refine st_if oX11_offer_1 (fun g => ?_) (fun g => ?_)
  · have h := h.1 g
    exact st_throw oX11_offer_9 h.1 h.2.1 (ps8 rfl) h.2.2.1 h.2.2.2
  · have h := h.2 g
    refine st_iload oX11_offer_4 rfl ?_
    refine st_const oX11_offer_5 ?_
    refine st_icmp oX11_offer_6 (fun g => ?_) (fun g => ?_)
    · have h := h.1 g
      refine st_aload oX11_offer_19 rfl ?_
      obtain ⟨hK, h⟩ := h
      refine st_callV0_v [] oX11_offer_20 rfl rfl hK (ps8 rfl) (pCall_v.mono h (fun M1 h => ?_))
      refine st_aload oX11_offer_23 rfl ?_
      obtain ⟨hK, b1, hP, h⟩ := h
      refine st_getP oX11_offer_24 hK hP ?_
      refine st_iload oX11_offer_27 rfl ?_
      obtain ⟨hK, h⟩ := h
      refine st_callV0_i [.int l1] oX11_offer_28 rfl rfl hK (ps8 rfl) (pCall_i.mono h (fun v1 M2 h => ?_))
      exact st_iret oX11_offer_31 h
    · have h := h.2 g
      exact st_throw oX11_offer_9 h.1 h.2.1 (ps8 rfl) h.2.2.1 h.2.2.2
theorem bX11_word_0 {d : Nat} {Q : pR → pM → Prop} {c s : Nat} {M : pM} {l0 : Nat} {l1 : Int32} {l2 : Int32} (h : pK M l0 = (1, 11) ∧ ∃ b1 : Nat, pP M l0 2 = b1 + 1 ∧ pK M b1 = (1, 0) ∧ pCall_i d mX0_hasWord (0, 0) [.ref b1, .int l1] M (fun v1 M1 => ((v1 = 0 → 1 ≤ c ∧ 6 ≤ s ∧ pN M1 < pBIG ∧ Q (.inr "java/lang/IndexOutOfBoundsException") (pnew M1 (0, 0))) ∧ (¬ v1 = 0 → ((l2 < 0 → 1 ≤ c ∧ 6 ≤ s ∧ pN M1 < pBIG ∧ Q (.inr "java/lang/IndexOutOfBoundsException") (pnew M1 (0, 0))) ∧ (¬ l2 < 0 → ((l2 < 6 → pK M1 l0 = (1, 11) ∧ pCall_v d mX11_rank (0, 0) [.ref l0] M1 (fun M2 => pK M2 l0 = (1, 11) ∧ pCall_i d mX11_wordFigure (0, 0) [.ref l0, .int l1, .int l2] M2 (fun v2 M3 => Q (.inl (some (.int v2))) M3))) ∧ (¬ l2 < 6 → 1 ≤ c ∧ 6 ≤ s ∧ pN M1 < pBIG ∧ Q (.inr "java/lang/IndexOutOfBoundsException") (pnew M1 (0, 0)))))))))) : Go d mX11_word Q 0 ([some (.ref l0), some (.int l1), some (.int l2)], [], c, s) M := by
  refine st_aload oX11_word_0 rfl ?_
  obtain ⟨hK, b1, hP, h⟩ := h
  refine st_getP oX11_word_1 hK hP ?_
  refine st_iload oX11_word_4 rfl ?_
  obtain ⟨hK, h⟩ := h
  refine st_callV0_i [.int l1] oX11_word_5 rfl rfl hK (ps8 rfl) (pCall_i.mono h (fun v1 M1 h => ?_))
  refine st_if oX11_word_8 (fun g => ?_) (fun g => ?_)
  · have h := h.1 g
    exact st_throw oX11_word_21 h.1 h.2.1 (ps8 rfl) h.2.2.1 h.2.2.2
  · have h := h.2 g
    refine st_iload oX11_word_11 rfl ?_
    refine st_if oX11_word_12 (fun g => ?_) (fun g => ?_)
    · have h := h.1 g
      exact st_throw oX11_word_21 h.1 h.2.1 (ps8 rfl) h.2.2.1 h.2.2.2
    · have h := h.2 g
      refine st_iload oX11_word_15 rfl ?_
      refine st_const oX11_word_16 ?_
      refine st_icmp oX11_word_18 (fun g => ?_) (fun g => ?_)
      · have h := h.1 g
        refine st_aload oX11_word_31 rfl ?_
        obtain ⟨hK, h⟩ := h
        refine st_callV0_v [] oX11_word_32 rfl rfl hK (ps8 rfl) (pCall_v.mono h (fun M2 h => ?_))
        refine st_aload oX11_word_35 rfl ?_
        refine st_iload oX11_word_36 rfl ?_
        refine st_iload oX11_word_37 rfl ?_
        obtain ⟨hK, h⟩ := h
        refine st_callV0_i [.int l1, .int l2] oX11_word_38 rfl rfl hK (ps8 rfl) (pCall_i.mono h (fun v2 M3 h => ?_))
        exact st_iret oX11_word_41 h
      · have h := h.2 g
        exact st_throw oX11_word_21 h.1 h.2.1 (ps8 rfl) h.2.2.1 h.2.2.2
theorem bX11_best_0 {d : Nat} {Q : pR → pM → Prop} {c s : Nat} {M : pM} {l0 : Nat} (h : Go d mX11_best Q 7 ([some (.ref l0), some (.int (-1)), some (.int (-1)), some (.int 97), none], [], c, s) M) : Go d mX11_best Q 0 ([some (.ref l0), none, none, none, none], [], c, s) M := by
  refine st_const oX11_best_0 ?_
  refine st_istore (L2 := [some (.ref l0), some (.int (-1)), none, none, none]) oX11_best_1 (by decide) rfl rfl ?_
  refine st_const oX11_best_2 ?_
  refine st_istore (L2 := [some (.ref l0), some (.int (-1)), some (.int (-1)), none, none]) oX11_best_3 (by decide) rfl rfl ?_
  refine st_const oX11_best_4 ?_
  refine st_istore (L2 := [some (.ref l0), some (.int (-1)), some (.int (-1)), some (.int 97), none]) oX11_best_6 (by decide) rfl rfl ?_
  exact h
theorem bX11_best_7 {d : Nat} {Q : pR → pM → Prop} {c s : Nat} {M : pM} {l0 : Nat} {l1 : Int32} {l2 : Int32} {l3 : Int32} (h : ((122 < l3 → Q (.inl (some (.int l1))) M) ∧ (¬ 122 < l3 → pK M l0 = (1, 11) ∧ ∃ b1 : Nat, pP M l0 2 = b1 + 1 ∧ pK M l0 = (1, 11) ∧ ∃ b2 : Nat, pP M l0 4 = b2 + 1 ∧ pK M b2 = (1, 3) ∧ ∃ b3 : Nat, pP M b2 0 = b3 + 1 ∧ pK M b1 = (1, 0) ∧ pCall_i d mX0_weightBehind (0, 0) [.ref b1, .ref b3, .int l3] M (fun v1 M1 => ((v1 ≤ l2 → Go d mX11_best Q 41 ([some (.ref l0), some (.int l1), some (.int l2), some (.int l3), none], [], c, s) M1) ∧ (¬ v1 ≤ l2 → Go d mX11_best Q 41 ([some (.ref l0), some (.int l3), some (.int v1), some (.int l3), none], [], c, s) M1)))))) : Go d mX11_best Q 7 ([some (.ref l0), some (.int l1), some (.int l2), some (.int l3), none], [], c, s) M := by
  refine st_iload oX11_best_7 rfl ?_
  refine st_const oX11_best_8 ?_
  refine st_icmp oX11_best_10 (fun g => ?_) (fun g => ?_)
  · have h := h.1 g
    refine st_iload oX11_best_47 rfl ?_
    exact st_iret oX11_best_48 h
  · have h := h.2 g
    refine st_aload oX11_best_13 rfl ?_
    obtain ⟨hK, b1, hP, h⟩ := h
    refine st_getP oX11_best_14 hK hP ?_
    refine st_aload oX11_best_17 rfl ?_
    obtain ⟨hK, b2, hP, h⟩ := h
    refine st_getP oX11_best_18 hK hP ?_
    obtain ⟨hK, b3, hP, h⟩ := h
    refine st_getP oX11_best_21 hK hP ?_
    refine st_iload oX11_best_24 rfl ?_
    obtain ⟨hK, h⟩ := h
    refine st_callV0_i [.ref b3, .int l3] oX11_best_25 rfl rfl hK (ps8 rfl) (pCall_i.mono h (fun v1 M1 h => ?_))
    refine st_istore (L2 := [some (.ref l0), some (.int l1), some (.int l2), some (.int l3), some (.int v1)]) oX11_best_28 (by decide) rfl rfl ?_
    refine st_iload oX11_best_30 rfl ?_
    refine st_iload oX11_best_32 rfl ?_
    refine st_icmp oX11_best_33 (fun g => ?_) (fun g => ?_)
    · have h := h.1 g
      exact Go.wk (L := [some (.ref l0), some (.int l1), some (.int l2), some (.int l3), none]) (And.intro (Or.inr rfl) (And.intro (Or.inr rfl) (And.intro (Or.inr rfl) (And.intro (Or.inr rfl) (And.intro (Or.inl rfl) True.intro))))) h
    · have h := h.2 g
      refine st_iload oX11_best_36 rfl ?_
      refine st_istore (L2 := [some (.ref l0), some (.int l1), some (.int v1), some (.int l3), some (.int v1)]) oX11_best_38 (by decide) rfl rfl ?_
      refine st_iload oX11_best_39 rfl ?_
      refine st_istore (L2 := [some (.ref l0), some (.int l3), some (.int v1), some (.int l3), some (.int v1)]) oX11_best_40 (by decide) rfl rfl ?_
      exact Go.wk (L := [some (.ref l0), some (.int l3), some (.int v1), some (.int l3), none]) (And.intro (Or.inr rfl) (And.intro (Or.inr rfl) (And.intro (Or.inr rfl) (And.intro (Or.inr rfl) (And.intro (Or.inl rfl) True.intro))))) h
theorem bX11_best_41 {d : Nat} {Q : pR → pM → Prop} {c s : Nat} {M : pM} {l0 : Nat} {l1 : Int32} {l2 : Int32} {l3 : Int32} (h : Go d mX11_best Q 7 ([some (.ref l0), some (.int l1), some (.int l2), some (.int (l3 + 1)), none], [], c, s) M) : Go d mX11_best Q 41 ([some (.ref l0), some (.int l1), some (.int l2), some (.int l3), none], [], c, s) M := by
  refine st_iinc (L2 := [some (.ref l0), some (.int l1), some (.int l2), some (.int (l3 + 1)), none]) oX11_best_41 rfl (by decide) rfl rfl ?_
  refine st_goto oX11_best_44 ?_
  exact h
theorem bX11_strokes_0 {d : Nat} {Q : pR → pM → Prop} {c s : Nat} {M : pM} {l0 : Nat} {l1 : Int32} (h : pK M l0 = (1, 11) ∧ ∃ b1 : Nat, pP M l0 2 = b1 + 1 ∧ pK M b1 = (1, 0) ∧ pCall_i d mX0_hasWord (0, 0) [.ref b1, .int l1] M (fun v1 M1 => ((v1 = 0 → 1 ≤ c ∧ 6 ≤ s ∧ pN M1 < pBIG ∧ Q (.inr "java/lang/IndexOutOfBoundsException") (pnew M1 (0, 0))) ∧ (¬ v1 = 0 → pK M1 l0 = (1, 11) ∧ ∃ b2 : Nat, pP M1 l0 2 = b2 + 1 ∧ pK M1 b2 = (1, 0) ∧ ∃ b3 : Nat, pP M1 b2 1 = b3 + 1 ∧ pK M1 b3 = (1, 5) ∧ pCall_r d mX5_at (0, 0) [.ref b3, .int l1] M1 (fun v2 M2 => pK M2 l0 = (1, 11) ∧ ∃ b4 : Nat, pP M2 l0 7 = b4 + 1 ∧ pK M2 l0 = (1, 11) ∧ ∃ b5 : Nat, pP M2 l0 4 = b5 + 1 ∧ pK M2 b4 = (1, 3) ∧ pCall_v d mX3_supposeNothingTyped (0, 0) [.ref b4, .ref b5] M2 (fun M3 => Go d mX11_strokes Q 46 ([some (.ref l0), some (.int l1), some (.ref v2), some (.int 0)], [], c, s) M3)))))) : Go d mX11_strokes Q 0 ([some (.ref l0), some (.int l1), none, none], [], c, s) M := by
  refine st_aload oX11_strokes_0 rfl ?_
  obtain ⟨hK, b1, hP, h⟩ := h
  refine st_getP oX11_strokes_1 hK hP ?_
  refine st_iload oX11_strokes_4 rfl ?_
  obtain ⟨hK, h⟩ := h
  refine st_callV0_i [.int l1] oX11_strokes_5 rfl rfl hK (ps8 rfl) (pCall_i.mono h (fun v1 M1 h => ?_))
  refine st_if oX11_strokes_8 (fun g => ?_) (fun g => ?_)
  · have h := h.1 g
    exact st_throw oX11_strokes_11 h.1 h.2.1 (ps8 rfl) h.2.2.1 h.2.2.2
  · have h := h.2 g
    refine st_aload oX11_strokes_21 rfl ?_
    obtain ⟨hK, b2, hP, h⟩ := h
    refine st_getP oX11_strokes_22 hK hP ?_
    obtain ⟨hK, b3, hP, h⟩ := h
    refine st_getP oX11_strokes_25 hK hP ?_
    refine st_iload oX11_strokes_28 rfl ?_
    obtain ⟨hK, h⟩ := h
    refine st_callV0_r [.int l1] oX11_strokes_29 rfl rfl hK (ps8 rfl) (pCall_r.mono h (fun v2 M2 h => ?_))
    refine st_astore (L2 := [some (.ref l0), some (.int l1), some (.ref v2), none]) oX11_strokes_32 (by decide) rfl rfl ?_
    refine st_aload oX11_strokes_33 rfl ?_
    obtain ⟨hK, b4, hP, h⟩ := h
    refine st_getP oX11_strokes_34 hK hP ?_
    refine st_aload oX11_strokes_37 rfl ?_
    obtain ⟨hK, b5, hP, h⟩ := h
    refine st_getP oX11_strokes_38 hK hP ?_
    obtain ⟨hK, h⟩ := h
    refine st_callV0_v [.ref b5] oX11_strokes_41 rfl rfl hK (ps8 rfl) (pCall_v.mono h (fun M3 h => ?_))
    refine st_const oX11_strokes_44 ?_
    refine st_istore (L2 := [some (.ref l0), some (.int l1), some (.ref v2), some (.int 0)]) oX11_strokes_45 (by decide) rfl rfl ?_
    exact h
theorem bX11_strokes_46 {d : Nat} {Q : pR → pM → Prop} {c s : Nat} {M : pM} {l0 : Nat} {l1 : Int32} {l2 : Nat} {l3 : Int32} (h : pK M l2 = (1, 9) ∧ pCall_i d mX9_size (0, 0) [.ref l2] M (fun v1 M1 => ((v1 ≤ l3 → pK M1 l2 = (1, 9) ∧ pCall_i d mX9_size (0, 0) [.ref l2] M1 (fun v2 M2 => Q (.inl (some (.int (v2 + 1)))) M2)) ∧ (¬ v1 ≤ l3 → pK M1 l0 = (1, 11) ∧ ∃ b1 : Nat, pP M1 l0 8 = b1 + 1 ∧ pK M1 l0 = (1, 11) ∧ ∃ b2 : Nat, pP M1 l0 2 = b2 + 1 ∧ pK M1 l0 = (1, 11) ∧ ∃ b3 : Nat, pP M1 l0 7 = b3 + 1 ∧ pK M1 b1 = (1, 6) ∧ pCall_v d mX6_renew (0, 0) [.ref b1, .ref b2, .ref b3] M1 (fun M3 => pK M3 l0 = (1, 11) ∧ ∃ b4 : Nat, pP M3 l0 8 = b4 + 1 ∧ pK M3 b4 = (1, 6) ∧ pCall_i d mX6_isOffered (0, 0) [.ref b4, .int l1] M3 (fun v3 M4 => ((v3 = 0 → pK M4 l2 = (1, 9) ∧ pCall_i d mX9_at (0, 0) [.ref l2, .int l3] M4 (fun v4 M5 => pCall_i d mX11_isLetter (0, 0) [.int v4] M5 (fun v5 M6 => ((v5 = 0 → Q (.inl (some (.int (-1)))) M6) ∧ (¬ v5 = 0 → pK M6 l0 = (1, 11) ∧ ∃ b5 : Nat, pP M6 l0 7 = b5 + 1 ∧ pK M6 b5 = (1, 3) ∧ ∃ b6 : Nat, pP M6 b5 0 = b6 + 1 ∧ pK M6 l2 = (1, 9) ∧ pCall_i d mX9_at (0, 0) [.ref l2, .int l3] M6 (fun v6 M7 => pK M7 b6 = (1, 9) ∧ pCall_v d mX9_add (0, 0) [.ref b6, .int v6] M7 (fun M8 => Go d mX11_strokes Q 46 ([some (.ref l0), some (.int l1), some (.ref l2), some (.int (l3 + 1))], [], c, s) M8))))))) ∧ (¬ v3 = 0 → Q (.inl (some (.int (l3 + 1)))) M4)))))))) : Go d mX11_strokes Q 46 ([some (.ref l0), some (.int l1), some (.ref l2), some (.int l3)], [], c, s) M := by
  refine st_iload oX11_strokes_46 rfl ?_
  refine st_aload oX11_strokes_47 rfl ?_
  obtain ⟨hK, h⟩ := h
  refine st_callV0_i [] oX11_strokes_48 rfl rfl hK (ps8 rfl) (pCall_i.mono h (fun v1 M1 h => ?_))
  refine st_icmp oX11_strokes_51 (fun g => ?_) (fun g => ?_)
  · have h := h.1 g
    refine st_aload oX11_strokes_118 rfl ?_
    obtain ⟨hK, h⟩ := h
    refine st_callV0_i [] oX11_strokes_119 rfl rfl hK (ps8 rfl) (pCall_i.mono h (fun v2 M2 h => ?_))
    refine st_const oX11_strokes_122 ?_
    refine st_ibin oX11_strokes_123 ?_
    exact st_iret oX11_strokes_124 h
  · have h := h.2 g
    refine st_aload oX11_strokes_54 rfl ?_
    obtain ⟨hK, b1, hP, h⟩ := h
    refine st_getP oX11_strokes_55 hK hP ?_
    refine st_aload oX11_strokes_58 rfl ?_
    obtain ⟨hK, b2, hP, h⟩ := h
    refine st_getP oX11_strokes_59 hK hP ?_
    refine st_aload oX11_strokes_62 rfl ?_
    obtain ⟨hK, b3, hP, h⟩ := h
    refine st_getP oX11_strokes_63 hK hP ?_
    obtain ⟨hK, h⟩ := h
    refine st_callV0_v [.ref b2, .ref b3] oX11_strokes_66 rfl rfl hK (ps8 rfl) (pCall_v.mono h (fun M3 h => ?_))
    refine st_aload oX11_strokes_69 rfl ?_
    obtain ⟨hK, b4, hP, h⟩ := h
    refine st_getP oX11_strokes_70 hK hP ?_
    refine st_iload oX11_strokes_73 rfl ?_
    obtain ⟨hK, h⟩ := h
    refine st_callV0_i [.int l1] oX11_strokes_74 rfl rfl hK (ps8 rfl) (pCall_i.mono h (fun v3 M4 h => ?_))
    refine st_if oX11_strokes_77 (fun g => ?_) (fun g => ?_)
    · have h := h.1 g
      refine st_aload oX11_strokes_84 rfl ?_
      refine st_iload oX11_strokes_85 rfl ?_
      obtain ⟨hK, h⟩ := h
      refine st_callV0_i [.int l3] oX11_strokes_86 rfl rfl hK (ps8 rfl) (pCall_i.mono h (fun v4 M5 h => ?_))
      refine st_callS0_i [.int v4] oX11_strokes_89 rfl rfl (ps8 rfl) (pCall_i.mono h (fun v5 M6 h => ?_))
      refine st_if oX11_strokes_92 (fun g => ?_) (fun g => ?_)
      · have h := h.1 g
        refine st_const oX11_strokes_95 ?_
        exact st_iret oX11_strokes_96 h
      · have h := h.2 g
        refine st_aload oX11_strokes_97 rfl ?_
        obtain ⟨hK, b5, hP, h⟩ := h
        refine st_getP oX11_strokes_98 hK hP ?_
        obtain ⟨hK, b6, hP, h⟩ := h
        refine st_getP oX11_strokes_101 hK hP ?_
        refine st_aload oX11_strokes_104 rfl ?_
        refine st_iload oX11_strokes_105 rfl ?_
        obtain ⟨hK, h⟩ := h
        refine st_callV0_i [.int l3] oX11_strokes_106 rfl rfl hK (ps8 rfl) (pCall_i.mono h (fun v6 M7 h => ?_))
        obtain ⟨hK, h⟩ := h
        refine st_callV0_v [.int v6] oX11_strokes_109 rfl rfl hK (ps8 rfl) (pCall_v.mono h (fun M8 h => ?_))
        refine st_iinc (L2 := [some (.ref l0), some (.int l1), some (.ref l2), some (.int (l3 + 1))]) oX11_strokes_112 rfl (by decide) rfl rfl ?_
        refine st_goto oX11_strokes_115 ?_
        exact h
    · have h := h.2 g
      refine st_iload oX11_strokes_80 rfl ?_
      refine st_const oX11_strokes_81 ?_
      refine st_ibin oX11_strokes_82 ?_
      exact st_iret oX11_strokes_83 h
theorem bX11_needs_0 {d : Nat} {Q : pR → pM → Prop} {c s : Nat} {M : pM} {l0 : Nat} {l1 : Int32} (h : pK M l0 = (1, 11) ∧ ∃ b1 : Nat, pP M l0 2 = b1 + 1 ∧ pK M b1 = (1, 0) ∧ pCall_i d mX0_hasWord (0, 0) [.ref b1, .int l1] M (fun v1 M1 => ((v1 = 0 → 1 ≤ c ∧ 6 ≤ s ∧ pN M1 < pBIG ∧ Q (.inr "java/lang/IndexOutOfBoundsException") (pnew M1 (0, 0))) ∧ (¬ v1 = 0 → pK M1 l0 = (1, 11) ∧ pCall_v d mX11_rank (0, 0) [.ref l0] M1 (fun M2 => pK M2 l0 = (1, 11) ∧ ∃ b2 : Nat, pP M2 l0 5 = b2 + 1 ∧ pK M2 l0 = (1, 11) ∧ ∃ b3 : Nat, pP M2 l0 2 = b3 + 1 ∧ pK M2 b2 = (1, 6) ∧ pCall_l d mX6_leastScoreToLead (0, 0) [.ref b2, .ref b3, .int l1] M2 (fun v2 M3 => pK M3 l0 = (1, 11) ∧ ∃ b4 : Nat, pP M3 l0 5 = b4 + 1 ∧ pK M3 b4 = (1, 6) ∧ pCall_i d mX6_place (0, 0) [.ref b4, .int l1] M3 (fun v3 M4 => ((v3 < 0 → Q (.inl (some (.int (-1)))) M4) ∧ (¬ v3 < 0 → (((lg_cmp v2 2147483647) ≤ 0 → pK M4 l0 = (1, 11) ∧ ∃ b5 : Nat, pP M4 l0 5 = b5 + 1 ∧ pK M4 b5 = (1, 6) ∧ pCall_i d mX6_score (0, 0) [.ref b5, .int l1] M4 (fun v4 M5 => pK M5 l0 = (1, 11) ∧ ∃ b6 : Nat, pP M5 l0 2 = b6 + 1 ∧ pK M5 b6 = (1, 0) ∧ ∃ b7 : Nat, pP M5 b6 2 = b7 + 1 ∧ pK M5 b7 = (1, 9) ∧ pCall_i d mX9_at (0, 0) [.ref b7, .int l1] M5 (fun v5 M6 => (((lg_cmp (if (v2 - (Int32.toInt64 (v4 - v5))) < 0 then 0 else (v2 - (Int32.toInt64 (v4 - v5)))) 9999) ≤ 0 → Q (.inl (some (.int (Int64.toInt32 (if (v2 - (Int32.toInt64 (v4 - v5))) < 0 then 0 else (v2 - (Int32.toInt64 (v4 - v5)))))))) M6) ∧ (¬ (lg_cmp (if (v2 - (Int32.toInt64 (v4 - v5))) < 0 then 0 else (v2 - (Int32.toInt64 (v4 - v5)))) 9999) ≤ 0 → Q (.inl (some (.int (-1)))) M6))))) ∧ (¬ (lg_cmp v2 2147483647) ≤ 0 → Q (.inl (some (.int (-1)))) M4))))))))))) : Go d mX11_needs Q 0 ([some (.ref l0), some (.int l1), none, none, none, none, none], [], c, s) M := by
  refine st_aload oX11_needs_0 rfl ?_
  obtain ⟨hK, b1, hP, h⟩ := h
  refine st_getP oX11_needs_1 hK hP ?_
  refine st_iload oX11_needs_4 rfl ?_
  obtain ⟨hK, h⟩ := h
  refine st_callV0_i [.int l1] oX11_needs_5 rfl rfl hK (ps8 rfl) (pCall_i.mono h (fun v1 M1 h => ?_))
  refine st_if oX11_needs_8 (fun g => ?_) (fun g => ?_)
  · have h := h.1 g
    exact st_throw oX11_needs_11 h.1 h.2.1 (ps8 rfl) h.2.2.1 h.2.2.2
  · have h := h.2 g
    refine st_aload oX11_needs_21 rfl ?_
    obtain ⟨hK, h⟩ := h
    refine st_callV0_v [] oX11_needs_22 rfl rfl hK (ps8 rfl) (pCall_v.mono h (fun M2 h => ?_))
    refine st_aload oX11_needs_25 rfl ?_
    obtain ⟨hK, b2, hP, h⟩ := h
    refine st_getP oX11_needs_26 hK hP ?_
    refine st_aload oX11_needs_29 rfl ?_
    obtain ⟨hK, b3, hP, h⟩ := h
    refine st_getP oX11_needs_30 hK hP ?_
    refine st_iload oX11_needs_33 rfl ?_
    obtain ⟨hK, h⟩ := h
    refine st_callV0_l [.ref b3, .int l1] oX11_needs_34 rfl rfl hK (ps8 rfl) (pCall_l.mono h (fun v2 M3 h => ?_))
    refine st_lstore (L2 := [some (.ref l0), some (.int l1), some (.long v2), none, none, none, none]) oX11_needs_37 (by decide) rfl rfl ?_
    refine st_aload oX11_needs_38 rfl ?_
    obtain ⟨hK, b4, hP, h⟩ := h
    refine st_getP oX11_needs_39 hK hP ?_
    refine st_iload oX11_needs_42 rfl ?_
    obtain ⟨hK, h⟩ := h
    refine st_callV0_i [.int l1] oX11_needs_43 rfl rfl hK (ps8 rfl) (pCall_i.mono h (fun v3 M4 h => ?_))
    refine st_if oX11_needs_46 (fun g => ?_) (fun g => ?_)
    · have h := h.1 g
      refine st_const oX11_needs_57 ?_
      exact st_iret oX11_needs_58 h
    · have h := h.2 g
      refine st_lload oX11_needs_49 rfl ?_
      refine st_const oX11_needs_50 ?_
      refine st_lcmp oX11_needs_53 ?_
      refine st_if oX11_needs_54 (fun g => ?_) (fun g => ?_)
      · have h := h.1 g
        refine st_aload oX11_needs_59 rfl ?_
        obtain ⟨hK, b5, hP, h⟩ := h
        refine st_getP oX11_needs_60 hK hP ?_
        refine st_iload oX11_needs_63 rfl ?_
        obtain ⟨hK, h⟩ := h
        refine st_callV0_i [.int l1] oX11_needs_64 rfl rfl hK (ps8 rfl) (pCall_i.mono h (fun v4 M5 h => ?_))
        refine st_aload oX11_needs_67 rfl ?_
        obtain ⟨hK, b6, hP, h⟩ := h
        refine st_getP oX11_needs_68 hK hP ?_
        obtain ⟨hK, b7, hP, h⟩ := h
        refine st_getP oX11_needs_71 hK hP ?_
        refine st_iload oX11_needs_74 rfl ?_
        obtain ⟨hK, h⟩ := h
        refine st_callV0_i [.int l1] oX11_needs_75 rfl rfl hK (ps8 rfl) (pCall_i.mono h (fun v5 M6 h => ?_))
        refine st_ibin oX11_needs_78 ?_
        refine st_istore (L2 := [some (.ref l0), some (.int l1), some (.long v2), none, some (.int (v4 - v5)), none, none]) oX11_needs_79 (by decide) rfl rfl ?_
        refine st_const oX11_needs_81 ?_
        refine st_lload oX11_needs_82 rfl ?_
        refine st_iload oX11_needs_83 rfl ?_
        refine st_i2l oX11_needs_85 ?_
        refine st_lbin oX11_needs_86 ?_
        refine st_lmax oX11_needs_87 (ps8 rfl) ?_
        refine st_lstore (L2 := [some (.ref l0), some (.int l1), some (.long v2), none, some (.int (v4 - v5)), some (.long (if (v2 - (Int32.toInt64 (v4 - v5))) < 0 then 0 else (v2 - (Int32.toInt64 (v4 - v5))))), none]) oX11_needs_90 (by decide) rfl rfl ?_
        refine st_lload oX11_needs_92 rfl ?_
        refine st_const oX11_needs_94 ?_
        refine st_lcmp oX11_needs_97 ?_
        refine st_if oX11_needs_98 (fun g => ?_) (fun g => ?_)
        · have h := h.1 g
          refine st_lload oX11_needs_105 rfl ?_
          refine st_l2i oX11_needs_107 ?_
          exact st_iret oX11_needs_108 h
        · have h := h.2 g
          refine st_const oX11_needs_101 ?_
          refine st_goto oX11_needs_102 ?_
          exact st_iret oX11_needs_108 h
      · have h := h.2 g
        refine st_const oX11_needs_57 ?_
        exact st_iret oX11_needs_58 h
theorem bX11_closest_0 {d : Nat} {Q : pR → pM → Prop} {c s : Nat} {M : pM} {l0 : Nat} {l1 : Int32} (h : pK M l0 = (1, 11) ∧ ∃ b1 : Nat, pP M l0 2 = b1 + 1 ∧ pK M b1 = (1, 0) ∧ pCall_i d mX0_hasWord (0, 0) [.ref b1, .int l1] M (fun v1 M1 => ((v1 = 0 → 1 ≤ c ∧ 6 ≤ s ∧ pN M1 < pBIG ∧ Q (.inr "java/lang/IndexOutOfBoundsException") (pnew M1 (0, 0))) ∧ (¬ v1 = 0 → Go d mX11_closest Q 25 ([some (.ref l0), some (.int l1), some (.int (-1)), some (.int 0), none], [], c, s) M1)))) : Go d mX11_closest Q 0 ([some (.ref l0), some (.int l1), none, none, none], [], c, s) M := by
  refine st_aload oX11_closest_0 rfl ?_
  obtain ⟨hK, b1, hP, h⟩ := h
  refine st_getP oX11_closest_1 hK hP ?_
  refine st_iload oX11_closest_4 rfl ?_
  obtain ⟨hK, h⟩ := h
  refine st_callV0_i [.int l1] oX11_closest_5 rfl rfl hK (ps8 rfl) (pCall_i.mono h (fun v1 M1 h => ?_))
  refine st_if oX11_closest_8 (fun g => ?_) (fun g => ?_)
  · have h := h.1 g
    exact st_throw oX11_closest_11 h.1 h.2.1 (ps8 rfl) h.2.2.1 h.2.2.2
  · have h := h.2 g
    refine st_const oX11_closest_21 ?_
    refine st_istore (L2 := [some (.ref l0), some (.int l1), some (.int (-1)), none, none]) oX11_closest_22 (by decide) rfl rfl ?_
    refine st_const oX11_closest_23 ?_
    refine st_istore (L2 := [some (.ref l0), some (.int l1), some (.int (-1)), some (.int 0), none]) oX11_closest_24 (by decide) rfl rfl ?_
    exact h
theorem bX11_closest_25 {d : Nat} {Q : pR → pM → Prop} {c s : Nat} {M : pM} {l0 : Nat} {l1 : Int32} {l2 : Int32} {l3 : Int32} (h : pK M l0 = (1, 11) ∧ ∃ b1 : Nat, pP M l0 2 = b1 + 1 ∧ pK M b1 = (1, 0) ∧ ∃ b2 : Nat, pP M b1 1 = b2 + 1 ∧ pK M b2 = (1, 5) ∧ pCall_i d mX5_size (0, 0) [.ref b2] M (fun v1 M1 => ((v1 ≤ l3 → Q (.inl (some (.int l2))) M1) ∧ (¬ v1 ≤ l3 → ((l3 = l1 → Go d mX11_closest Q 98 ([some (.ref l0), some (.int l1), some (.int l2), some (.int l3), none], [], c, s) M1) ∧ (¬ l3 = l1 → pK M1 l0 = (1, 11) ∧ ∃ b3 : Nat, pP M1 l0 5 = b3 + 1 ∧ pK M1 l0 = (1, 11) ∧ ∃ b4 : Nat, pP M1 l0 2 = b4 + 1 ∧ pK M1 b4 = (1, 0) ∧ ∃ b5 : Nat, pP M1 b4 1 = b5 + 1 ∧ pK M1 b5 = (1, 5) ∧ pCall_r d mX5_at (0, 0) [.ref b5, .int l1] M1 (fun v2 M2 => pK M2 l0 = (1, 11) ∧ ∃ b6 : Nat, pP M2 l0 2 = b6 + 1 ∧ pK M2 b6 = (1, 0) ∧ ∃ b7 : Nat, pP M2 b6 1 = b7 + 1 ∧ pK M2 b7 = (1, 5) ∧ pCall_r d mX5_at (0, 0) [.ref b7, .int l3] M2 (fun v3 M3 => pK M3 l0 = (1, 11) ∧ ∃ b8 : Nat, pP M3 l0 2 = b8 + 1 ∧ pK M3 b8 = (1, 0) ∧ ∃ b9 : Nat, pP M3 b8 4 = b9 + 1 ∧ pK M3 b3 = (1, 6) ∧ pCall_i d mX6_distance (0, 0) [.ref b3, .ref v2, .ref v3, .ref b9] M3 (fun v4 M4 => ((0 ≤ l2 → Go d mX11_closest Q 98 ([some (.ref l0), some (.int l1), some (.int (if v4 < l2 then v4 else l2)), some (.int l3), none], [], c, s) M4) ∧ (¬ 0 ≤ l2 → Go d mX11_closest Q 98 ([some (.ref l0), some (.int l1), some (.int v4), some (.int l3), none], [], c, s) M4))))))))))) : Go d mX11_closest Q 25 ([some (.ref l0), some (.int l1), some (.int l2), some (.int l3), none], [], c, s) M := by
  refine st_iload oX11_closest_25 rfl ?_
  refine st_aload oX11_closest_26 rfl ?_
  obtain ⟨hK, b1, hP, h⟩ := h
  refine st_getP oX11_closest_27 hK hP ?_
  obtain ⟨hK, b2, hP, h⟩ := h
  refine st_getP oX11_closest_30 hK hP ?_
  obtain ⟨hK, h⟩ := h
  refine st_callV0_i [] oX11_closest_33 rfl rfl hK (ps8 rfl) (pCall_i.mono h (fun v1 M1 h => ?_))
  refine st_icmp oX11_closest_36 (fun g => ?_) (fun g => ?_)
  · have h := h.1 g
    refine st_iload oX11_closest_104 rfl ?_
    exact st_iret oX11_closest_105 h
  · have h := h.2 g
    refine st_iload oX11_closest_39 rfl ?_
    refine st_iload oX11_closest_40 rfl ?_
    refine st_icmp oX11_closest_41 (fun g => ?_) (fun g => ?_)
    · have h := h.1 g
      exact h
    · have h := h.2 g
      refine st_aload oX11_closest_44 rfl ?_
      obtain ⟨hK, b3, hP, h⟩ := h
      refine st_getP oX11_closest_45 hK hP ?_
      refine st_aload oX11_closest_48 rfl ?_
      obtain ⟨hK, b4, hP, h⟩ := h
      refine st_getP oX11_closest_49 hK hP ?_
      obtain ⟨hK, b5, hP, h⟩ := h
      refine st_getP oX11_closest_52 hK hP ?_
      refine st_iload oX11_closest_55 rfl ?_
      obtain ⟨hK, h⟩ := h
      refine st_callV0_r [.int l1] oX11_closest_56 rfl rfl hK (ps8 rfl) (pCall_r.mono h (fun v2 M2 h => ?_))
      refine st_aload oX11_closest_59 rfl ?_
      obtain ⟨hK, b6, hP, h⟩ := h
      refine st_getP oX11_closest_60 hK hP ?_
      obtain ⟨hK, b7, hP, h⟩ := h
      refine st_getP oX11_closest_63 hK hP ?_
      refine st_iload oX11_closest_66 rfl ?_
      obtain ⟨hK, h⟩ := h
      refine st_callV0_r [.int l3] oX11_closest_67 rfl rfl hK (ps8 rfl) (pCall_r.mono h (fun v3 M3 h => ?_))
      refine st_aload oX11_closest_70 rfl ?_
      obtain ⟨hK, b8, hP, h⟩ := h
      refine st_getP oX11_closest_71 hK hP ?_
      obtain ⟨hK, b9, hP, h⟩ := h
      refine st_getP oX11_closest_74 hK hP ?_
      obtain ⟨hK, h⟩ := h
      refine st_callV0_i [.ref v2, .ref v3, .ref b9] oX11_closest_77 rfl rfl hK (ps8 rfl) (pCall_i.mono h (fun v4 M4 h => ?_))
      refine st_istore (L2 := [some (.ref l0), some (.int l1), some (.int l2), some (.int l3), some (.int v4)]) oX11_closest_80 (by decide) rfl rfl ?_
      refine st_iload oX11_closest_82 rfl ?_
      refine st_if oX11_closest_83 (fun g => ?_) (fun g => ?_)
      · have h := h.1 g
        refine st_iload oX11_closest_91 rfl ?_
        refine st_iload oX11_closest_92 rfl ?_
        refine st_min oX11_closest_94 (ps8 rfl) ?_
        refine st_istore (L2 := [some (.ref l0), some (.int l1), some (.int (if v4 < l2 then v4 else l2)), some (.int l3), some (.int v4)]) oX11_closest_97 (by decide) rfl rfl ?_
        exact Go.wk (L := [some (.ref l0), some (.int l1), some (.int (if v4 < l2 then v4 else l2)), some (.int l3), none]) (And.intro (Or.inr rfl) (And.intro (Or.inr rfl) (And.intro (Or.inr rfl) (And.intro (Or.inr rfl) (And.intro (Or.inl rfl) True.intro))))) h
      · have h := h.2 g
        refine st_iload oX11_closest_86 rfl ?_
        refine st_goto oX11_closest_88 ?_
        refine st_istore (L2 := [some (.ref l0), some (.int l1), some (.int v4), some (.int l3), some (.int v4)]) oX11_closest_97 (by decide) rfl rfl ?_
        exact Go.wk (L := [some (.ref l0), some (.int l1), some (.int v4), some (.int l3), none]) (And.intro (Or.inr rfl) (And.intro (Or.inr rfl) (And.intro (Or.inr rfl) (And.intro (Or.inr rfl) (And.intro (Or.inl rfl) True.intro))))) h
theorem bX11_closest_98 {d : Nat} {Q : pR → pM → Prop} {c s : Nat} {M : pM} {l0 : Nat} {l1 : Int32} {l2 : Int32} {l3 : Int32} (h : Go d mX11_closest Q 25 ([some (.ref l0), some (.int l1), some (.int l2), some (.int (l3 + 1)), none], [], c, s) M) : Go d mX11_closest Q 98 ([some (.ref l0), some (.int l1), some (.int l2), some (.int l3), none], [], c, s) M := by
  refine st_iinc (L2 := [some (.ref l0), some (.int l1), some (.int l2), some (.int (l3 + 1)), none]) oX11_closest_98 rfl (by decide) rfl rfl ?_
  refine st_goto oX11_closest_101 ?_
  exact h
theorem bX11_digest_0 {d : Nat} {Q : pR → pM → Prop} {c s : Nat} {M : pM} {l0 : Nat} (h : pK M l0 = (1, 11) ∧ pCall_v d mX11_rank (0, 0) [.ref l0] M (fun M1 => Go d mX11_digest Q 10 ([some (.ref l0), some (.long 773), none, some (.int 0), none], [], c, s) M1)) : Go d mX11_digest Q 0 ([some (.ref l0), none, none, none, none], [], c, s) M := by
  refine st_aload oX11_digest_0 rfl ?_
  obtain ⟨hK, h⟩ := h
  refine st_callV0_v [] oX11_digest_1 rfl rfl hK (ps8 rfl) (pCall_v.mono h (fun M1 h => ?_))
  refine st_const oX11_digest_4 ?_
  refine st_lstore (L2 := [some (.ref l0), some (.long 773), none, none, none]) oX11_digest_7 (by decide) rfl rfl ?_
  refine st_const oX11_digest_8 ?_
  refine st_istore (L2 := [some (.ref l0), some (.long 773), none, some (.int 0), none]) oX11_digest_9 (by decide) rfl rfl ?_
  exact h
theorem bX11_digest_10 {d : Nat} {Q : pR → pM → Prop} {c s : Nat} {M : pM} {l0 : Nat} {l1 : Int64} {l3 : Int32} (h : ((13 ≤ l3 → pK M l0 = (1, 11) ∧ ∃ b1 : Nat, pP M l0 4 = b1 + 1 ∧ pK M b1 = (1, 3) ∧ ∃ b2 : Nat, pP M b1 0 = b2 + 1 ∧ pK M b2 = (1, 9) ∧ pCall_l d mX9_addTo (0, 0) [.ref b2, .long l1] M (fun v1 M1 => Go d mX11_digest Q 49 ([some (.ref l0), some (.long v1), none, some (.int 0), none], [], c, s) M1)) ∧ (¬ 13 ≤ l3 → pK M l0 = (1, 11) ∧ pCall_i d mX11_figure (0, 0) [.ref l0, .int l3] M (fun v2 M2 => Go d mX11_digest Q 10 ([some (.ref l0), some (.long ((l1 * 31) + (Int32.toInt64 v2))), none, some (.int (l3 + 1)), none], [], c, s) M2)))) : Go d mX11_digest Q 10 ([some (.ref l0), some (.long l1), none, some (.int l3), none], [], c, s) M := by
  refine st_iload oX11_digest_10 rfl ?_
  refine st_const oX11_digest_11 ?_
  refine st_icmp oX11_digest_13 (fun g => ?_) (fun g => ?_)
  · have h := h.1 g
    refine st_aload oX11_digest_35 rfl ?_
    obtain ⟨hK, b1, hP, h⟩ := h
    refine st_getP oX11_digest_36 hK hP ?_
    obtain ⟨hK, b2, hP, h⟩ := h
    refine st_getP oX11_digest_39 hK hP ?_
    refine st_lload oX11_digest_42 rfl ?_
    obtain ⟨hK, h⟩ := h
    refine st_callV0_l [.long l1] oX11_digest_43 rfl rfl hK (ps8 rfl) (pCall_l.mono h (fun v1 M1 h => ?_))
    refine st_lstore (L2 := [some (.ref l0), some (.long v1), none, some (.int l3), none]) oX11_digest_46 (by decide) rfl rfl ?_
    refine st_const oX11_digest_47 ?_
    refine st_istore (L2 := [some (.ref l0), some (.long v1), none, some (.int 0), none]) oX11_digest_48 (by decide) rfl rfl ?_
    exact h
  · have h := h.2 g
    refine st_lload oX11_digest_16 rfl ?_
    refine st_const oX11_digest_17 ?_
    refine st_lbin oX11_digest_20 ?_
    refine st_aload oX11_digest_21 rfl ?_
    refine st_iload oX11_digest_22 rfl ?_
    obtain ⟨hK, h⟩ := h
    refine st_callV0_i [.int l3] oX11_digest_23 rfl rfl hK (ps8 rfl) (pCall_i.mono h (fun v2 M2 h => ?_))
    refine st_i2l oX11_digest_26 ?_
    refine st_lbin oX11_digest_27 ?_
    refine st_lstore (L2 := [some (.ref l0), some (.long ((l1 * 31) + (Int32.toInt64 v2))), none, some (.int l3), none]) oX11_digest_28 (by decide) rfl rfl ?_
    refine st_iinc (L2 := [some (.ref l0), some (.long ((l1 * 31) + (Int32.toInt64 v2))), none, some (.int (l3 + 1)), none]) oX11_digest_29 rfl (by decide) rfl rfl ?_
    refine st_goto oX11_digest_32 ?_
    exact h
theorem bX11_digest_49 {d : Nat} {Q : pR → pM → Prop} {c s : Nat} {M : pM} {l0 : Nat} {l1 : Int64} {l3 : Int32} (h : pK M l0 = (1, 11) ∧ ∃ b1 : Nat, pP M l0 2 = b1 + 1 ∧ pK M b1 = (1, 0) ∧ ∃ b2 : Nat, pP M b1 1 = b2 + 1 ∧ pK M b2 = (1, 5) ∧ pCall_i d mX5_size (0, 0) [.ref b2] M (fun v1 M1 => ((v1 ≤ l3 → Go d mX11_digest Q 118 ([some (.ref l0), some (.long l1), none, some (.int 0), none], [], c, s) M1) ∧ (¬ v1 ≤ l3 → Go d mX11_digest Q 66 ([some (.ref l0), some (.long l1), none, some (.int l3), some (.int 0)], [], c, s) M1)))) : Go d mX11_digest Q 49 ([some (.ref l0), some (.long l1), none, some (.int l3), none], [], c, s) M := by
  refine st_iload oX11_digest_49 rfl ?_
  refine st_aload oX11_digest_50 rfl ?_
  obtain ⟨hK, b1, hP, h⟩ := h
  refine st_getP oX11_digest_51 hK hP ?_
  obtain ⟨hK, b2, hP, h⟩ := h
  refine st_getP oX11_digest_54 hK hP ?_
  obtain ⟨hK, h⟩ := h
  refine st_callV0_i [] oX11_digest_57 rfl rfl hK (ps8 rfl) (pCall_i.mono h (fun v1 M1 h => ?_))
  refine st_icmp oX11_digest_60 (fun g => ?_) (fun g => ?_)
  · have h := h.1 g
    refine st_const oX11_digest_116 ?_
    refine st_istore (L2 := [some (.ref l0), some (.long l1), none, some (.int 0), none]) oX11_digest_117 (by decide) rfl rfl ?_
    exact h
  · have h := h.2 g
    refine st_const oX11_digest_63 ?_
    refine st_istore (L2 := [some (.ref l0), some (.long l1), none, some (.int l3), some (.int 0)]) oX11_digest_64 (by decide) rfl rfl ?_
    exact h
theorem bX11_digest_66 {d : Nat} {Q : pR → pM → Prop} {c s : Nat} {M : pM} {l0 : Nat} {l1 : Int64} {l3 : Int32} {l4 : Int32} (h : ((6 ≤ l4 → pK M l0 = (1, 11) ∧ ∃ b1 : Nat, pP M l0 2 = b1 + 1 ∧ pK M b1 = (1, 0) ∧ ∃ b2 : Nat, pP M b1 1 = b2 + 1 ∧ pK M b2 = (1, 5) ∧ pCall_r d mX5_at (0, 0) [.ref b2, .int l3] M (fun v1 M1 => pK M1 v1 = (1, 9) ∧ pCall_l d mX9_addTo (0, 0) [.ref v1, .long l1] M1 (fun v2 M2 => Go d mX11_digest Q 49 ([some (.ref l0), some (.long v2), none, some (.int (l3 + 1)), none], [], c, s) M2))) ∧ (¬ 6 ≤ l4 → pK M l0 = (1, 11) ∧ pCall_i d mX11_wordFigure (0, 0) [.ref l0, .int l3, .int l4] M (fun v3 M3 => Go d mX11_digest Q 66 ([some (.ref l0), some (.long ((l1 * 31) + (Int32.toInt64 v3))), none, some (.int l3), some (.int (l4 + 1))], [], c, s) M3)))) : Go d mX11_digest Q 66 ([some (.ref l0), some (.long l1), none, some (.int l3), some (.int l4)], [], c, s) M := by
  refine st_iload oX11_digest_66 rfl ?_
  refine st_const oX11_digest_68 ?_
  refine st_icmp oX11_digest_70 (fun g => ?_) (fun g => ?_)
  · have h := h.1 g
    refine st_aload oX11_digest_94 rfl ?_
    obtain ⟨hK, b1, hP, h⟩ := h
    refine st_getP oX11_digest_95 hK hP ?_
    obtain ⟨hK, b2, hP, h⟩ := h
    refine st_getP oX11_digest_98 hK hP ?_
    refine st_iload oX11_digest_101 rfl ?_
    obtain ⟨hK, h⟩ := h
    refine st_callV0_r [.int l3] oX11_digest_102 rfl rfl hK (ps8 rfl) (pCall_r.mono h (fun v1 M1 h => ?_))
    refine st_lload oX11_digest_105 rfl ?_
    obtain ⟨hK, h⟩ := h
    refine st_callV0_l [.long l1] oX11_digest_106 rfl rfl hK (ps8 rfl) (pCall_l.mono h (fun v2 M2 h => ?_))
    refine st_lstore (L2 := [some (.ref l0), some (.long v2), none, some (.int l3), some (.int l4)]) oX11_digest_109 (by decide) rfl rfl ?_
    refine st_iinc (L2 := [some (.ref l0), some (.long v2), none, some (.int (l3 + 1)), some (.int l4)]) oX11_digest_110 rfl (by decide) rfl rfl ?_
    refine st_goto oX11_digest_113 ?_
    exact Go.wk (L := [some (.ref l0), some (.long v2), none, some (.int (l3 + 1)), none]) (And.intro (Or.inr rfl) (And.intro (Or.inr rfl) (And.intro (Or.inr rfl) (And.intro (Or.inr rfl) (And.intro (Or.inl rfl) True.intro))))) h
  · have h := h.2 g
    refine st_lload oX11_digest_73 rfl ?_
    refine st_const oX11_digest_74 ?_
    refine st_lbin oX11_digest_77 ?_
    refine st_aload oX11_digest_78 rfl ?_
    refine st_iload oX11_digest_79 rfl ?_
    refine st_iload oX11_digest_80 rfl ?_
    obtain ⟨hK, h⟩ := h
    refine st_callV0_i [.int l3, .int l4] oX11_digest_82 rfl rfl hK (ps8 rfl) (pCall_i.mono h (fun v3 M3 h => ?_))
    refine st_i2l oX11_digest_85 ?_
    refine st_lbin oX11_digest_86 ?_
    refine st_lstore (L2 := [some (.ref l0), some (.long ((l1 * 31) + (Int32.toInt64 v3))), none, some (.int l3), some (.int l4)]) oX11_digest_87 (by decide) rfl rfl ?_
    refine st_iinc (L2 := [some (.ref l0), some (.long ((l1 * 31) + (Int32.toInt64 v3))), none, some (.int l3), some (.int (l4 + 1))]) oX11_digest_88 rfl (by decide) rfl rfl ?_
    refine st_goto oX11_digest_91 ?_
    exact h
theorem bX11_digest_118 {d : Nat} {Q : pR → pM → Prop} {c s : Nat} {M : pM} {l0 : Nat} {l1 : Int64} {l3 : Int32} (h : ((5 ≤ l3 → Q (.inl (some (.long l1))) M) ∧ (¬ 5 ≤ l3 → pK M l0 = (1, 11) ∧ ∃ b1 : Nat, pP M l0 5 = b1 + 1 ∧ pK M b1 = (1, 6) ∧ pCall_i d mX6_offered (0, 0) [.ref b1, .int l3] M (fun v1 M1 => Go d mX11_digest Q 118 ([some (.ref l0), some (.long ((l1 * 31) + (Int32.toInt64 v1))), none, some (.int (l3 + 1)), none], [], c, s) M1)))) : Go d mX11_digest Q 118 ([some (.ref l0), some (.long l1), none, some (.int l3), none], [], c, s) M := by
  refine st_iload oX11_digest_118 rfl ?_
  refine st_const oX11_digest_119 ?_
  refine st_icmp oX11_digest_120 (fun g => ?_) (fun g => ?_)
  · have h := h.1 g
    refine st_lload oX11_digest_145 rfl ?_
    exact st_lret oX11_digest_146 h
  · have h := h.2 g
    refine st_lload oX11_digest_123 rfl ?_
    refine st_const oX11_digest_124 ?_
    refine st_lbin oX11_digest_127 ?_
    refine st_aload oX11_digest_128 rfl ?_
    obtain ⟨hK, b1, hP, h⟩ := h
    refine st_getP oX11_digest_129 hK hP ?_
    refine st_iload oX11_digest_132 rfl ?_
    obtain ⟨hK, h⟩ := h
    refine st_callV0_i [.int l3] oX11_digest_133 rfl rfl hK (ps8 rfl) (pCall_i.mono h (fun v1 M1 h => ?_))
    refine st_i2l oX11_digest_136 ?_
    refine st_lbin oX11_digest_137 ?_
    refine st_lstore (L2 := [some (.ref l0), some (.long ((l1 * 31) + (Int32.toInt64 v1))), none, some (.int l3), none]) oX11_digest_138 (by decide) rfl rfl ?_
    refine st_iinc (L2 := [some (.ref l0), some (.long ((l1 * 31) + (Int32.toInt64 v1))), none, some (.int (l3 + 1)), none]) oX11_digest_139 rfl (by decide) rfl rfl ?_
    refine st_goto oX11_digest_142 ?_
    exact h
theorem bX11_isLetter_0 {d : Nat} {Q : pR → pM → Prop} {c s : Nat} {M : pM} {l0 : Int32} (h : ((l0 < 97 → Q (.inl (some (.int 0))) M) ∧ (¬ l0 < 97 → ((122 < l0 → Q (.inl (some (.int 0))) M) ∧ (¬ 122 < l0 → Q (.inl (some (.int 1))) M))))) : Go d mX11_isLetter Q 0 ([some (.int l0)], [], c, s) M := by
  refine st_iload oX11_isLetter_0 rfl ?_
  refine st_const oX11_isLetter_1 ?_
  refine st_icmp oX11_isLetter_3 (fun g => ?_) (fun g => ?_)
  · have h := h.1 g
    refine st_const oX11_isLetter_16 ?_
    exact st_zret oX11_isLetter_17 (Or.inl rfl) h
  · have h := h.2 g
    refine st_iload oX11_isLetter_6 rfl ?_
    refine st_const oX11_isLetter_7 ?_
    refine st_icmp oX11_isLetter_9 (fun g => ?_) (fun g => ?_)
    · have h := h.1 g
      refine st_const oX11_isLetter_16 ?_
      exact st_zret oX11_isLetter_17 (Or.inl rfl) h
    · have h := h.2 g
      refine st_const oX11_isLetter_12 ?_
      refine st_goto oX11_isLetter_13 ?_
      exact st_zret oX11_isLetter_17 (Or.inr rfl) h
theorem bX11_isDigit_0 {d : Nat} {Q : pR → pM → Prop} {c s : Nat} {M : pM} {l0 : Int32} (h : ((l0 < 48 → Q (.inl (some (.int 0))) M) ∧ (¬ l0 < 48 → ((57 < l0 → Q (.inl (some (.int 0))) M) ∧ (¬ 57 < l0 → Q (.inl (some (.int 1))) M))))) : Go d mX11_isDigit Q 0 ([some (.int l0)], [], c, s) M := by
  refine st_iload oX11_isDigit_0 rfl ?_
  refine st_const oX11_isDigit_1 ?_
  refine st_icmp oX11_isDigit_3 (fun g => ?_) (fun g => ?_)
  · have h := h.1 g
    refine st_const oX11_isDigit_16 ?_
    exact st_zret oX11_isDigit_17 (Or.inl rfl) h
  · have h := h.2 g
    refine st_iload oX11_isDigit_6 rfl ?_
    refine st_const oX11_isDigit_7 ?_
    refine st_icmp oX11_isDigit_9 (fun g => ?_) (fun g => ?_)
    · have h := h.1 g
      refine st_const oX11_isDigit_16 ?_
      exact st_zret oX11_isDigit_17 (Or.inl rfl) h
    · have h := h.2 g
      refine st_const oX11_isDigit_12 ?_
      refine st_goto oX11_isDigit_13 ?_
      exact st_zret oX11_isDigit_17 (Or.inr rfl) h
theorem bX11_appendBytes_0 {d : Nat} {Q : pR → pM → Prop} {c s : Nat} {M : pM} {l0 : Nat} {l1 : Int32} (h : Go d mX11_appendBytes Q 3 ([some (.ref l0), some (.int l1), some (.int 24)], [], c, s) M) : Go d mX11_appendBytes Q 0 ([some (.ref l0), some (.int l1), none], [], c, s) M := by
  refine st_const oX11_appendBytes_0 ?_
  refine st_istore (L2 := [some (.ref l0), some (.int l1), some (.int 24)]) oX11_appendBytes_2 (by decide) rfl rfl ?_
  exact h
theorem bX11_appendBytes_3 {d : Nat} {Q : pR → pM → Prop} {c s : Nat} {M : pM} {l0 : Nat} {l1 : Int32} {l2 : Int32} (h : ((l2 < 0 → Q (.inl none) M) ∧ (¬ l2 < 0 → pK M l0 = (1, 11) ∧ ∃ b1 : Nat, pP M l0 0 = b1 + 1 ∧ pK M b1 = (1, 9) ∧ pCall_v d mX9_add (0, 0) [.ref b1, .int ((Int32.toUInt32 l1 >>> (Int32.toUInt32 l2 &&& Int32.toUInt32 31)).toInt32 &&& 255)] M (fun M1 => Go d mX11_appendBytes Q 3 ([some (.ref l0), some (.int l1), some (.int (l2 + (-8)))], [], c, s) M1)))) : Go d mX11_appendBytes Q 3 ([some (.ref l0), some (.int l1), some (.int l2)], [], c, s) M := by
  refine st_iload oX11_appendBytes_3 rfl ?_
  refine st_if oX11_appendBytes_4 (fun g => ?_) (fun g => ?_)
  · have h := h.1 g
    exact st_vret oX11_appendBytes_27 h
  · have h := h.2 g
    refine st_aload oX11_appendBytes_7 rfl ?_
    obtain ⟨hK, b1, hP, h⟩ := h
    refine st_getP oX11_appendBytes_8 hK hP ?_
    refine st_iload oX11_appendBytes_11 rfl ?_
    refine st_iload oX11_appendBytes_12 rfl ?_
    refine st_ibin oX11_appendBytes_13 ?_
    refine st_const oX11_appendBytes_14 ?_
    refine st_ibin oX11_appendBytes_17 ?_
    obtain ⟨hK, h⟩ := h
    refine st_callV0_v [.int ((Int32.toUInt32 l1 >>> (Int32.toUInt32 l2 &&& Int32.toUInt32 31)).toInt32 &&& 255)] oX11_appendBytes_18 rfl rfl hK (ps8 rfl) (pCall_v.mono h (fun M1 h => ?_))
    refine st_iinc (L2 := [some (.ref l0), some (.int l1), some (.int (l2 + (-8)))]) oX11_appendBytes_21 rfl (by decide) rfl rfl ?_
    refine st_goto oX11_appendBytes_24 ?_
    exact h
theorem bX11_rank_0 {d : Nat} {Q : pR → pM → Prop} {c s : Nat} {M : pM} {l0 : Nat} (h : pK M l0 = (1, 11) ∧ (((pI M l0 6) = 0 → pK M l0 = (1, 11) ∧ ∃ b1 : Nat, pP M l0 5 = b1 + 1 ∧ pK M l0 = (1, 11) ∧ ∃ b2 : Nat, pP M l0 2 = b2 + 1 ∧ pK M l0 = (1, 11) ∧ ∃ b3 : Nat, pP M l0 4 = b3 + 1 ∧ pK M b1 = (1, 6) ∧ pCall_v d mX6_renew (0, 0) [.ref b1, .ref b2, .ref b3] M (fun M1 => pK M1 l0 = (1, 11) ∧ Q (.inl none) (psI M1 l0 6 1))) ∧ (¬ (pI M l0 6) = 0 → Q (.inl none) M))) : Go d mX11_rank Q 0 ([some (.ref l0)], [], c, s) M := by
  refine st_aload oX11_rank_0 rfl ?_
  obtain ⟨hK, h⟩ := h
  refine st_getI oX11_rank_1 hK ?_
  refine st_if oX11_rank_4 (fun g => ?_) (fun g => ?_)
  · have h := h.1 g
    refine st_aload oX11_rank_7 rfl ?_
    obtain ⟨hK, b1, hP, h⟩ := h
    refine st_getP oX11_rank_8 hK hP ?_
    refine st_aload oX11_rank_11 rfl ?_
    obtain ⟨hK, b2, hP, h⟩ := h
    refine st_getP oX11_rank_12 hK hP ?_
    refine st_aload oX11_rank_15 rfl ?_
    obtain ⟨hK, b3, hP, h⟩ := h
    refine st_getP oX11_rank_16 hK hP ?_
    obtain ⟨hK, h⟩ := h
    refine st_callV0_v [.ref b2, .ref b3] oX11_rank_19 rfl rfl hK (ps8 rfl) (pCall_v.mono h (fun M1 h => ?_))
    refine st_aload oX11_rank_22 rfl ?_
    refine st_const oX11_rank_23 ?_
    obtain ⟨hK, h⟩ := h
    refine st_putZ oX11_rank_24 hK (Or.inr rfl) ?_
    exact st_vret oX11_rank_27 h
  · have h := h.2 g
    exact st_vret oX11_rank_27 h
theorem bX11_takeWord_0 {d : Nat} {Q : pR → pM → Prop} {c s : Nat} {M : pM} {l0 : Nat} {l1 : Int32} (h : pK M l0 = (1, 11) ∧ ∃ b1 : Nat, pP M l0 2 = b1 + 1 ∧ pK M b1 = (1, 0) ∧ ∃ b2 : Nat, pP M b1 2 = b2 + 1 ∧ pK M l0 = (1, 11) ∧ ∃ b3 : Nat, pP M l0 2 = b3 + 1 ∧ pK M b3 = (1, 0) ∧ ∃ b4 : Nat, pP M b3 2 = b4 + 1 ∧ pK M b4 = (1, 9) ∧ pCall_i d mX9_at (0, 0) [.ref b4, .int l1] M (fun v1 M1 => pK M1 b2 = (1, 9) ∧ pCall_v d mX9_put (0, 0) [.ref b2, .int l1, .int (if (v1 + 5) < 9999 then (v1 + 5) else 9999)] M1 (fun M2 => pK M2 l0 = (1, 11) ∧ ∃ b5 : Nat, pP M2 l0 4 = b5 + 1 ∧ pK M2 b5 = (1, 3) ∧ pK M2 b5 = (1, 3) ∧ pK (psI M2 b5 1 ((pI M2 b5 1) + 1)) l0 = (1, 11) ∧ ∃ b6 : Nat, pP (psI M2 b5 1 ((pI M2 b5 1) + 1)) l0 4 = b6 + 1 ∧ pK (psI M2 b5 1 ((pI M2 b5 1) + 1)) b6 = (1, 3) ∧ pK (psI (psI M2 b5 1 ((pI M2 b5 1) + 1)) b6 2 l1) l0 = (1, 11) ∧ ∃ b7 : Nat, pP (psI (psI M2 b5 1 ((pI M2 b5 1) + 1)) b6 2 l1) l0 4 = b7 + 1 ∧ pK (psI (psI M2 b5 1 ((pI M2 b5 1) + 1)) b6 2 l1) b7 = (1, 3) ∧ ∃ b8 : Nat, pP (psI (psI M2 b5 1 ((pI M2 b5 1) + 1)) b6 2 l1) b7 0 = b8 + 1 ∧ pK (psI (psI M2 b5 1 ((pI M2 b5 1) + 1)) b6 2 l1) b8 = (1, 9) ∧ pCall_v d mX9_clear (0, 0) [.ref b8] (psI (psI M2 b5 1 ((pI M2 b5 1) + 1)) b6 2 l1) (fun M3 => pK M3 l0 = (1, 11) ∧ ∃ b9 : Nat, pP M3 l0 4 = b9 + 1 ∧ pK M3 b9 = (1, 3) ∧ ((((pI M3 b9 1) - (pI M3 b9 1) / 8 * 8) = 0 → pK M3 l0 = (1, 11) ∧ ∃ b10 : Nat, pP M3 l0 2 = b10 + 1 ∧ pK M3 b10 = (1, 0) ∧ pCall_v d mX0_fade (0, 0) [.ref b10] M3 (fun M4 => pK M4 l0 = (1, 11) ∧ Q (.inl none) (psI M4 l0 6 0))) ∧ (¬ ((pI M3 b9 1) - (pI M3 b9 1) / 8 * 8) = 0 → pK M3 l0 = (1, 11) ∧ Q (.inl none) (psI M3 l0 6 0))))))) : Go d mX11_takeWord Q 0 ([some (.ref l0), some (.int l1)], [], c, s) M := by
  refine st_aload oX11_takeWord_0 rfl ?_
  obtain ⟨hK, b1, hP, h⟩ := h
  refine st_getP oX11_takeWord_1 hK hP ?_
  obtain ⟨hK, b2, hP, h⟩ := h
  refine st_getP oX11_takeWord_4 hK hP ?_
  refine st_iload oX11_takeWord_7 rfl ?_
  refine st_const oX11_takeWord_8 ?_
  refine st_aload oX11_takeWord_11 rfl ?_
  obtain ⟨hK, b3, hP, h⟩ := h
  refine st_getP oX11_takeWord_12 hK hP ?_
  obtain ⟨hK, b4, hP, h⟩ := h
  refine st_getP oX11_takeWord_15 hK hP ?_
  refine st_iload oX11_takeWord_18 rfl ?_
  obtain ⟨hK, h⟩ := h
  refine st_callV0_i [.int l1] oX11_takeWord_19 rfl rfl hK (ps8 rfl) (pCall_i.mono h (fun v1 M1 h => ?_))
  refine st_const oX11_takeWord_22 ?_
  refine st_ibin oX11_takeWord_23 ?_
  refine st_min oX11_takeWord_24 (ps8 rfl) ?_
  obtain ⟨hK, h⟩ := h
  refine st_callV0_v [.int l1, .int (if (v1 + 5) < 9999 then (v1 + 5) else 9999)] oX11_takeWord_27 rfl rfl hK (ps8 rfl) (pCall_v.mono h (fun M2 h => ?_))
  refine st_aload oX11_takeWord_30 rfl ?_
  obtain ⟨hK, b5, hP, h⟩ := h
  refine st_getP oX11_takeWord_31 hK hP ?_
  refine st_dup oX11_takeWord_34 rfl ?_
  obtain ⟨hK, h⟩ := h
  refine st_getI oX11_takeWord_35 hK ?_
  refine st_const oX11_takeWord_38 ?_
  refine st_ibin oX11_takeWord_39 ?_
  obtain ⟨hK, h⟩ := h
  refine st_putI oX11_takeWord_40 hK ?_
  refine st_aload oX11_takeWord_43 rfl ?_
  obtain ⟨hK, b6, hP, h⟩ := h
  refine st_getP oX11_takeWord_44 hK hP ?_
  refine st_iload oX11_takeWord_47 rfl ?_
  obtain ⟨hK, h⟩ := h
  refine st_putI oX11_takeWord_48 hK ?_
  refine st_aload oX11_takeWord_51 rfl ?_
  obtain ⟨hK, b7, hP, h⟩ := h
  refine st_getP oX11_takeWord_52 hK hP ?_
  obtain ⟨hK, b8, hP, h⟩ := h
  refine st_getP oX11_takeWord_55 hK hP ?_
  obtain ⟨hK, h⟩ := h
  refine st_callV0_v [] oX11_takeWord_58 rfl rfl hK (ps8 rfl) (pCall_v.mono h (fun M3 h => ?_))
  refine st_aload oX11_takeWord_61 rfl ?_
  obtain ⟨hK, b9, hP, h⟩ := h
  refine st_getP oX11_takeWord_62 hK hP ?_
  obtain ⟨hK, h⟩ := h
  refine st_getI oX11_takeWord_65 hK ?_
  refine st_const oX11_takeWord_68 ?_
  refine st_irem oX11_takeWord_70 (by decide) ?_
  refine st_if oX11_takeWord_71 (fun g => ?_) (fun g => ?_)
  · have h := h.1 g
    refine st_aload oX11_takeWord_74 rfl ?_
    obtain ⟨hK, b10, hP, h⟩ := h
    refine st_getP oX11_takeWord_75 hK hP ?_
    obtain ⟨hK, h⟩ := h
    refine st_callV0_v [] oX11_takeWord_78 rfl rfl hK (ps8 rfl) (pCall_v.mono h (fun M4 h => ?_))
    refine st_aload oX11_takeWord_81 rfl ?_
    refine st_const oX11_takeWord_82 ?_
    obtain ⟨hK, h⟩ := h
    refine st_putZ oX11_takeWord_83 hK (Or.inl rfl) ?_
    exact st_vret oX11_takeWord_86 h
  · have h := h.2 g
    refine st_aload oX11_takeWord_81 rfl ?_
    refine st_const oX11_takeWord_82 ?_
    obtain ⟨hK, h⟩ := h
    refine st_putZ oX11_takeWord_83 hK (Or.inl rfl) ?_
    exact st_vret oX11_takeWord_86 h
theorem bX11_figure_0 {d : Nat} {Q : pR → pM → Prop} {c s : Nat} {M : pM} {l0 : Nat} {l1 : Int32} (h : ((l1 = 0 → pK M l0 = (1, 11) ∧ ∃ b1 : Nat, pP M l0 2 = b1 + 1 ∧ pK M b1 = (1, 0) ∧ ∃ b2 : Nat, pP M b1 1 = b2 + 1 ∧ pK M b2 = (1, 5) ∧ pCall_i d mX5_size (0, 0) [.ref b2] M (fun v1 M1 => Q (.inl (some (.int v1))) M1)) ∧ (¬ l1 = 0 → ((l1 = 1 → pK M l0 = (1, 11) ∧ ∃ b3 : Nat, pP M l0 2 = b3 + 1 ∧ pK M b3 = (1, 0) ∧ ∃ b4 : Nat, pP M b3 0 = b4 + 1 ∧ pK M b4 = (1, 5) ∧ pCall_i d mX5_size (0, 0) [.ref b4] M (fun v2 M2 => Q (.inl (some (.int v2))) M2)) ∧ (¬ l1 = 1 → ((l1 = 2 → pK M l0 = (1, 11) ∧ ∃ b5 : Nat, pP M l0 2 = b5 + 1 ∧ pK M b5 = (1, 0) ∧ ∃ b6 : Nat, pP M b5 4 = b6 + 1 ∧ pK M b6 = (1, 4) ∧ pCall_i d mX4_rows (0, 0) [.ref b6] M (fun v3 M3 => Q (.inl (some (.int v3))) M3)) ∧ (¬ l1 = 2 → ((l1 = 3 → pK M l0 = (1, 11) ∧ ∃ b7 : Nat, pP M l0 2 = b7 + 1 ∧ pK M b7 = (1, 0) ∧ ∃ b8 : Nat, pP M b7 5 = b8 + 1 ∧ pK M b8 = (1, 1) ∧ pCall_i d mX1_size (0, 0) [.ref b8] M (fun v4 M4 => Q (.inl (some (.int v4))) M4)) ∧ (¬ l1 = 3 → ((l1 = 4 → pK M l0 = (1, 11) ∧ ∃ b9 : Nat, pP M l0 4 = b9 + 1 ∧ pK M b9 = (1, 3) ∧ ∃ b10 : Nat, pP M b9 0 = b10 + 1 ∧ pK M b10 = (1, 9) ∧ pCall_i d mX9_size (0, 0) [.ref b10] M (fun v5 M5 => Q (.inl (some (.int v5))) M5)) ∧ (¬ l1 = 4 → ((l1 = 5 → pK M l0 = (1, 11) ∧ ∃ b11 : Nat, pP M l0 4 = b11 + 1 ∧ pK M b11 = (1, 3) ∧ Q (.inl (some (.int (pI M b11 1)))) M) ∧ (¬ l1 = 5 → ((l1 = 6 → pK M l0 = (1, 11) ∧ ∃ b12 : Nat, pP M l0 4 = b12 + 1 ∧ pK M b12 = (1, 3) ∧ Q (.inl (some (.int (pI M b12 3)))) M) ∧ (¬ l1 = 6 → ((l1 = 7 → pK M l0 = (1, 11) ∧ ∃ b13 : Nat, pP M l0 2 = b13 + 1 ∧ pK M b13 = (1, 0) ∧ pCall_i d mX0_allWeights (0, 0) [.ref b13] M (fun v6 M6 => Q (.inl (some (.int v6))) M6)) ∧ (¬ l1 = 7 → ((l1 = 8 → pK M l0 = (1, 11) ∧ ∃ b14 : Nat, pP M l0 5 = b14 + 1 ∧ pK M b14 = (1, 6) ∧ pCall_i d mX6_nearWords (0, 0) [.ref b14] M (fun v7 M7 => Q (.inl (some (.int v7))) M7)) ∧ (¬ l1 = 8 → ((l1 = 9 → pK M l0 = (1, 11) ∧ ∃ b15 : Nat, pP M l0 2 = b15 + 1 ∧ pK M l0 = (1, 11) ∧ ∃ b16 : Nat, pP M l0 4 = b16 + 1 ∧ pK M b16 = (1, 3) ∧ ∃ b17 : Nat, pP M b16 0 = b17 + 1 ∧ pK M b15 = (1, 0) ∧ pCall_i d mX0_wordsThatBegin (0, 0) [.ref b15, .ref b17] M (fun v8 M8 => Q (.inl (some (.int v8))) M8)) ∧ (¬ l1 = 9 → ((l1 = 10 → pK M l0 = (1, 11) ∧ ∃ b18 : Nat, pP M l0 2 = b18 + 1 ∧ pK M b18 = (1, 0) ∧ pCall_i d mX0_trieNodes (0, 0) [.ref b18] M (fun v9 M9 => Q (.inl (some (.int v9))) M9)) ∧ (¬ l1 = 10 → ((l1 = 11 → pK M l0 = (1, 11) ∧ ∃ b19 : Nat, pP M l0 4 = b19 + 1 ∧ pK M b19 = (1, 3) ∧ Q (.inl (some (.int (pI M b19 2)))) M) ∧ (¬ l1 = 11 → pK M l0 = (1, 11) ∧ ∃ b20 : Nat, pP M l0 0 = b20 + 1 ∧ pK M b20 = (1, 9) ∧ pCall_i d mX9_size (0, 0) [.ref b20] M (fun v10 M10 => Q (.inl (some (.int v10))) M10)))))))))))))))))))))))))) : Go d mX11_figure Q 0 ([some (.ref l0), some (.int l1)], [], c, s) M := by
  refine st_iload oX11_figure_0 rfl ?_
  refine st_sw oX11_figure_1 ?_
  refine And.intro (fun g => ?_) (fun g => ?_)
  · have h := h.1 g
    refine st_aload oX11_figure_64 rfl ?_
    obtain ⟨hK, b1, hP, h⟩ := h
    refine st_getP oX11_figure_65 hK hP ?_
    obtain ⟨hK, b2, hP, h⟩ := h
    refine st_getP oX11_figure_68 hK hP ?_
    obtain ⟨hK, h⟩ := h
    refine st_callV0_i [] oX11_figure_71 rfl rfl hK (ps8 rfl) (pCall_i.mono h (fun v1 M1 h => ?_))
    exact st_iret oX11_figure_74 h
  · have h := h.2 g
    refine And.intro (fun g => ?_) (fun g => ?_)
    · have h := h.1 g
      refine st_aload oX11_figure_75 rfl ?_
      obtain ⟨hK, b3, hP, h⟩ := h
      refine st_getP oX11_figure_76 hK hP ?_
      obtain ⟨hK, b4, hP, h⟩ := h
      refine st_getP oX11_figure_79 hK hP ?_
      obtain ⟨hK, h⟩ := h
      refine st_callV0_i [] oX11_figure_82 rfl rfl hK (ps8 rfl) (pCall_i.mono h (fun v2 M2 h => ?_))
      exact st_iret oX11_figure_85 h
    · have h := h.2 g
      refine And.intro (fun g => ?_) (fun g => ?_)
      · have h := h.1 g
        refine st_aload oX11_figure_86 rfl ?_
        obtain ⟨hK, b5, hP, h⟩ := h
        refine st_getP oX11_figure_87 hK hP ?_
        obtain ⟨hK, b6, hP, h⟩ := h
        refine st_getP oX11_figure_90 hK hP ?_
        obtain ⟨hK, h⟩ := h
        refine st_callV0_i [] oX11_figure_93 rfl rfl hK (ps8 rfl) (pCall_i.mono h (fun v3 M3 h => ?_))
        exact st_iret oX11_figure_96 h
      · have h := h.2 g
        refine And.intro (fun g => ?_) (fun g => ?_)
        · have h := h.1 g
          refine st_aload oX11_figure_97 rfl ?_
          obtain ⟨hK, b7, hP, h⟩ := h
          refine st_getP oX11_figure_98 hK hP ?_
          obtain ⟨hK, b8, hP, h⟩ := h
          refine st_getP oX11_figure_101 hK hP ?_
          obtain ⟨hK, h⟩ := h
          refine st_callV0_i [] oX11_figure_104 rfl rfl hK (ps8 rfl) (pCall_i.mono h (fun v4 M4 h => ?_))
          exact st_iret oX11_figure_107 h
        · have h := h.2 g
          refine And.intro (fun g => ?_) (fun g => ?_)
          · have h := h.1 g
            refine st_aload oX11_figure_108 rfl ?_
            obtain ⟨hK, b9, hP, h⟩ := h
            refine st_getP oX11_figure_109 hK hP ?_
            obtain ⟨hK, b10, hP, h⟩ := h
            refine st_getP oX11_figure_112 hK hP ?_
            obtain ⟨hK, h⟩ := h
            refine st_callV0_i [] oX11_figure_115 rfl rfl hK (ps8 rfl) (pCall_i.mono h (fun v5 M5 h => ?_))
            exact st_iret oX11_figure_118 h
          · have h := h.2 g
            refine And.intro (fun g => ?_) (fun g => ?_)
            · have h := h.1 g
              refine st_aload oX11_figure_119 rfl ?_
              obtain ⟨hK, b11, hP, h⟩ := h
              refine st_getP oX11_figure_120 hK hP ?_
              obtain ⟨hK, h⟩ := h
              refine st_getI oX11_figure_123 hK ?_
              exact st_iret oX11_figure_126 h
            · have h := h.2 g
              refine And.intro (fun g => ?_) (fun g => ?_)
              · have h := h.1 g
                refine st_aload oX11_figure_127 rfl ?_
                obtain ⟨hK, b12, hP, h⟩ := h
                refine st_getP oX11_figure_128 hK hP ?_
                obtain ⟨hK, h⟩ := h
                refine st_getI oX11_figure_131 hK ?_
                exact st_iret oX11_figure_134 h
              · have h := h.2 g
                refine And.intro (fun g => ?_) (fun g => ?_)
                · have h := h.1 g
                  refine st_aload oX11_figure_135 rfl ?_
                  obtain ⟨hK, b13, hP, h⟩ := h
                  refine st_getP oX11_figure_136 hK hP ?_
                  obtain ⟨hK, h⟩ := h
                  refine st_callV0_i [] oX11_figure_139 rfl rfl hK (ps8 rfl) (pCall_i.mono h (fun v6 M6 h => ?_))
                  exact st_iret oX11_figure_142 h
                · have h := h.2 g
                  refine And.intro (fun g => ?_) (fun g => ?_)
                  · have h := h.1 g
                    refine st_aload oX11_figure_143 rfl ?_
                    obtain ⟨hK, b14, hP, h⟩ := h
                    refine st_getP oX11_figure_144 hK hP ?_
                    obtain ⟨hK, h⟩ := h
                    refine st_callV0_i [] oX11_figure_147 rfl rfl hK (ps8 rfl) (pCall_i.mono h (fun v7 M7 h => ?_))
                    exact st_iret oX11_figure_150 h
                  · have h := h.2 g
                    refine And.intro (fun g => ?_) (fun g => ?_)
                    · have h := h.1 g
                      refine st_aload oX11_figure_151 rfl ?_
                      obtain ⟨hK, b15, hP, h⟩ := h
                      refine st_getP oX11_figure_152 hK hP ?_
                      refine st_aload oX11_figure_155 rfl ?_
                      obtain ⟨hK, b16, hP, h⟩ := h
                      refine st_getP oX11_figure_156 hK hP ?_
                      obtain ⟨hK, b17, hP, h⟩ := h
                      refine st_getP oX11_figure_159 hK hP ?_
                      obtain ⟨hK, h⟩ := h
                      refine st_callV0_i [.ref b17] oX11_figure_162 rfl rfl hK (ps8 rfl) (pCall_i.mono h (fun v8 M8 h => ?_))
                      exact st_iret oX11_figure_165 h
                    · have h := h.2 g
                      refine And.intro (fun g => ?_) (fun g => ?_)
                      · have h := h.1 g
                        refine st_aload oX11_figure_166 rfl ?_
                        obtain ⟨hK, b18, hP, h⟩ := h
                        refine st_getP oX11_figure_167 hK hP ?_
                        obtain ⟨hK, h⟩ := h
                        refine st_callV0_i [] oX11_figure_170 rfl rfl hK (ps8 rfl) (pCall_i.mono h (fun v9 M9 h => ?_))
                        exact st_iret oX11_figure_173 h
                      · have h := h.2 g
                        refine And.intro (fun g => ?_) (fun g => ?_)
                        · have h := h.1 g
                          refine st_aload oX11_figure_174 rfl ?_
                          obtain ⟨hK, b19, hP, h⟩ := h
                          refine st_getP oX11_figure_175 hK hP ?_
                          obtain ⟨hK, h⟩ := h
                          refine st_getI oX11_figure_178 hK ?_
                          exact st_iret oX11_figure_181 h
                        · have h := h.2 g
                          refine st_aload oX11_figure_182 rfl ?_
                          obtain ⟨hK, b20, hP, h⟩ := h
                          refine st_getP oX11_figure_183 hK hP ?_
                          obtain ⟨hK, h⟩ := h
                          refine st_callV0_i [] oX11_figure_186 rfl rfl hK (ps8 rfl) (pCall_i.mono h (fun v10 M10 h => ?_))
                          exact st_iret oX11_figure_189 h
theorem bX11_wordFigure_0 {d : Nat} {Q : pR → pM → Prop} {c s : Nat} {M : pM} {l0 : Nat} {l1 : Int32} {l2 : Int32} (h : ((l2 = 0 → pK M l0 = (1, 11) ∧ ∃ b1 : Nat, pP M l0 2 = b1 + 1 ∧ pK M b1 = (1, 0) ∧ ∃ b2 : Nat, pP M b1 2 = b2 + 1 ∧ pK M b2 = (1, 9) ∧ pCall_i d mX9_at (0, 0) [.ref b2, .int l1] M (fun v1 M1 => Q (.inl (some (.int v1))) M1)) ∧ (¬ l2 = 0 → ((l2 = 1 → pK M l0 = (1, 11) ∧ ∃ b3 : Nat, pP M l0 2 = b3 + 1 ∧ pK M b3 = (1, 0) ∧ ∃ b4 : Nat, pP M b3 3 = b4 + 1 ∧ pK M b4 = (1, 9) ∧ pCall_i d mX9_at (0, 0) [.ref b4, .int l1] M (fun v2 M2 => Q (.inl (some (.int v2))) M2)) ∧ (¬ l2 = 1 → ((l2 = 2 → pK M l0 = (1, 11) ∧ ∃ b5 : Nat, pP M l0 2 = b5 + 1 ∧ pK M b5 = (1, 0) ∧ ∃ b6 : Nat, pP M b5 1 = b6 + 1 ∧ pK M b6 = (1, 5) ∧ pCall_r d mX5_at (0, 0) [.ref b6, .int l1] M (fun v3 M3 => pK M3 v3 = (1, 9) ∧ pCall_i d mX9_size (0, 0) [.ref v3] M3 (fun v4 M4 => Q (.inl (some (.int v4))) M4))) ∧ (¬ l2 = 2 → ((l2 = 3 → pK M l0 = (1, 11) ∧ ∃ b7 : Nat, pP M l0 5 = b7 + 1 ∧ pK M b7 = (1, 6) ∧ pCall_i d mX6_far (0, 0) [.ref b7, .int l1] M (fun v5 M5 => Q (.inl (some (.int v5))) M5)) ∧ (¬ l2 = 3 → ((l2 = 4 → pK M l0 = (1, 11) ∧ ∃ b8 : Nat, pP M l0 5 = b8 + 1 ∧ pK M b8 = (1, 6) ∧ pCall_i d mX6_score (0, 0) [.ref b8, .int l1] M (fun v6 M6 => Q (.inl (some (.int v6))) M6)) ∧ (¬ l2 = 4 → pK M l0 = (1, 11) ∧ ∃ b9 : Nat, pP M l0 5 = b9 + 1 ∧ pK M b9 = (1, 6) ∧ pCall_i d mX6_place (0, 0) [.ref b9, .int l1] M (fun v7 M7 => Q (.inl (some (.int v7))) M7)))))))))))) : Go d mX11_wordFigure Q 0 ([some (.ref l0), some (.int l1), some (.int l2)], [], c, s) M := by
  refine st_iload oX11_wordFigure_0 rfl ?_
  refine st_sw oX11_wordFigure_1 ?_
  refine And.intro (fun g => ?_) (fun g => ?_)
  · have h := h.1 g
    refine st_aload oX11_wordFigure_36 rfl ?_
    obtain ⟨hK, b1, hP, h⟩ := h
    refine st_getP oX11_wordFigure_37 hK hP ?_
    obtain ⟨hK, b2, hP, h⟩ := h
    refine st_getP oX11_wordFigure_40 hK hP ?_
    refine st_iload oX11_wordFigure_43 rfl ?_
    obtain ⟨hK, h⟩ := h
    refine st_callV0_i [.int l1] oX11_wordFigure_44 rfl rfl hK (ps8 rfl) (pCall_i.mono h (fun v1 M1 h => ?_))
    exact st_iret oX11_wordFigure_47 h
  · have h := h.2 g
    refine And.intro (fun g => ?_) (fun g => ?_)
    · have h := h.1 g
      refine st_aload oX11_wordFigure_48 rfl ?_
      obtain ⟨hK, b3, hP, h⟩ := h
      refine st_getP oX11_wordFigure_49 hK hP ?_
      obtain ⟨hK, b4, hP, h⟩ := h
      refine st_getP oX11_wordFigure_52 hK hP ?_
      refine st_iload oX11_wordFigure_55 rfl ?_
      obtain ⟨hK, h⟩ := h
      refine st_callV0_i [.int l1] oX11_wordFigure_56 rfl rfl hK (ps8 rfl) (pCall_i.mono h (fun v2 M2 h => ?_))
      exact st_iret oX11_wordFigure_59 h
    · have h := h.2 g
      refine And.intro (fun g => ?_) (fun g => ?_)
      · have h := h.1 g
        refine st_aload oX11_wordFigure_60 rfl ?_
        obtain ⟨hK, b5, hP, h⟩ := h
        refine st_getP oX11_wordFigure_61 hK hP ?_
        obtain ⟨hK, b6, hP, h⟩ := h
        refine st_getP oX11_wordFigure_64 hK hP ?_
        refine st_iload oX11_wordFigure_67 rfl ?_
        obtain ⟨hK, h⟩ := h
        refine st_callV0_r [.int l1] oX11_wordFigure_68 rfl rfl hK (ps8 rfl) (pCall_r.mono h (fun v3 M3 h => ?_))
        obtain ⟨hK, h⟩ := h
        refine st_callV0_i [] oX11_wordFigure_71 rfl rfl hK (ps8 rfl) (pCall_i.mono h (fun v4 M4 h => ?_))
        exact st_iret oX11_wordFigure_74 h
      · have h := h.2 g
        refine And.intro (fun g => ?_) (fun g => ?_)
        · have h := h.1 g
          refine st_aload oX11_wordFigure_75 rfl ?_
          obtain ⟨hK, b7, hP, h⟩ := h
          refine st_getP oX11_wordFigure_76 hK hP ?_
          refine st_iload oX11_wordFigure_79 rfl ?_
          obtain ⟨hK, h⟩ := h
          refine st_callV0_i [.int l1] oX11_wordFigure_80 rfl rfl hK (ps8 rfl) (pCall_i.mono h (fun v5 M5 h => ?_))
          exact st_iret oX11_wordFigure_83 h
        · have h := h.2 g
          refine And.intro (fun g => ?_) (fun g => ?_)
          · have h := h.1 g
            refine st_aload oX11_wordFigure_84 rfl ?_
            obtain ⟨hK, b8, hP, h⟩ := h
            refine st_getP oX11_wordFigure_85 hK hP ?_
            refine st_iload oX11_wordFigure_88 rfl ?_
            obtain ⟨hK, h⟩ := h
            refine st_callV0_i [.int l1] oX11_wordFigure_89 rfl rfl hK (ps8 rfl) (pCall_i.mono h (fun v6 M6 h => ?_))
            exact st_iret oX11_wordFigure_92 h
          · have h := h.2 g
            refine st_aload oX11_wordFigure_93 rfl ?_
            obtain ⟨hK, b9, hP, h⟩ := h
            refine st_getP oX11_wordFigure_94 hK hP ?_
            refine st_iload oX11_wordFigure_97 rfl ?_
            obtain ⟨hK, h⟩ := h
            refine st_callV0_i [.int l1] oX11_wordFigure_98 rfl rfl hK (ps8 rfl) (pCall_i.mono h (fun v7 M7 h => ?_))
            exact st_iret oX11_wordFigure_101 h
