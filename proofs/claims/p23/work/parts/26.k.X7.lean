theorem bX7_init_0 {d : Nat} {Q : pR → pM → Prop} {c s : Nat} {M : pM} {l0 : Nat} (h : 1 ≤ c ∧ 5 ≤ s ∧ pN M < pBIG ∧ ∀ N1 : pM, N1 = (pnew M (1, 10)) → (∃ rs1 : Nat × Nat, rs1.1 ≤ (c - 1) ∧ rs1.2 ≤ (s - 5) ∧ pCall_v d mX10_init rs1 [.ref (pN M)] N1 (fun M1 => pK M1 l0 = (1, 7) ∧ ∀ N2 : pM, N2 = (psP M1 l0 0 ((pN M) + 1)) → (1 ≤ ((c - 1) - rs1.1) ∧ 2 ≤ ((s - 5) - rs1.2) ∧ pN N2 < pBIG ∧ ∀ N3 : pM, N3 = (pnew N2 (1, 9)) → (∃ rs2 : Nat × Nat, rs2.1 ≤ (((c - 1) - rs1.1) - 1) ∧ rs2.2 ≤ (((s - 5) - rs1.2) - 2) ∧ pCall_v d mX9_init rs2 [.ref (pN N2), .int 401] N3 (fun M2 => pK M2 l0 = (1, 7) ∧ ∀ N4 : pM, N4 = (psP M2 l0 1 ((pN N2) + 1)) → (pK N4 l0 = (1, 7) ∧ ∀ N5 : pM, N5 = (psI N4 l0 2 (-1)) → (Q (.inl none) N5)))))))) : Go d mX7_init Q 0 ([some (.ref l0)], [], c, s) M := by
  refine st_aload oX7_init_0 rfl ?_
  refine st_objinit oX7_init_1 (ps8 rfl) ?_
  refine st_aload oX7_init_4 rfl ?_
  obtain ⟨h1, h2, h3, h⟩ := h
  refine st_new oX7_init_5 h1 h2 h3 ?_
  refine st_nm (fun N1 eN1 => ?_)
  have h := h N1 eN1
  refine st_dup oX7_init_8 rfl ?_
  obtain ⟨rs1, h1, h2, h⟩ := h
  refine st_callI_v [] oX7_init_9 rfl rfl (ps8 rfl) h1 h2 (pCall_v.mono h (fun M1 h => ?_))
  obtain ⟨hK, h⟩ := h
  refine st_putP oX7_init_12 hK ?_
  refine st_nm (fun N2 eN2 => ?_)
  have h := h N2 eN2
  refine st_aload oX7_init_15 rfl ?_
  obtain ⟨h1, h2, h3, h⟩ := h
  refine st_new oX7_init_16 h1 h2 h3 ?_
  refine st_nm (fun N3 eN3 => ?_)
  have h := h N3 eN3
  refine st_dup oX7_init_19 rfl ?_
  refine st_const oX7_init_20 ?_
  obtain ⟨rs2, h1, h2, h⟩ := h
  refine st_callI_v [.int 401] oX7_init_23 rfl rfl (ps8 rfl) h1 h2 (pCall_v.mono h (fun M2 h => ?_))
  obtain ⟨hK, h⟩ := h
  refine st_putP oX7_init_26 hK ?_
  refine st_nm (fun N4 eN4 => ?_)
  have h := h N4 eN4
  refine st_aload oX7_init_29 rfl ?_
  refine st_const oX7_init_30 ?_
  obtain ⟨hK, h⟩ := h
  refine st_putI oX7_init_31 hK ?_
  refine st_nm (fun N5 eN5 => ?_)
  have h := h N5 eN5
  exact st_vret oX7_init_34 h
theorem bX7_errorPosition_0 {d : Nat} {Q : pR → pM → Prop} {c s : Nat} {M : pM} {l0 : Nat} (h : pK M l0 = (1, 7) ∧ Q (.inl (some (.int (pI M l0 2)))) M) : Go d mX7_errorPosition Q 0 ([some (.ref l0)], [], c, s) M := by
  refine st_aload oX7_errorPosition_0 rfl ?_
  obtain ⟨hK, h⟩ := h
  refine st_getI oX7_errorPosition_1 hK ?_
  exact st_iret oX7_errorPosition_4 h
theorem bX7_read_0 {d : Nat} {Q : pR → pM → Prop} {c s : Nat} {M : pM} {l0 : Nat} {l1 : Nat} {l2 : Nat} (h : pK M l2 = (1, 0) ∧ pCall_v d mX0_clear (0, 0) [.ref l2] M (fun M1 => pK M1 l0 = (1, 7) ∧ ∃ b1 : Nat, pP M1 l0 0 = b1 + 1 ∧ pK M1 b1 = (1, 10) ∧ pCall_v d mX10_read (0, 0) [.ref b1, .ref l1] M1 (fun M2 => 1 ≤ c ∧ 5 ≤ s ∧ pN M2 < pBIG ∧ pK (pnew M2 (1, 2)) l0 = (1, 7) ∧ ∃ b2 : Nat, pP (pnew M2 (1, 2)) l0 0 = b2 + 1 ∧ pK (pnew M2 (1, 2)) l2 = (1, 0) ∧ ∃ b3 : Nat, pP (pnew M2 (1, 2)) l2 5 = b3 + 1 ∧ pCall_v d mX2_init (0, 0) [.ref (pN M2), .ref b2, .ref l1, .ref b3] (pnew M2 (1, 2)) (fun M3 => pK M3 (pN M2) = (1, 2) ∧ pCall_i d mX2_read (0, 0) [.ref (pN M2)] M3 (fun v1 M4 => pK M4 l0 = (1, 7) ∧ pK (psI M4 l0 2 v1) l0 = (1, 7) ∧ (((pI (psI M4 l0 2 v1) l0 2) < 0 → pK (psI M4 l0 2 v1) l0 = (1, 7) ∧ ∃ b4 : Nat, pP (psI M4 l0 2 v1) l0 1 = b4 + 1 ∧ pK (psI M4 l0 2 v1) b4 = (1, 9) ∧ pCall_v d mX9_fill (0, 0) [.ref b4, .int (-1)] (psI M4 l0 2 v1) (fun M5 => Go d mX7_read Q 54 ([some (.ref l0), some (.ref l1), some (.ref l2), some (.int 0), none], [], (c - 1), (s - 5)) M5)) ∧ (¬ (pI (psI M4 l0 2 v1) l0 2) < 0 → Q (.inl (some (.int 1))) (psI M4 l0 2 v1)))))))) : Go d mX7_read Q 0 ([some (.ref l0), some (.ref l1), some (.ref l2), none, none], [], c, s) M := by
  refine st_aload oX7_read_0 rfl ?_
  obtain ⟨hK, h⟩ := h
  refine st_callV0_v [] oX7_read_1 rfl rfl hK (ps8 rfl) (pCall_v.mono h (fun M1 h => ?_))
  refine st_aload oX7_read_4 rfl ?_
  obtain ⟨hK, b1, hP, h⟩ := h
  refine st_getP oX7_read_5 hK hP ?_
  refine st_aload oX7_read_8 rfl ?_
  obtain ⟨hK, h⟩ := h
  refine st_callV0_v [.ref l1] oX7_read_9 rfl rfl hK (ps8 rfl) (pCall_v.mono h (fun M2 h => ?_))
  refine st_aload oX7_read_12 rfl ?_
  obtain ⟨h1, h2, h3, h⟩ := h
  refine st_new oX7_read_13 h1 h2 h3 ?_
  refine st_dup oX7_read_16 rfl ?_
  refine st_aload oX7_read_17 rfl ?_
  obtain ⟨hK, b2, hP, h⟩ := h
  refine st_getP oX7_read_18 hK hP ?_
  refine st_aload oX7_read_21 rfl ?_
  refine st_aload oX7_read_22 rfl ?_
  obtain ⟨hK, b3, hP, h⟩ := h
  refine st_getP oX7_read_23 hK hP ?_
  refine st_callI0_v [.ref b2, .ref l1, .ref b3] oX7_read_26 rfl rfl (ps8 rfl) (pCall_v.mono h (fun M3 h => ?_))
  obtain ⟨hK, h⟩ := h
  refine st_callV0_i [] oX7_read_29 rfl rfl hK (ps8 rfl) (pCall_i.mono h (fun v1 M4 h => ?_))
  obtain ⟨hK, h⟩ := h
  refine st_putI oX7_read_32 hK ?_
  refine st_aload oX7_read_35 rfl ?_
  obtain ⟨hK, h⟩ := h
  refine st_getI oX7_read_36 hK ?_
  refine st_if oX7_read_39 (fun g => ?_) (fun g => ?_)
  · have h := h.1 g
    refine st_aload oX7_read_44 rfl ?_
    obtain ⟨hK, b4, hP, h⟩ := h
    refine st_getP oX7_read_45 hK hP ?_
    refine st_const oX7_read_48 ?_
    obtain ⟨hK, h⟩ := h
    refine st_callV0_v [.int (-1)] oX7_read_49 rfl rfl hK (ps8 rfl) (pCall_v.mono h (fun M5 h => ?_))
    refine st_const oX7_read_52 ?_
    refine st_istore (L2 := [some (.ref l0), some (.ref l1), some (.ref l2), some (.int 0), none]) oX7_read_53 (by decide) rfl rfl ?_
    exact h
  · have h := h.2 g
    refine st_const oX7_read_42 ?_
    exact st_iret oX7_read_43 h
theorem bX7_read_54 {d : Nat} {Q : pR → pM → Prop} {c s : Nat} {M : pM} {l0 : Nat} {l1 : Nat} {l2 : Nat} {l3 : Int32} (h : pK M l0 = (1, 7) ∧ ∃ b1 : Nat, pP M l0 0 = b1 + 1 ∧ pK M b1 = (1, 10) ∧ pCall_i d mX10_size (0, 0) [.ref b1] M (fun v1 M1 => ((v1 ≤ l3 → pK M1 l2 = (1, 0) ∧ ∃ b2 : Nat, pP M1 l2 5 = b2 + 1 ∧ pK M1 l0 = (1, 7) ∧ ∃ b3 : Nat, pP M1 l0 1 = b3 + 1 ∧ pK M1 b2 = (1, 1) ∧ pCall_v d mX1_link (0, 0) [.ref b2, .ref b3] M1 (fun M2 => Q (.inl (some (.int 0))) M2)) ∧ (¬ v1 ≤ l3 → pK M1 l0 = (1, 7) ∧ pCall_i d mX7_lookAt (0, 0) [.ref l0, .int l3, .ref l1, .ref l2] M1 (fun v2 M3 => ((v2 = 0 → Go d mX7_read Q 54 ([some (.ref l0), some (.ref l1), some (.ref l2), some (.int (l3 + 1)), none], [], c, s) M3) ∧ (¬ v2 = 0 → pK M3 l0 = (1, 7) ∧ ∃ b4 : Nat, pP M3 l0 0 = b4 + 1 ∧ pK M3 b4 = (1, 10) ∧ pCall_i d mX10_start (0, 0) [.ref b4, .int l3] M3 (fun v3 M4 => pK M4 l0 = (1, 7) ∧ Q (.inl (some (.int v2))) (psI M4 l0 2 v3))))))))) : Go d mX7_read Q 54 ([some (.ref l0), some (.ref l1), some (.ref l2), some (.int l3), none], [], c, s) M := by
  refine st_iload oX7_read_54 rfl ?_
  refine st_aload oX7_read_55 rfl ?_
  obtain ⟨hK, b1, hP, h⟩ := h
  refine st_getP oX7_read_56 hK hP ?_
  obtain ⟨hK, h⟩ := h
  refine st_callV0_i [] oX7_read_59 rfl rfl hK (ps8 rfl) (pCall_i.mono h (fun v1 M1 h => ?_))
  refine st_icmp oX7_read_62 (fun g => ?_) (fun g => ?_)
  · have h := h.1 g
    refine st_aload oX7_read_100 rfl ?_
    obtain ⟨hK, b2, hP, h⟩ := h
    refine st_getP oX7_read_101 hK hP ?_
    refine st_aload oX7_read_104 rfl ?_
    obtain ⟨hK, b3, hP, h⟩ := h
    refine st_getP oX7_read_105 hK hP ?_
    obtain ⟨hK, h⟩ := h
    refine st_callV0_v [.ref b3] oX7_read_108 rfl rfl hK (ps8 rfl) (pCall_v.mono h (fun M2 h => ?_))
    refine st_const oX7_read_111 ?_
    exact st_iret oX7_read_112 h
  · have h := h.2 g
    refine st_aload oX7_read_65 rfl ?_
    refine st_iload oX7_read_66 rfl ?_
    refine st_aload oX7_read_67 rfl ?_
    refine st_aload oX7_read_68 rfl ?_
    obtain ⟨hK, h⟩ := h
    refine st_callV0_i [.int l3, .ref l1, .ref l2] oX7_read_69 rfl rfl hK (ps8 rfl) (pCall_i.mono h (fun v2 M3 h => ?_))
    refine st_istore (L2 := [some (.ref l0), some (.ref l1), some (.ref l2), some (.int l3), some (.int v2)]) oX7_read_72 (by decide) rfl rfl ?_
    refine st_iload oX7_read_74 rfl ?_
    refine st_if oX7_read_76 (fun g => ?_) (fun g => ?_)
    · have h := h.1 g
      refine st_iinc (L2 := [some (.ref l0), some (.ref l1), some (.ref l2), some (.int (l3 + 1)), some (.int v2)]) oX7_read_94 rfl (by decide) rfl rfl ?_
      refine st_goto oX7_read_97 ?_
      exact Go.wk (L := [some (.ref l0), some (.ref l1), some (.ref l2), some (.int (l3 + 1)), none]) (And.intro (Or.inr rfl) (And.intro (Or.inr rfl) (And.intro (Or.inr rfl) (And.intro (Or.inr rfl) (And.intro (Or.inl rfl) True.intro))))) h
    · have h := h.2 g
      refine st_aload oX7_read_79 rfl ?_
      refine st_aload oX7_read_80 rfl ?_
      obtain ⟨hK, b4, hP, h⟩ := h
      refine st_getP oX7_read_81 hK hP ?_
      refine st_iload oX7_read_84 rfl ?_
      obtain ⟨hK, h⟩ := h
      refine st_callV0_i [.int l3] oX7_read_85 rfl rfl hK (ps8 rfl) (pCall_i.mono h (fun v3 M4 h => ?_))
      obtain ⟨hK, h⟩ := h
      refine st_putI oX7_read_88 hK ?_
      refine st_iload oX7_read_91 rfl ?_
      exact st_iret oX7_read_93 h
theorem bX7_lookAt_0 {d : Nat} {Q : pR → pM → Prop} {c s : Nat} {M : pM} {l0 : Nat} {l1 : Int32} {l2 : Nat} {l3 : Nat} (h : pK M l0 = (1, 7) ∧ ∃ b1 : Nat, pP M l0 0 = b1 + 1 ∧ pK M b1 = (1, 10) ∧ pCall_i d mX10_kind (0, 0) [.ref b1, .int l1] M (fun v1 M1 => ((v1 = 5 → pK M1 l3 = (1, 0) ∧ ∃ b2 : Nat, pP M1 l3 5 = b2 + 1 ∧ pK M1 b2 = (1, 1) ∧ ∃ b3 : Nat, pP M1 b2 0 = b3 + 1 ∧ pK M1 b3 = (1, 9) ∧ pCall_i d mX9_isFull (0, 0) [.ref b3] M1 (fun v2 M2 => ((v2 = 0 → Q (.inl (some (.int 0))) M2) ∧ (¬ v2 = 0 → Q (.inl (some (.int 4))) M2)))) ∧ (¬ v1 = 5 → ((v1 = 20 → pK M1 l0 = (1, 7) ∧ ∃ b4 : Nat, pP M1 l0 0 = b4 + 1 ∧ pK M1 b4 = (1, 10) ∧ pCall_r d mX10_spell (0, 0) [.ref b4, .ref l2, .int l1] M1 (fun v3 M3 => pK M3 l0 = (1, 7) ∧ pCall_i d mX7_lookAtName (0, 0) [.ref l0, .int l1, .ref v3, .ref l3] M3 (fun v4 M4 => Q (.inl (some (.int v4))) M4))) ∧ (¬ v1 = 20 → ((v1 = 21 → pK M1 l0 = (1, 7) ∧ ∃ b5 : Nat, pP M1 l0 0 = b5 + 1 ∧ pK M1 b5 = (1, 10) ∧ pCall_i d mX10_kind (0, 0) [.ref b5, .int (l1 - 1)] M1 (fun v5 M5 => ((v5 = 2 → pK M5 l0 = (1, 7) ∧ ∃ b6 : Nat, pP M5 l0 0 = b6 + 1 ∧ pK M5 b6 = (1, 10) ∧ pCall_i d mX10_number (0, 0) [.ref b6, .ref l2, .int l1] M5 (fun v6 M6 => pK M6 l0 = (1, 7) ∧ pCall_i d mX7_weigh (0, 0) [.ref l0, .int v6, .ref l3] M6 (fun v7 M7 => Q (.inl (some (.int v7))) M7))) ∧ (¬ v5 = 2 → Q (.inl (some (.int 0))) M5)))) ∧ (¬ v1 = 21 → Q (.inl (some (.int 0))) M1)))))))) : Go d mX7_lookAt Q 0 ([some (.ref l0), some (.int l1), some (.ref l2), some (.ref l3)], [], c, s) M := by
  refine st_aload oX7_lookAt_0 rfl ?_
  obtain ⟨hK, b1, hP, h⟩ := h
  refine st_getP oX7_lookAt_1 hK hP ?_
  refine st_iload oX7_lookAt_4 rfl ?_
  obtain ⟨hK, h⟩ := h
  refine st_callV0_i [.int l1] oX7_lookAt_5 rfl rfl hK (ps8 rfl) (pCall_i.mono h (fun v1 M1 h => ?_))
  refine st_sw oX7_lookAt_8 ?_
  refine And.intro (fun g => ?_) (fun g => ?_)
  · have h := h.1 g
    refine st_aload oX7_lookAt_44 rfl ?_
    obtain ⟨hK, b2, hP, h⟩ := h
    refine st_getP oX7_lookAt_45 hK hP ?_
    obtain ⟨hK, b3, hP, h⟩ := h
    refine st_getP oX7_lookAt_48 hK hP ?_
    obtain ⟨hK, h⟩ := h
    refine st_callV0_i [] oX7_lookAt_51 rfl rfl hK (ps8 rfl) (pCall_i.mono h (fun v2 M2 h => ?_))
    refine st_if oX7_lookAt_54 (fun g => ?_) (fun g => ?_)
    · have h := h.1 g
      refine st_const oX7_lookAt_61 ?_
      exact st_iret oX7_lookAt_62 h
    · have h := h.2 g
      refine st_const oX7_lookAt_57 ?_
      refine st_goto oX7_lookAt_58 ?_
      exact st_iret oX7_lookAt_62 h
  · have h := h.2 g
    refine And.intro (fun g => ?_) (fun g => ?_)
    · have h := h.1 g
      refine st_aload oX7_lookAt_96 rfl ?_
      refine st_iload oX7_lookAt_97 rfl ?_
      refine st_aload oX7_lookAt_98 rfl ?_
      obtain ⟨hK, b4, hP, h⟩ := h
      refine st_getP oX7_lookAt_99 hK hP ?_
      refine st_aload oX7_lookAt_102 rfl ?_
      refine st_iload oX7_lookAt_103 rfl ?_
      obtain ⟨hK, h⟩ := h
      refine st_callV0_r [.ref l2, .int l1] oX7_lookAt_104 rfl rfl hK (ps8 rfl) (pCall_r.mono h (fun v3 M3 h => ?_))
      refine st_aload oX7_lookAt_107 rfl ?_
      obtain ⟨hK, h⟩ := h
      refine st_callV0_i [.int l1, .ref v3, .ref l3] oX7_lookAt_108 rfl rfl hK (ps8 rfl) (pCall_i.mono h (fun v4 M4 h => ?_))
      exact st_iret oX7_lookAt_111 h
    · have h := h.2 g
      refine And.intro (fun g => ?_) (fun g => ?_)
      · have h := h.1 g
        refine st_aload oX7_lookAt_63 rfl ?_
        obtain ⟨hK, b5, hP, h⟩ := h
        refine st_getP oX7_lookAt_64 hK hP ?_
        refine st_iload oX7_lookAt_67 rfl ?_
        refine st_const oX7_lookAt_68 ?_
        refine st_ibin oX7_lookAt_69 ?_
        obtain ⟨hK, h⟩ := h
        refine st_callV0_i [.int (l1 - 1)] oX7_lookAt_70 rfl rfl hK (ps8 rfl) (pCall_i.mono h (fun v5 M5 h => ?_))
        refine st_const oX7_lookAt_73 ?_
        refine st_icmp oX7_lookAt_74 (fun g => ?_) (fun g => ?_)
        · have h := h.1 g
          refine st_aload oX7_lookAt_77 rfl ?_
          refine st_aload oX7_lookAt_78 rfl ?_
          obtain ⟨hK, b6, hP, h⟩ := h
          refine st_getP oX7_lookAt_79 hK hP ?_
          refine st_aload oX7_lookAt_82 rfl ?_
          refine st_iload oX7_lookAt_83 rfl ?_
          obtain ⟨hK, h⟩ := h
          refine st_callV0_i [.ref l2, .int l1] oX7_lookAt_84 rfl rfl hK (ps8 rfl) (pCall_i.mono h (fun v6 M6 h => ?_))
          refine st_aload oX7_lookAt_87 rfl ?_
          obtain ⟨hK, h⟩ := h
          refine st_callV0_i [.int v6, .ref l3] oX7_lookAt_88 rfl rfl hK (ps8 rfl) (pCall_i.mono h (fun v7 M7 h => ?_))
          refine st_goto oX7_lookAt_91 ?_
          exact st_iret oX7_lookAt_95 h
        · have h := h.2 g
          refine st_const oX7_lookAt_94 ?_
          exact st_iret oX7_lookAt_95 h
      · have h := h.2 g
        refine st_const oX7_lookAt_112 ?_
        exact st_iret oX7_lookAt_113 h
theorem bX7_weigh_0 {d : Nat} {Q : pR → pM → Prop} {c s : Nat} {M : pM} {l0 : Nat} {l1 : Int32} {l2 : Nat} (h : pK M l2 = (1, 0) ∧ ∃ b1 : Nat, pP M l2 2 = b1 + 1 ∧ pK M l2 = (1, 0) ∧ ∃ b2 : Nat, pP M l2 1 = b2 + 1 ∧ pK M b2 = (1, 5) ∧ pCall_i d mX5_size (0, 0) [.ref b2] M (fun v1 M1 => pK M1 b1 = (1, 9) ∧ pCall_v d mX9_put (0, 0) [.ref b1, .int (v1 - 1), .int l1] M1 (fun M2 => ((l1 ≤ 9999 → Q (.inl (some (.int 0))) M2) ∧ (¬ l1 ≤ 9999 → Q (.inl (some (.int 5))) M2))))) : Go d mX7_weigh Q 0 ([some (.ref l0), some (.int l1), some (.ref l2)], [], c, s) M := by
  refine st_aload oX7_weigh_0 rfl ?_
  obtain ⟨hK, b1, hP, h⟩ := h
  refine st_getP oX7_weigh_1 hK hP ?_
  refine st_aload oX7_weigh_4 rfl ?_
  obtain ⟨hK, b2, hP, h⟩ := h
  refine st_getP oX7_weigh_5 hK hP ?_
  obtain ⟨hK, h⟩ := h
  refine st_callV0_i [] oX7_weigh_8 rfl rfl hK (ps8 rfl) (pCall_i.mono h (fun v1 M1 h => ?_))
  refine st_const oX7_weigh_11 ?_
  refine st_ibin oX7_weigh_12 ?_
  refine st_iload oX7_weigh_13 rfl ?_
  obtain ⟨hK, h⟩ := h
  refine st_callV0_v [.int (v1 - 1), .int l1] oX7_weigh_14 rfl rfl hK (ps8 rfl) (pCall_v.mono h (fun M2 h => ?_))
  refine st_iload oX7_weigh_17 rfl ?_
  refine st_const oX7_weigh_18 ?_
  refine st_icmp oX7_weigh_21 (fun g => ?_) (fun g => ?_)
  · have h := h.1 g
    refine st_const oX7_weigh_28 ?_
    exact st_iret oX7_weigh_29 h
  · have h := h.2 g
    refine st_const oX7_weigh_24 ?_
    refine st_goto oX7_weigh_25 ?_
    exact st_iret oX7_weigh_29 h
theorem bX7_lookAtName_0 {d : Nat} {Q : pR → pM → Prop} {c s : Nat} {M : pM} {l0 : Nat} {l1 : Int32} {l2 : Nat} {l3 : Nat} (h : pK M l3 = (1, 0) ∧ ∃ b1 : Nat, pP M l3 0 = b1 + 1 ∧ pK M b1 = (1, 5) ∧ pCall_i d mX5_find (0, 0) [.ref b1, .ref l2] M (fun v1 M1 => pK M1 l3 = (1, 0) ∧ ∃ b2 : Nat, pP M1 l3 1 = b2 + 1 ∧ pK M1 b2 = (1, 5) ∧ pCall_i d mX5_find (0, 0) [.ref b2, .ref l2] M1 (fun v2 M2 => pK M2 l0 = (1, 7) ∧ ∃ b3 : Nat, pP M2 l0 0 = b3 + 1 ∧ pK M2 b3 = (1, 10) ∧ pCall_i d mX10_kind (0, 0) [.ref b3, .int (l1 - 1)] M2 (fun v3 M3 => ((v3 = 0 → ((v1 < 0 → pK M3 l3 = (1, 0) ∧ ∃ b4 : Nat, pP M3 l3 0 = b4 + 1 ∧ pK M3 b4 = (1, 5) ∧ pCall_i d mX5_add (0, 0) [.ref b4, .ref l2] M3 (fun v4 M4 => ((0 ≤ v4 → Q (.inl (some (.int 0))) M4) ∧ (¬ 0 ≤ v4 → Q (.inl (some (.int 4))) M4)))) ∧ (¬ v1 < 0 → Q (.inl (some (.int 2))) M3))) ∧ (¬ v3 = 0 → ((v3 = 1 → ((v2 < 0 → pK M3 l3 = (1, 0) ∧ pCall_i d mX0_addWord (0, 0) [.ref l3, .ref l2] M3 (fun v5 M5 => ((0 ≤ v5 → Q (.inl (some (.int 0))) M5) ∧ (¬ 0 ≤ v5 → Q (.inl (some (.int 4))) M5)))) ∧ (¬ v2 < 0 → Q (.inl (some (.int 2))) M3))) ∧ (¬ v3 = 1 → ((v3 = 2 → Go d mX7_lookAtName Q 197 ([some (.ref l0), some (.int l1), none, none, none, some (.int v2)], [], c, s) M3) ∧ (¬ v3 = 2 → ((v3 = 3 → pK M3 l3 = (1, 0) ∧ ∃ b5 : Nat, pP M3 l3 3 = b5 + 1 ∧ pK M3 l3 = (1, 0) ∧ ∃ b6 : Nat, pP M3 l3 1 = b6 + 1 ∧ pK M3 b6 = (1, 5) ∧ pCall_i d mX5_size (0, 0) [.ref b6] M3 (fun v6 M6 => pK M6 b5 = (1, 9) ∧ pCall_v d mX9_put (0, 0) [.ref b5, .int (v6 - 1), .int v1] M6 (fun M7 => ((0 ≤ v1 → Q (.inl (some (.int 0))) M7) ∧ (¬ 0 ≤ v1 → Q (.inl (some (.int 3))) M7))))) ∧ (¬ v3 = 3 → ((v3 = 4 → Go d mX7_lookAtName Q 239 ([some (.ref l0), none, some (.ref l2), some (.ref l3), none, none], [], c, s) M3) ∧ (¬ v3 = 4 → ((v3 = 5 → pK M3 l3 = (1, 0) ∧ ∃ b7 : Nat, pP M3 l3 5 = b7 + 1 ∧ pK M3 b7 = (1, 1) ∧ ∃ b8 : Nat, pP M3 b7 0 = b8 + 1 ∧ pK M3 b8 = (1, 9) ∧ pCall_v d mX9_add (0, 0) [.ref b8, .int v1] M3 (fun M8 => ((0 ≤ v1 → Q (.inl (some (.int 0))) M8) ∧ (¬ 0 ≤ v1 → Q (.inl (some (.int 3))) M8)))) ∧ (¬ v3 = 5 → ((v3 = 6 → Go d mX7_lookAtName Q 239 ([some (.ref l0), none, some (.ref l2), some (.ref l3), none, none], [], c, s) M3) ∧ (¬ v3 = 6 → ((v3 = 7 → Go d mX7_lookAtName Q 239 ([some (.ref l0), none, some (.ref l2), some (.ref l3), none, none], [], c, s) M3) ∧ (¬ v3 = 7 → ((v3 = 8 → Go d mX7_lookAtName Q 239 ([some (.ref l0), none, some (.ref l2), some (.ref l3), none, none], [], c, s) M3) ∧ (¬ v3 = 8 → ((v3 = 9 → Go d mX7_lookAtName Q 239 ([some (.ref l0), none, some (.ref l2), some (.ref l3), none, none], [], c, s) M3) ∧ (¬ v3 = 9 → ((v3 = 10 → Go d mX7_lookAtName Q 239 ([some (.ref l0), none, some (.ref l2), some (.ref l3), none, none], [], c, s) M3) ∧ (¬ v3 = 10 → ((v3 = 11 → Go d mX7_lookAtName Q 239 ([some (.ref l0), none, some (.ref l2), some (.ref l3), none, none], [], c, s) M3) ∧ (¬ v3 = 11 → ((v3 = 12 → Go d mX7_lookAtName Q 197 ([some (.ref l0), some (.int l1), none, none, none, some (.int v2)], [], c, s) M3) ∧ (¬ v3 = 12 → ((v3 = 13 → pK M3 l0 = (1, 7) ∧ ∃ b9 : Nat, pP M3 l0 1 = b9 + 1 ∧ pK M3 l3 = (1, 0) ∧ ∃ b10 : Nat, pP M3 l3 5 = b10 + 1 ∧ pK M3 b10 = (1, 1) ∧ ∃ b11 : Nat, pP M3 b10 6 = b11 + 1 ∧ pK M3 b11 = (1, 5) ∧ pCall_i d mX5_add (0, 0) [.ref b11, .ref l2] M3 (fun v7 M9 => pK M9 b9 = (1, 9) ∧ pCall_v d mX9_put (0, 0) [.ref b9, .int l1, .int v7] M9 (fun M10 => Q (.inl (some (.int 0))) M10))) ∧ (¬ v3 = 13 → Go d mX7_lookAtName Q 239 ([some (.ref l0), none, some (.ref l2), some (.ref l3), none, none], [], c, s) M3)))))))))))))))))))))))))))))))) : Go d mX7_lookAtName Q 0 ([some (.ref l0), some (.int l1), some (.ref l2), some (.ref l3), none, none], [], c, s) M := by
  refine st_aload oX7_lookAtName_0 rfl ?_
  obtain ⟨hK, b1, hP, h⟩ := h
  refine st_getP oX7_lookAtName_1 hK hP ?_
  refine st_aload oX7_lookAtName_4 rfl ?_
  obtain ⟨hK, h⟩ := h
  refine st_callV0_i [.ref l2] oX7_lookAtName_5 rfl rfl hK (ps8 rfl) (pCall_i.mono h (fun v1 M1 h => ?_))
  refine st_istore (L2 := [some (.ref l0), some (.int l1), some (.ref l2), some (.ref l3), some (.int v1), none]) oX7_lookAtName_8 (by decide) rfl rfl ?_
  refine st_aload oX7_lookAtName_10 rfl ?_
  obtain ⟨hK, b2, hP, h⟩ := h
  refine st_getP oX7_lookAtName_11 hK hP ?_
  refine st_aload oX7_lookAtName_14 rfl ?_
  obtain ⟨hK, h⟩ := h
  refine st_callV0_i [.ref l2] oX7_lookAtName_15 rfl rfl hK (ps8 rfl) (pCall_i.mono h (fun v2 M2 h => ?_))
  refine st_istore (L2 := [some (.ref l0), some (.int l1), some (.ref l2), some (.ref l3), some (.int v1), some (.int v2)]) oX7_lookAtName_18 (by decide) rfl rfl ?_
  refine st_aload oX7_lookAtName_20 rfl ?_
  obtain ⟨hK, b3, hP, h⟩ := h
  refine st_getP oX7_lookAtName_21 hK hP ?_
  refine st_iload oX7_lookAtName_24 rfl ?_
  refine st_const oX7_lookAtName_25 ?_
  refine st_ibin oX7_lookAtName_26 ?_
  obtain ⟨hK, h⟩ := h
  refine st_callV0_i [.int (l1 - 1)] oX7_lookAtName_27 rfl rfl hK (ps8 rfl) (pCall_i.mono h (fun v3 M3 h => ?_))
  refine st_sw oX7_lookAtName_30 ?_
  refine And.intro (fun g => ?_) (fun g => ?_)
  · have h := h.1 g
    refine st_iload oX7_lookAtName_100 rfl ?_
    refine st_if oX7_lookAtName_102 (fun g => ?_) (fun g => ?_)
    · have h := h.1 g
      refine st_aload oX7_lookAtName_107 rfl ?_
      obtain ⟨hK, b4, hP, h⟩ := h
      refine st_getP oX7_lookAtName_108 hK hP ?_
      refine st_aload oX7_lookAtName_111 rfl ?_
      obtain ⟨hK, h⟩ := h
      refine st_callV0_i [.ref l2] oX7_lookAtName_112 rfl rfl hK (ps8 rfl) (pCall_i.mono h (fun v4 M4 h => ?_))
      refine st_if oX7_lookAtName_115 (fun g => ?_) (fun g => ?_)
      · have h := h.1 g
        refine st_const oX7_lookAtName_122 ?_
        exact st_iret oX7_lookAtName_123 h
      · have h := h.2 g
        refine st_const oX7_lookAtName_118 ?_
        refine st_goto oX7_lookAtName_119 ?_
        exact st_iret oX7_lookAtName_123 h
    · have h := h.2 g
      refine st_const oX7_lookAtName_105 ?_
      exact st_iret oX7_lookAtName_106 h
  · have h := h.2 g
    refine And.intro (fun g => ?_) (fun g => ?_)
    · have h := h.1 g
      refine st_iload oX7_lookAtName_124 rfl ?_
      refine st_if oX7_lookAtName_126 (fun g => ?_) (fun g => ?_)
      · have h := h.1 g
        refine st_aload oX7_lookAtName_131 rfl ?_
        refine st_aload oX7_lookAtName_132 rfl ?_
        obtain ⟨hK, h⟩ := h
        refine st_callV0_i [.ref l2] oX7_lookAtName_133 rfl rfl hK (ps8 rfl) (pCall_i.mono h (fun v5 M5 h => ?_))
        refine st_if oX7_lookAtName_136 (fun g => ?_) (fun g => ?_)
        · have h := h.1 g
          refine st_const oX7_lookAtName_143 ?_
          exact st_iret oX7_lookAtName_144 h
        · have h := h.2 g
          refine st_const oX7_lookAtName_139 ?_
          refine st_goto oX7_lookAtName_140 ?_
          exact st_iret oX7_lookAtName_144 h
      · have h := h.2 g
        refine st_const oX7_lookAtName_129 ?_
        exact st_iret oX7_lookAtName_130 h
    · have h := h.2 g
      refine And.intro (fun g => ?_) (fun g => ?_)
      · have h := h.1 g
        exact Go.wk (L := [some (.ref l0), some (.int l1), none, none, none, some (.int v2)]) (And.intro (Or.inr rfl) (And.intro (Or.inr rfl) (And.intro (Or.inl rfl) (And.intro (Or.inl rfl) (And.intro (Or.inl rfl) (And.intro (Or.inr rfl) True.intro)))))) h
      · have h := h.2 g
        refine And.intro (fun g => ?_) (fun g => ?_)
        · have h := h.1 g
          refine st_aload oX7_lookAtName_145 rfl ?_
          obtain ⟨hK, b5, hP, h⟩ := h
          refine st_getP oX7_lookAtName_146 hK hP ?_
          refine st_aload oX7_lookAtName_149 rfl ?_
          obtain ⟨hK, b6, hP, h⟩ := h
          refine st_getP oX7_lookAtName_150 hK hP ?_
          obtain ⟨hK, h⟩ := h
          refine st_callV0_i [] oX7_lookAtName_153 rfl rfl hK (ps8 rfl) (pCall_i.mono h (fun v6 M6 h => ?_))
          refine st_const oX7_lookAtName_156 ?_
          refine st_ibin oX7_lookAtName_157 ?_
          refine st_iload oX7_lookAtName_158 rfl ?_
          obtain ⟨hK, h⟩ := h
          refine st_callV0_v [.int (v6 - 1), .int v1] oX7_lookAtName_160 rfl rfl hK (ps8 rfl) (pCall_v.mono h (fun M7 h => ?_))
          refine st_iload oX7_lookAtName_163 rfl ?_
          refine st_if oX7_lookAtName_165 (fun g => ?_) (fun g => ?_)
          · have h := h.1 g
            refine st_const oX7_lookAtName_172 ?_
            exact st_iret oX7_lookAtName_173 h
          · have h := h.2 g
            refine st_const oX7_lookAtName_168 ?_
            refine st_goto oX7_lookAtName_169 ?_
            exact st_iret oX7_lookAtName_173 h
        · have h := h.2 g
          refine And.intro (fun g => ?_) (fun g => ?_)
          · have h := h.1 g
            exact Go.wk (L := [some (.ref l0), none, some (.ref l2), some (.ref l3), none, none]) (And.intro (Or.inr rfl) (And.intro (Or.inl rfl) (And.intro (Or.inr rfl) (And.intro (Or.inr rfl) (And.intro (Or.inl rfl) (And.intro (Or.inl rfl) True.intro)))))) h
          · have h := h.2 g
            refine And.intro (fun g => ?_) (fun g => ?_)
            · have h := h.1 g
              refine st_aload oX7_lookAtName_174 rfl ?_
              obtain ⟨hK, b7, hP, h⟩ := h
              refine st_getP oX7_lookAtName_175 hK hP ?_
              obtain ⟨hK, b8, hP, h⟩ := h
              refine st_getP oX7_lookAtName_178 hK hP ?_
              refine st_iload oX7_lookAtName_181 rfl ?_
              obtain ⟨hK, h⟩ := h
              refine st_callV0_v [.int v1] oX7_lookAtName_183 rfl rfl hK (ps8 rfl) (pCall_v.mono h (fun M8 h => ?_))
              refine st_iload oX7_lookAtName_186 rfl ?_
              refine st_if oX7_lookAtName_188 (fun g => ?_) (fun g => ?_)
              · have h := h.1 g
                refine st_const oX7_lookAtName_195 ?_
                exact st_iret oX7_lookAtName_196 h
              · have h := h.2 g
                refine st_const oX7_lookAtName_191 ?_
                refine st_goto oX7_lookAtName_192 ?_
                exact st_iret oX7_lookAtName_196 h
            · have h := h.2 g
              refine And.intro (fun g => ?_) (fun g => ?_)
              · have h := h.1 g
                exact Go.wk (L := [some (.ref l0), none, some (.ref l2), some (.ref l3), none, none]) (And.intro (Or.inr rfl) (And.intro (Or.inl rfl) (And.intro (Or.inr rfl) (And.intro (Or.inr rfl) (And.intro (Or.inl rfl) (And.intro (Or.inl rfl) True.intro)))))) h
              · have h := h.2 g
                refine And.intro (fun g => ?_) (fun g => ?_)
                · have h := h.1 g
                  exact Go.wk (L := [some (.ref l0), none, some (.ref l2), some (.ref l3), none, none]) (And.intro (Or.inr rfl) (And.intro (Or.inl rfl) (And.intro (Or.inr rfl) (And.intro (Or.inr rfl) (And.intro (Or.inl rfl) (And.intro (Or.inl rfl) True.intro)))))) h
                · have h := h.2 g
                  refine And.intro (fun g => ?_) (fun g => ?_)
                  · have h := h.1 g
                    exact Go.wk (L := [some (.ref l0), none, some (.ref l2), some (.ref l3), none, none]) (And.intro (Or.inr rfl) (And.intro (Or.inl rfl) (And.intro (Or.inr rfl) (And.intro (Or.inr rfl) (And.intro (Or.inl rfl) (And.intro (Or.inl rfl) True.intro)))))) h
                  · have h := h.2 g
                    refine And.intro (fun g => ?_) (fun g => ?_)
                    · have h := h.1 g
                      exact Go.wk (L := [some (.ref l0), none, some (.ref l2), some (.ref l3), none, none]) (And.intro (Or.inr rfl) (And.intro (Or.inl rfl) (And.intro (Or.inr rfl) (And.intro (Or.inr rfl) (And.intro (Or.inl rfl) (And.intro (Or.inl rfl) True.intro)))))) h
                    · have h := h.2 g
                      refine And.intro (fun g => ?_) (fun g => ?_)
                      · have h := h.1 g
                        exact Go.wk (L := [some (.ref l0), none, some (.ref l2), some (.ref l3), none, none]) (And.intro (Or.inr rfl) (And.intro (Or.inl rfl) (And.intro (Or.inr rfl) (And.intro (Or.inr rfl) (And.intro (Or.inl rfl) (And.intro (Or.inl rfl) True.intro)))))) h
                      · have h := h.2 g
                        refine And.intro (fun g => ?_) (fun g => ?_)
                        · have h := h.1 g
                          exact Go.wk (L := [some (.ref l0), none, some (.ref l2), some (.ref l3), none, none]) (And.intro (Or.inr rfl) (And.intro (Or.inl rfl) (And.intro (Or.inr rfl) (And.intro (Or.inr rfl) (And.intro (Or.inl rfl) (And.intro (Or.inl rfl) True.intro)))))) h
                        · have h := h.2 g
                          refine And.intro (fun g => ?_) (fun g => ?_)
                          · have h := h.1 g
                            exact Go.wk (L := [some (.ref l0), some (.int l1), none, none, none, some (.int v2)]) (And.intro (Or.inr rfl) (And.intro (Or.inr rfl) (And.intro (Or.inl rfl) (And.intro (Or.inl rfl) (And.intro (Or.inl rfl) (And.intro (Or.inr rfl) True.intro)))))) h
                          · have h := h.2 g
                            refine And.intro (fun g => ?_) (fun g => ?_)
                            · have h := h.1 g
                              refine st_aload oX7_lookAtName_218 rfl ?_
                              obtain ⟨hK, b9, hP, h⟩ := h
                              refine st_getP oX7_lookAtName_219 hK hP ?_
                              refine st_iload oX7_lookAtName_222 rfl ?_
                              refine st_aload oX7_lookAtName_223 rfl ?_
                              obtain ⟨hK, b10, hP, h⟩ := h
                              refine st_getP oX7_lookAtName_224 hK hP ?_
                              obtain ⟨hK, b11, hP, h⟩ := h
                              refine st_getP oX7_lookAtName_227 hK hP ?_
                              refine st_aload oX7_lookAtName_230 rfl ?_
                              obtain ⟨hK, h⟩ := h
                              refine st_callV0_i [.ref l2] oX7_lookAtName_231 rfl rfl hK (ps8 rfl) (pCall_i.mono h (fun v7 M9 h => ?_))
                              obtain ⟨hK, h⟩ := h
                              refine st_callV0_v [.int l1, .int v7] oX7_lookAtName_234 rfl rfl hK (ps8 rfl) (pCall_v.mono h (fun M10 h => ?_))
                              refine st_const oX7_lookAtName_237 ?_
                              exact st_iret oX7_lookAtName_238 h
                            · have h := h.2 g
                              exact Go.wk (L := [some (.ref l0), none, some (.ref l2), some (.ref l3), none, none]) (And.intro (Or.inr rfl) (And.intro (Or.inl rfl) (And.intro (Or.inr rfl) (And.intro (Or.inr rfl) (And.intro (Or.inl rfl) (And.intro (Or.inl rfl) True.intro)))))) h
theorem bX7_lookAtName_197 {d : Nat} {Q : pR → pM → Prop} {c s : Nat} {M : pM} {l0 : Nat} {l1 : Int32} {l5 : Int32} (h : pK M l0 = (1, 7) ∧ ∃ b1 : Nat, pP M l0 1 = b1 + 1 ∧ pK M b1 = (1, 9) ∧ pCall_v d mX9_put (0, 0) [.ref b1, .int l1, .int l5] M (fun M1 => ((0 ≤ l5 → Q (.inl (some (.int 0))) M1) ∧ (¬ 0 ≤ l5 → Q (.inl (some (.int 3))) M1)))) : Go d mX7_lookAtName Q 197 ([some (.ref l0), some (.int l1), none, none, none, some (.int l5)], [], c, s) M := by
  refine st_aload oX7_lookAtName_197 rfl ?_
  obtain ⟨hK, b1, hP, h⟩ := h
  refine st_getP oX7_lookAtName_198 hK hP ?_
  refine st_iload oX7_lookAtName_201 rfl ?_
  refine st_iload oX7_lookAtName_202 rfl ?_
  obtain ⟨hK, h⟩ := h
  refine st_callV0_v [.int l1, .int l5] oX7_lookAtName_204 rfl rfl hK (ps8 rfl) (pCall_v.mono h (fun M1 h => ?_))
  refine st_iload oX7_lookAtName_207 rfl ?_
  refine st_if oX7_lookAtName_209 (fun g => ?_) (fun g => ?_)
  · have h := h.1 g
    refine st_const oX7_lookAtName_216 ?_
    exact st_iret oX7_lookAtName_217 h
  · have h := h.2 g
    refine st_const oX7_lookAtName_212 ?_
    refine st_goto oX7_lookAtName_213 ?_
    exact st_iret oX7_lookAtName_217 h
theorem bX7_lookAtName_239 {d : Nat} {Q : pR → pM → Prop} {c s : Nat} {M : pM} {l0 : Nat} {l2 : Nat} {l3 : Nat} (h : pK M l3 = (1, 0) ∧ ∃ b1 : Nat, pP M l3 4 = b1 + 1 ∧ pK M l0 = (1, 7) ∧ pCall_i d mX7_keyRow (0, 0) [.ref l0, .ref l2, .ref b1] M (fun v1 M1 => Q (.inl (some (.int v1))) M1)) : Go d mX7_lookAtName Q 239 ([some (.ref l0), none, some (.ref l2), some (.ref l3), none, none], [], c, s) M := by
  refine st_aload oX7_lookAtName_239 rfl ?_
  refine st_aload oX7_lookAtName_240 rfl ?_
  refine st_aload oX7_lookAtName_241 rfl ?_
  obtain ⟨hK, b1, hP, h⟩ := h
  refine st_getP oX7_lookAtName_242 hK hP ?_
  obtain ⟨hK, h⟩ := h
  refine st_callV0_i [.ref l2, .ref b1] oX7_lookAtName_245 rfl rfl hK (ps8 rfl) (pCall_i.mono h (fun v1 M1 h => ?_))
  exact st_iret oX7_lookAtName_248 h
theorem bX7_keyRow_0 {d : Nat} {Q : pR → pM → Prop} {c s : Nat} {M : pM} {l0 : Nat} {l1 : Nat} {l2 : Nat} (h : pK M l2 = (1, 4) ∧ pCall_i d mX4_rows (0, 0) [.ref l2] M (fun v1 M1 => ((v1 < 4 → pK M1 l2 = (1, 4) ∧ pCall_i d mX4_addRow (0, 0) [.ref l2, .ref l1] M1 (fun v2 M2 => ((v2 = 0 → Q (.inl (some (.int 6))) M2) ∧ (¬ v2 = 0 → Q (.inl (some (.int 0))) M2)))) ∧ (¬ v1 < 4 → Q (.inl (some (.int 4))) M1)))) : Go d mX7_keyRow Q 0 ([some (.ref l0), some (.ref l1), some (.ref l2)], [], c, s) M := by
  refine st_aload oX7_keyRow_0 rfl ?_
  obtain ⟨hK, h⟩ := h
  refine st_callV0_i [] oX7_keyRow_1 rfl rfl hK (ps8 rfl) (pCall_i.mono h (fun v1 M1 h => ?_))
  refine st_const oX7_keyRow_4 ?_
  refine st_icmp oX7_keyRow_5 (fun g => ?_) (fun g => ?_)
  · have h := h.1 g
    refine st_aload oX7_keyRow_10 rfl ?_
    refine st_aload oX7_keyRow_11 rfl ?_
    obtain ⟨hK, h⟩ := h
    refine st_callV0_i [.ref l1] oX7_keyRow_12 rfl rfl hK (ps8 rfl) (pCall_i.mono h (fun v2 M2 h => ?_))
    refine st_if oX7_keyRow_15 (fun g => ?_) (fun g => ?_)
    · have h := h.1 g
      refine st_const oX7_keyRow_22 ?_
      exact st_iret oX7_keyRow_24 h
    · have h := h.2 g
      refine st_const oX7_keyRow_18 ?_
      refine st_goto oX7_keyRow_19 ?_
      exact st_iret oX7_keyRow_24 h
  · have h := h.2 g
    refine st_const oX7_keyRow_8 ?_
    exact st_iret oX7_keyRow_9 h
