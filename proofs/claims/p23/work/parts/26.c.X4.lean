theorem bX4_init_0 {d : Nat} {Q : pR → pM → Prop} {c s : Nat} {M : pM} {l0 : Nat} (h : 1 ≤ c ∧ 2 ≤ s ∧ pN M < pBIG ∧ ∀ N1 : pM, N1 = (pnew M (1, 9)) → (∃ rs1 : Nat × Nat, rs1.1 ≤ (c - 1) ∧ rs1.2 ≤ (s - 2) ∧ pCall_v d mX9_init rs1 [.ref (pN M), .int 128] N1 (fun M1 => pK M1 l0 = (1, 4) ∧ ∀ N2 : pM, N2 = (psP M1 l0 0 ((pN M) + 1)) → (1 ≤ ((c - 1) - rs1.1) ∧ 2 ≤ ((s - 2) - rs1.2) ∧ pN N2 < pBIG ∧ ∀ N3 : pM, N3 = (pnew N2 (1, 9)) → (∃ rs2 : Nat × Nat, rs2.1 ≤ (((c - 1) - rs1.1) - 1) ∧ rs2.2 ≤ (((s - 2) - rs1.2) - 2) ∧ pCall_v d mX9_init rs2 [.ref (pN N2), .int 128] N3 (fun M2 => pK M2 l0 = (1, 4) ∧ ∀ N4 : pM, N4 = (psP M2 l0 1 ((pN N2) + 1)) → (pK N4 l0 = (1, 4) ∧ ∀ N5 : pM, N5 = (psI N4 l0 2 0) → (pK N5 l0 = (1, 4) ∧ pCall_v d mX4_clear (0, 0) [.ref l0] N5 (fun M3 => Q (.inl none) M3))))))))) : Go d mX4_init Q 0 ([some (.ref l0)], [], c, s) M := by
  refine st_aload oX4_init_0 rfl ?_
  refine st_objinit oX4_init_1 (ps8 rfl) ?_
  refine st_aload oX4_init_4 rfl ?_
  obtain ⟨h1, h2, h3, h⟩ := h
  refine st_new oX4_init_5 h1 h2 h3 ?_
  refine st_nm (fun N1 eN1 => ?_)
  have h := h N1 eN1
  refine st_dup oX4_init_8 rfl ?_
  refine st_const oX4_init_9 ?_
  obtain ⟨rs1, h1, h2, h⟩ := h
  refine st_callI_v [.int 128] oX4_init_12 rfl rfl (ps8 rfl) h1 h2 (pCall_v.mono h (fun M1 h => ?_))
  obtain ⟨hK, h⟩ := h
  refine st_putP oX4_init_15 hK ?_
  refine st_nm (fun N2 eN2 => ?_)
  have h := h N2 eN2
  refine st_aload oX4_init_18 rfl ?_
  obtain ⟨h1, h2, h3, h⟩ := h
  refine st_new oX4_init_19 h1 h2 h3 ?_
  refine st_nm (fun N3 eN3 => ?_)
  have h := h N3 eN3
  refine st_dup oX4_init_22 rfl ?_
  refine st_const oX4_init_23 ?_
  obtain ⟨rs2, h1, h2, h⟩ := h
  refine st_callI_v [.int 128] oX4_init_26 rfl rfl (ps8 rfl) h1 h2 (pCall_v.mono h (fun M2 h => ?_))
  obtain ⟨hK, h⟩ := h
  refine st_putP oX4_init_29 hK ?_
  refine st_nm (fun N4 eN4 => ?_)
  have h := h N4 eN4
  refine st_aload oX4_init_32 rfl ?_
  refine st_const oX4_init_33 ?_
  obtain ⟨hK, h⟩ := h
  refine st_putI oX4_init_34 hK ?_
  refine st_nm (fun N5 eN5 => ?_)
  have h := h N5 eN5
  refine st_aload oX4_init_37 rfl ?_
  obtain ⟨hK, h⟩ := h
  refine st_callV0_v [] oX4_init_38 rfl rfl hK (ps8 rfl) (pCall_v.mono h (fun M3 h => ?_))
  exact st_vret oX4_init_41 h
theorem bX4_clear_0 {d : Nat} {Q : pR → pM → Prop} {c s : Nat} {M : pM} {l0 : Nat} (h : pK M l0 = (1, 4) ∧ ∃ b1 : Nat, pP M l0 0 = b1 + 1 ∧ pK M b1 = (1, 9) ∧ pCall_v d mX9_fill (0, 0) [.ref b1, .int (-1)] M (fun M1 => pK M1 l0 = (1, 4) ∧ ∃ b2 : Nat, pP M1 l0 1 = b2 + 1 ∧ pK M1 b2 = (1, 9) ∧ pCall_v d mX9_fill (0, 0) [.ref b2, .int (-1)] M1 (fun M2 => pK M2 l0 = (1, 4) ∧ Q (.inl none) (psI M2 l0 2 0)))) : Go d mX4_clear Q 0 ([some (.ref l0)], [], c, s) M := by
  refine st_aload oX4_clear_0 rfl ?_
  obtain ⟨hK, b1, hP, h⟩ := h
  refine st_getP oX4_clear_1 hK hP ?_
  refine st_const oX4_clear_4 ?_
  obtain ⟨hK, h⟩ := h
  refine st_callV0_v [.int (-1)] oX4_clear_5 rfl rfl hK (ps8 rfl) (pCall_v.mono h (fun M1 h => ?_))
  refine st_aload oX4_clear_8 rfl ?_
  obtain ⟨hK, b2, hP, h⟩ := h
  refine st_getP oX4_clear_9 hK hP ?_
  refine st_const oX4_clear_12 ?_
  obtain ⟨hK, h⟩ := h
  refine st_callV0_v [.int (-1)] oX4_clear_13 rfl rfl hK (ps8 rfl) (pCall_v.mono h (fun M2 h => ?_))
  refine st_aload oX4_clear_16 rfl ?_
  refine st_const oX4_clear_17 ?_
  obtain ⟨hK, h⟩ := h
  refine st_putI oX4_clear_18 hK ?_
  exact st_vret oX4_clear_21 h
theorem bX4_rows_0 {d : Nat} {Q : pR → pM → Prop} {c s : Nat} {M : pM} {l0 : Nat} (h : pK M l0 = (1, 4) ∧ Q (.inl (some (.int (pI M l0 2)))) M) : Go d mX4_rows Q 0 ([some (.ref l0)], [], c, s) M := by
  refine st_aload oX4_rows_0 rfl ?_
  obtain ⟨hK, h⟩ := h
  refine st_getI oX4_rows_1 hK ?_
  exact st_iret oX4_rows_4 h
theorem bX4_addRow_0 {d : Nat} {Q : pR → pM → Prop} {c s : Nat} {M : pM} {l0 : Nat} {l1 : Nat} (h : Go d mX4_addRow Q 2 ([some (.ref l0), some (.ref l1), some (.int 0), none], [], c, s) M) : Go d mX4_addRow Q 0 ([some (.ref l0), some (.ref l1), none, none], [], c, s) M := by
  refine st_const oX4_addRow_0 ?_
  refine st_istore (L2 := [some (.ref l0), some (.ref l1), some (.int 0), none]) oX4_addRow_1 (by decide) rfl rfl ?_
  exact h
theorem bX4_addRow_2 {d : Nat} {Q : pR → pM → Prop} {c s : Nat} {M : pM} {l0 : Nat} {l1 : Nat} {l2 : Int32} (h : pK M l1 = (1, 9) ∧ pCall_i d mX9_size (0, 0) [.ref l1] M (fun v1 M1 => ((v1 ≤ l2 → pK M1 l0 = (1, 4) ∧ pK M1 l0 = (1, 4) ∧ Q (.inl (some (.int 1))) (psI M1 l0 2 ((pI M1 l0 2) + 1))) ∧ (¬ v1 ≤ l2 → pK M1 l1 = (1, 9) ∧ pCall_i d mX9_at (0, 0) [.ref l1, .int l2] M1 (fun v2 M2 => pK M2 l0 = (1, 4) ∧ ∃ b1 : Nat, pP M2 l0 0 = b1 + 1 ∧ pK M2 b1 = (1, 9) ∧ pCall_i d mX9_at (0, 0) [.ref b1, .int v2] M2 (fun v3 M3 => ((v3 < 0 → pK M3 l0 = (1, 4) ∧ ∃ b2 : Nat, pP M3 l0 0 = b2 + 1 ∧ pK M3 l0 = (1, 4) ∧ pK M3 b2 = (1, 9) ∧ pCall_v d mX9_put (0, 0) [.ref b2, .int v2, .int (pI M3 l0 2)] M3 (fun M4 => pK M4 l0 = (1, 4) ∧ ∃ b3 : Nat, pP M4 l0 1 = b3 + 1 ∧ pK M4 b3 = (1, 9) ∧ pCall_v d mX9_put (0, 0) [.ref b3, .int v2, .int l2] M4 (fun M5 => Go d mX4_addRow Q 2 ([some (.ref l0), some (.ref l1), some (.int (l2 + 1)), none], [], c, s) M5))) ∧ (¬ v3 < 0 → Q (.inl (some (.int 0))) M3)))))))) : Go d mX4_addRow Q 2 ([some (.ref l0), some (.ref l1), some (.int l2), none], [], c, s) M := by
  refine st_iload oX4_addRow_2 rfl ?_
  refine st_aload oX4_addRow_3 rfl ?_
  obtain ⟨hK, h⟩ := h
  refine st_callV0_i [] oX4_addRow_4 rfl rfl hK (ps8 rfl) (pCall_i.mono h (fun v1 M1 h => ?_))
  refine st_icmp oX4_addRow_7 (fun g => ?_) (fun g => ?_)
  · have h := h.1 g
    refine st_aload oX4_addRow_56 rfl ?_
    refine st_dup oX4_addRow_57 rfl ?_
    obtain ⟨hK, h⟩ := h
    refine st_getI oX4_addRow_58 hK ?_
    refine st_const oX4_addRow_61 ?_
    refine st_ibin oX4_addRow_62 ?_
    obtain ⟨hK, h⟩ := h
    refine st_putI oX4_addRow_63 hK ?_
    refine st_const oX4_addRow_66 ?_
    exact st_zret oX4_addRow_67 (Or.inr rfl) h
  · have h := h.2 g
    refine st_aload oX4_addRow_10 rfl ?_
    refine st_iload oX4_addRow_11 rfl ?_
    obtain ⟨hK, h⟩ := h
    refine st_callV0_i [.int l2] oX4_addRow_12 rfl rfl hK (ps8 rfl) (pCall_i.mono h (fun v2 M2 h => ?_))
    refine st_istore (L2 := [some (.ref l0), some (.ref l1), some (.int l2), some (.int v2)]) oX4_addRow_15 (by decide) rfl rfl ?_
    refine st_aload oX4_addRow_16 rfl ?_
    obtain ⟨hK, b1, hP, h⟩ := h
    refine st_getP oX4_addRow_17 hK hP ?_
    refine st_iload oX4_addRow_20 rfl ?_
    obtain ⟨hK, h⟩ := h
    refine st_callV0_i [.int v2] oX4_addRow_21 rfl rfl hK (ps8 rfl) (pCall_i.mono h (fun v3 M3 h => ?_))
    refine st_if oX4_addRow_24 (fun g => ?_) (fun g => ?_)
    · have h := h.1 g
      refine st_aload oX4_addRow_29 rfl ?_
      obtain ⟨hK, b2, hP, h⟩ := h
      refine st_getP oX4_addRow_30 hK hP ?_
      refine st_iload oX4_addRow_33 rfl ?_
      refine st_aload oX4_addRow_34 rfl ?_
      obtain ⟨hK, h⟩ := h
      refine st_getI oX4_addRow_35 hK ?_
      obtain ⟨hK, h⟩ := h
      refine st_callV0_v [.int v2, .int (pI M3 l0 2)] oX4_addRow_38 rfl rfl hK (ps8 rfl) (pCall_v.mono h (fun M4 h => ?_))
      refine st_aload oX4_addRow_41 rfl ?_
      obtain ⟨hK, b3, hP, h⟩ := h
      refine st_getP oX4_addRow_42 hK hP ?_
      refine st_iload oX4_addRow_45 rfl ?_
      refine st_iload oX4_addRow_46 rfl ?_
      obtain ⟨hK, h⟩ := h
      refine st_callV0_v [.int v2, .int l2] oX4_addRow_47 rfl rfl hK (ps8 rfl) (pCall_v.mono h (fun M5 h => ?_))
      refine st_iinc (L2 := [some (.ref l0), some (.ref l1), some (.int (l2 + 1)), some (.int v2)]) oX4_addRow_50 rfl (by decide) rfl rfl ?_
      refine st_goto oX4_addRow_53 ?_
      exact Go.wk (L := [some (.ref l0), some (.ref l1), some (.int (l2 + 1)), none]) (And.intro (Or.inr rfl) (And.intro (Or.inr rfl) (And.intro (Or.inr rfl) (And.intro (Or.inl rfl) True.intro)))) h
    · have h := h.2 g
      refine st_const oX4_addRow_27 ?_
      exact st_zret oX4_addRow_28 (Or.inl rfl) h
theorem bX4_areNeighbours_0 {d : Nat} {Q : pR → pM → Prop} {c s : Nat} {M : pM} {l0 : Nat} {l1 : Int32} {l2 : Int32} (h : pK M l0 = (1, 4) ∧ ∃ b1 : Nat, pP M l0 0 = b1 + 1 ∧ pK M b1 = (1, 9) ∧ pCall_i d mX9_at (0, 0) [.ref b1, .int l1] M (fun v1 M1 => pK M1 l0 = (1, 4) ∧ ∃ b2 : Nat, pP M1 l0 0 = b2 + 1 ∧ pK M1 b2 = (1, 9) ∧ pCall_i d mX9_at (0, 0) [.ref b2, .int l2] M1 (fun v2 M2 => ((v1 < 0 → Q (.inl (some (.int 0))) M2) ∧ (¬ v1 < 0 → ((0 ≤ v2 → pK M2 l0 = (1, 4) ∧ ∃ b3 : Nat, pP M2 l0 1 = b3 + 1 ∧ pK M2 b3 = (1, 9) ∧ pCall_i d mX9_at (0, 0) [.ref b3, .int l2] M2 (fun v3 M3 => pK M3 l0 = (1, 4) ∧ ∃ b4 : Nat, pP M3 l0 1 = b4 + 1 ∧ pK M3 b4 = (1, 9) ∧ pCall_i d mX9_at (0, 0) [.ref b4, .int l1] M3 (fun v4 M4 => ((v1 = v2 → (((v3 - v4) = 1 → Q (.inl (some (.int 1))) M4) ∧ (¬ (v3 - v4) = 1 → (((v3 - v4) = (-1) → Q (.inl (some (.int 1))) M4) ∧ (¬ (v3 - v4) = (-1) → Q (.inl (some (.int 0))) M4))))) ∧ (¬ v1 = v2 → ((v1 = (v2 + 1) → (((v3 - v4) = 0 → Q (.inl (some (.int 1))) M4) ∧ (¬ (v3 - v4) = 0 → (((v3 - v4) = 1 → Q (.inl (some (.int 1))) M4) ∧ (¬ (v3 - v4) = 1 → Q (.inl (some (.int 0))) M4))))) ∧ (¬ v1 = (v2 + 1) → ((v2 = (v1 + 1) → (((v3 - v4) = 0 → Q (.inl (some (.int 1))) M4) ∧ (¬ (v3 - v4) = 0 → (((v3 - v4) = (-1) → Q (.inl (some (.int 1))) M4) ∧ (¬ (v3 - v4) = (-1) → Q (.inl (some (.int 0))) M4))))) ∧ (¬ v2 = (v1 + 1) → Q (.inl (some (.int 0))) M4))))))))) ∧ (¬ 0 ≤ v2 → Q (.inl (some (.int 0))) M2))))))) : Go d mX4_areNeighbours Q 0 ([some (.ref l0), some (.int l1), some (.int l2), none, none, none], [], c, s) M := by
  refine st_aload oX4_areNeighbours_0 rfl ?_
  obtain ⟨hK, b1, hP, h⟩ := h
  refine st_getP oX4_areNeighbours_1 hK hP ?_
  refine st_iload oX4_areNeighbours_4 rfl ?_
  obtain ⟨hK, h⟩ := h
  refine st_callV0_i [.int l1] oX4_areNeighbours_5 rfl rfl hK (ps8 rfl) (pCall_i.mono h (fun v1 M1 h => ?_))
  refine st_istore (L2 := [some (.ref l0), some (.int l1), some (.int l2), some (.int v1), none, none]) oX4_areNeighbours_8 (by decide) rfl rfl ?_
  refine st_aload oX4_areNeighbours_9 rfl ?_
  obtain ⟨hK, b2, hP, h⟩ := h
  refine st_getP oX4_areNeighbours_10 hK hP ?_
  refine st_iload oX4_areNeighbours_13 rfl ?_
  obtain ⟨hK, h⟩ := h
  refine st_callV0_i [.int l2] oX4_areNeighbours_14 rfl rfl hK (ps8 rfl) (pCall_i.mono h (fun v2 M2 h => ?_))
  refine st_istore (L2 := [some (.ref l0), some (.int l1), some (.int l2), some (.int v1), some (.int v2), none]) oX4_areNeighbours_17 (by decide) rfl rfl ?_
  refine st_iload oX4_areNeighbours_19 rfl ?_
  refine st_if oX4_areNeighbours_20 (fun g => ?_) (fun g => ?_)
  · have h := h.1 g
    refine st_const oX4_areNeighbours_28 ?_
    exact st_zret oX4_areNeighbours_29 (Or.inl rfl) h
  · have h := h.2 g
    refine st_iload oX4_areNeighbours_23 rfl ?_
    refine st_if oX4_areNeighbours_25 (fun g => ?_) (fun g => ?_)
    · have h := h.1 g
      refine st_aload oX4_areNeighbours_30 rfl ?_
      obtain ⟨hK, b3, hP, h⟩ := h
      refine st_getP oX4_areNeighbours_31 hK hP ?_
      refine st_iload oX4_areNeighbours_34 rfl ?_
      obtain ⟨hK, h⟩ := h
      refine st_callV0_i [.int l2] oX4_areNeighbours_35 rfl rfl hK (ps8 rfl) (pCall_i.mono h (fun v3 M3 h => ?_))
      refine st_aload oX4_areNeighbours_38 rfl ?_
      obtain ⟨hK, b4, hP, h⟩ := h
      refine st_getP oX4_areNeighbours_39 hK hP ?_
      refine st_iload oX4_areNeighbours_42 rfl ?_
      obtain ⟨hK, h⟩ := h
      refine st_callV0_i [.int l1] oX4_areNeighbours_43 rfl rfl hK (ps8 rfl) (pCall_i.mono h (fun v4 M4 h => ?_))
      refine st_ibin oX4_areNeighbours_46 ?_
      refine st_istore (L2 := [some (.ref l0), some (.int l1), some (.int l2), some (.int v1), some (.int v2), some (.int (v3 - v4))]) oX4_areNeighbours_47 (by decide) rfl rfl ?_
      refine st_iload oX4_areNeighbours_49 rfl ?_
      refine st_iload oX4_areNeighbours_50 rfl ?_
      refine st_icmp oX4_areNeighbours_52 (fun g => ?_) (fun g => ?_)
      · have h := h.1 g
        refine st_iload oX4_areNeighbours_55 rfl ?_
        refine st_const oX4_areNeighbours_57 ?_
        refine st_icmp oX4_areNeighbours_58 (fun g => ?_) (fun g => ?_)
        · have h := h.1 g
          refine st_const oX4_areNeighbours_67 ?_
          refine st_goto oX4_areNeighbours_68 ?_
          exact st_zret oX4_areNeighbours_72 (Or.inr rfl) h
        · have h := h.2 g
          refine st_iload oX4_areNeighbours_61 rfl ?_
          refine st_const oX4_areNeighbours_63 ?_
          refine st_icmp oX4_areNeighbours_64 (fun g => ?_) (fun g => ?_)
          · have h := h.1 g
            refine st_const oX4_areNeighbours_67 ?_
            refine st_goto oX4_areNeighbours_68 ?_
            exact st_zret oX4_areNeighbours_72 (Or.inr rfl) h
          · have h := h.2 g
            refine st_const oX4_areNeighbours_71 ?_
            exact st_zret oX4_areNeighbours_72 (Or.inl rfl) h
      · have h := h.2 g
        refine st_iload oX4_areNeighbours_73 rfl ?_
        refine st_iload oX4_areNeighbours_74 rfl ?_
        refine st_const oX4_areNeighbours_76 ?_
        refine st_ibin oX4_areNeighbours_77 ?_
        refine st_icmp oX4_areNeighbours_78 (fun g => ?_) (fun g => ?_)
        · have h := h.1 g
          refine st_iload oX4_areNeighbours_81 rfl ?_
          refine st_if oX4_areNeighbours_83 (fun g => ?_) (fun g => ?_)
          · have h := h.1 g
            refine st_const oX4_areNeighbours_92 ?_
            refine st_goto oX4_areNeighbours_93 ?_
            exact st_zret oX4_areNeighbours_97 (Or.inr rfl) h
          · have h := h.2 g
            refine st_iload oX4_areNeighbours_86 rfl ?_
            refine st_const oX4_areNeighbours_88 ?_
            refine st_icmp oX4_areNeighbours_89 (fun g => ?_) (fun g => ?_)
            · have h := h.1 g
              refine st_const oX4_areNeighbours_92 ?_
              refine st_goto oX4_areNeighbours_93 ?_
              exact st_zret oX4_areNeighbours_97 (Or.inr rfl) h
            · have h := h.2 g
              refine st_const oX4_areNeighbours_96 ?_
              exact st_zret oX4_areNeighbours_97 (Or.inl rfl) h
        · have h := h.2 g
          refine st_iload oX4_areNeighbours_98 rfl ?_
          refine st_iload oX4_areNeighbours_100 rfl ?_
          refine st_const oX4_areNeighbours_101 ?_
          refine st_ibin oX4_areNeighbours_102 ?_
          refine st_icmp oX4_areNeighbours_103 (fun g => ?_) (fun g => ?_)
          · have h := h.1 g
            refine st_iload oX4_areNeighbours_106 rfl ?_
            refine st_if oX4_areNeighbours_108 (fun g => ?_) (fun g => ?_)
            · have h := h.1 g
              refine st_const oX4_areNeighbours_117 ?_
              refine st_goto oX4_areNeighbours_118 ?_
              exact st_zret oX4_areNeighbours_122 (Or.inr rfl) h
            · have h := h.2 g
              refine st_iload oX4_areNeighbours_111 rfl ?_
              refine st_const oX4_areNeighbours_113 ?_
              refine st_icmp oX4_areNeighbours_114 (fun g => ?_) (fun g => ?_)
              · have h := h.1 g
                refine st_const oX4_areNeighbours_117 ?_
                refine st_goto oX4_areNeighbours_118 ?_
                exact st_zret oX4_areNeighbours_122 (Or.inr rfl) h
              · have h := h.2 g
                refine st_const oX4_areNeighbours_121 ?_
                exact st_zret oX4_areNeighbours_122 (Or.inl rfl) h
          · have h := h.2 g
            refine st_const oX4_areNeighbours_121 ?_
            exact st_zret oX4_areNeighbours_122 (Or.inl rfl) h
    · have h := h.2 g
      refine st_const oX4_areNeighbours_28 ?_
      exact st_zret oX4_areNeighbours_29 (Or.inl rfl) h
