theorem bX2_init_0 {d : Nat} {Q : pR → pM → Prop} {c s : Nat} {M : pM} {l0 : Nat} {l1 : Nat} {l2 : Nat} {l3 : Nat} (h : pK M l0 = (1, 2) ∧ ∀ N1 : pM, N1 = (psI M l0 4 0) → (pK N1 l0 = (1, 2) ∧ ∀ N2 : pM, N2 = (psP N1 l0 0 (l1 + 1)) → (pK N2 l1 = (1, 10) ∧ ∃ b1 : Nat, pP N2 l1 1 = b1 + 1 ∧ pK N2 l0 = (1, 2) ∧ ∀ N3 : pM, N3 = (psP N2 l0 1 (b1 + 1)) → (pK N3 l0 = (1, 2) ∧ ∀ N4 : pM, N4 = (psP N3 l0 2 (l2 + 1)) → (pK N4 l0 = (1, 2) ∧ ∀ N5 : pM, N5 = (psP N4 l0 3 (l3 + 1)) → (Q (.inl none) N5)))))) : Go d mX2_init Q 0 ([some (.ref l0), some (.ref l1), some (.ref l2), some (.ref l3)], [], c, s) M := by
  refine st_aload oX2_init_0 rfl ?_
  refine st_objinit oX2_init_1 (ps8 rfl) ?_
  refine st_aload oX2_init_4 rfl ?_
  refine st_const oX2_init_5 ?_
  obtain ⟨hK, h⟩ := h
  refine st_putI oX2_init_6 hK ?_
  refine st_nm (fun N1 eN1 => ?_)
  have h := h N1 eN1
  refine st_aload oX2_init_9 rfl ?_
  refine st_aload oX2_init_10 rfl ?_
  obtain ⟨hK, h⟩ := h
  refine st_putP oX2_init_11 hK ?_
  refine st_nm (fun N2 eN2 => ?_)
  have h := h N2 eN2
  refine st_aload oX2_init_14 rfl ?_
  refine st_aload oX2_init_15 rfl ?_
  obtain ⟨hK, b1, hP, h⟩ := h
  refine st_getP oX2_init_16 hK hP ?_
  obtain ⟨hK, h⟩ := h
  refine st_putP oX2_init_19 hK ?_
  refine st_nm (fun N3 eN3 => ?_)
  have h := h N3 eN3
  refine st_aload oX2_init_22 rfl ?_
  refine st_aload oX2_init_23 rfl ?_
  obtain ⟨hK, h⟩ := h
  refine st_putP oX2_init_24 hK ?_
  refine st_nm (fun N4 eN4 => ?_)
  have h := h N4 eN4
  refine st_aload oX2_init_27 rfl ?_
  refine st_aload oX2_init_28 rfl ?_
  obtain ⟨hK, h⟩ := h
  refine st_putP oX2_init_29 hK ?_
  refine st_nm (fun N5 eN5 => ?_)
  have h := h N5 eN5
  exact st_vret oX2_init_32 h
theorem bX2_read_0 {d : Nat} {Q : pR → pM → Prop} {c s : Nat} {M : pM} {l0 : Nat} (h : Go d mX2_read Q 4 ([some (.ref l0), some (.int 1), some (.int 0)], [], c, s) M) : Go d mX2_read Q 0 ([some (.ref l0), none, none], [], c, s) M := by
  refine st_const oX2_read_0 ?_
  refine st_istore (L2 := [some (.ref l0), some (.int 1), none]) oX2_read_1 (by decide) rfl rfl ?_
  refine st_const oX2_read_2 ?_
  refine st_istore (L2 := [some (.ref l0), some (.int 1), some (.int 0)]) oX2_read_3 (by decide) rfl rfl ?_
  exact h
theorem bX2_read_4 {d : Nat} {Q : pR → pM → Prop} {c s : Nat} {M : pM} {l0 : Nat} {l1 : Int32} {l2 : Int32} (h : ((400 ≤ l2 → Go d mX2_read Q 140 ([some (.ref l0), some (.int l1), none], [], c, s) M) ∧ (¬ 400 ≤ l2 → ((l1 = 0 → Go d mX2_read Q 140 ([some (.ref l0), some (.int l1), none], [], c, s) M) ∧ (¬ l1 = 0 → pK M l0 = (1, 2) ∧ pCall_i d mX2_is (0, 0) [.ref l0, .int 24] M (fun v1 M1 => ((v1 = 0 → pK M1 l0 = (1, 2) ∧ ∃ b1 : Nat, pP M1 l0 1 = b1 + 1 ∧ pK M1 l0 = (1, 2) ∧ pK M1 b1 = (1, 9) ∧ pCall_i d mX9_at (0, 0) [.ref b1, .int (pI M1 l0 4)] M1 (fun v2 M2 => ((v2 = 0 → pK M2 l0 = (1, 2) ∧ pCall_i d mX2_skip (0, 0) [.ref l0, .int 0] M2 (fun v3 M3 => ((v3 = 0 → Go d mX2_read Q 89 ([some (.ref l0), none, some (.int l2)], [], c, s) M3) ∧ (¬ v3 = 0 → pK M3 l0 = (1, 2) ∧ pCall_i d mX2_skip (0, 0) [.ref l0, .int 20] M3 (fun v4 M4 => ((v4 = 0 → Go d mX2_read Q 89 ([some (.ref l0), none, some (.int l2)], [], c, s) M4) ∧ (¬ v4 = 0 → Go d mX2_read Q 115 ([some (.ref l0), some (.int 1), some (.int l2)], [], c, s) M4))))))) ∧ (¬ v2 = 0 → ((v2 = 1 → pK M2 l0 = (1, 2) ∧ pCall_i d mX2_wordLine (0, 0) [.ref l0] M2 (fun v5 M5 => Go d mX2_read Q 115 ([some (.ref l0), some (.int v5), some (.int l2)], [], c, s) M5)) ∧ (¬ v2 = 1 → ((v2 = 2 → Go d mX2_read Q 110 ([some (.ref l0), none, some (.int l2)], [], c, s) M2) ∧ (¬ v2 = 2 → ((v2 = 3 → Go d mX2_read Q 110 ([some (.ref l0), none, some (.int l2)], [], c, s) M2) ∧ (¬ v2 = 3 → ((v2 = 4 → pK M2 l0 = (1, 2) ∧ pCall_i d mX2_keyRows (0, 0) [.ref l0] M2 (fun v6 M6 => Go d mX2_read Q 115 ([some (.ref l0), some (.int v6), some (.int l2)], [], c, s) M6)) ∧ (¬ v2 = 4 → Go d mX2_read Q 110 ([some (.ref l0), none, some (.int l2)], [], c, s) M2)))))))))))) ∧ (¬ v1 = 0 → Go d mX2_read Q 140 ([some (.ref l0), some (.int l1), none], [], c, s) M1)))))))) : Go d mX2_read Q 4 ([some (.ref l0), some (.int l1), some (.int l2)], [], c, s) M := by
  refine st_iload oX2_read_4 rfl ?_
  refine st_const oX2_read_5 ?_
  refine st_icmp oX2_read_8 (fun g => ?_) (fun g => ?_)
  · have h := h.1 g
    exact Go.wk (L := [some (.ref l0), some (.int l1), none]) (And.intro (Or.inr rfl) (And.intro (Or.inr rfl) (And.intro (Or.inl rfl) True.intro))) h
  · have h := h.2 g
    refine st_iload oX2_read_11 rfl ?_
    refine st_if oX2_read_12 (fun g => ?_) (fun g => ?_)
    · have h := h.1 g
      exact Go.wk (L := [some (.ref l0), some (.int l1), none]) (And.intro (Or.inr rfl) (And.intro (Or.inr rfl) (And.intro (Or.inl rfl) True.intro))) h
    · have h := h.2 g
      refine st_aload oX2_read_15 rfl ?_
      refine st_const oX2_read_16 ?_
      obtain ⟨hK, h⟩ := h
      refine st_callV0_i [.int 24] oX2_read_18 rfl rfl hK (ps8 rfl) (pCall_i.mono h (fun v1 M1 h => ?_))
      refine st_if oX2_read_21 (fun g => ?_) (fun g => ?_)
      · have h := h.1 g
        refine st_aload oX2_read_24 rfl ?_
        obtain ⟨hK, b1, hP, h⟩ := h
        refine st_getP oX2_read_25 hK hP ?_
        refine st_aload oX2_read_28 rfl ?_
        obtain ⟨hK, h⟩ := h
        refine st_getI oX2_read_29 hK ?_
        obtain ⟨hK, h⟩ := h
        refine st_callV0_i [.int (pI M1 l0 4)] oX2_read_32 rfl rfl hK (ps8 rfl) (pCall_i.mono h (fun v2 M2 h => ?_))
        refine st_sw oX2_read_35 ?_
        refine And.intro (fun g => ?_) (fun g => ?_)
        · have h := h.1 g
          refine st_aload oX2_read_68 rfl ?_
          refine st_const oX2_read_69 ?_
          obtain ⟨hK, h⟩ := h
          refine st_callV0_i [.int 0] oX2_read_70 rfl rfl hK (ps8 rfl) (pCall_i.mono h (fun v3 M3 h => ?_))
          refine st_if oX2_read_73 (fun g => ?_) (fun g => ?_)
          · have h := h.1 g
            exact Go.wk (L := [some (.ref l0), none, some (.int l2)]) (And.intro (Or.inr rfl) (And.intro (Or.inl rfl) (And.intro (Or.inr rfl) True.intro))) h
          · have h := h.2 g
            refine st_aload oX2_read_76 rfl ?_
            refine st_const oX2_read_77 ?_
            obtain ⟨hK, h⟩ := h
            refine st_callV0_i [.int 20] oX2_read_79 rfl rfl hK (ps8 rfl) (pCall_i.mono h (fun v4 M4 h => ?_))
            refine st_if oX2_read_82 (fun g => ?_) (fun g => ?_)
            · have h := h.1 g
              exact Go.wk (L := [some (.ref l0), none, some (.int l2)]) (And.intro (Or.inr rfl) (And.intro (Or.inl rfl) (And.intro (Or.inr rfl) True.intro))) h
            · have h := h.2 g
              refine st_const oX2_read_85 ?_
              refine st_goto oX2_read_86 ?_
              refine st_istore (L2 := [some (.ref l0), some (.int 1), some (.int l2)]) oX2_read_90 (by decide) rfl rfl ?_
              refine st_goto oX2_read_91 ?_
              exact h
        · have h := h.2 g
          refine And.intro (fun g => ?_) (fun g => ?_)
          · have h := h.1 g
            refine st_aload oX2_read_94 rfl ?_
            obtain ⟨hK, h⟩ := h
            refine st_callV0_i [] oX2_read_95 rfl rfl hK (ps8 rfl) (pCall_i.mono h (fun v5 M5 h => ?_))
            refine st_istore (L2 := [some (.ref l0), some (.int v5), some (.int l2)]) oX2_read_98 (by decide) rfl rfl ?_
            refine st_goto oX2_read_99 ?_
            exact h
          · have h := h.2 g
            refine And.intro (fun g => ?_) (fun g => ?_)
            · have h := h.1 g
              exact Go.wk (L := [some (.ref l0), none, some (.int l2)]) (And.intro (Or.inr rfl) (And.intro (Or.inl rfl) (And.intro (Or.inr rfl) True.intro))) h
            · have h := h.2 g
              refine And.intro (fun g => ?_) (fun g => ?_)
              · have h := h.1 g
                exact Go.wk (L := [some (.ref l0), none, some (.int l2)]) (And.intro (Or.inr rfl) (And.intro (Or.inl rfl) (And.intro (Or.inr rfl) True.intro))) h
              · have h := h.2 g
                refine And.intro (fun g => ?_) (fun g => ?_)
                · have h := h.1 g
                  refine st_aload oX2_read_102 rfl ?_
                  obtain ⟨hK, h⟩ := h
                  refine st_callV0_i [] oX2_read_103 rfl rfl hK (ps8 rfl) (pCall_i.mono h (fun v6 M6 h => ?_))
                  refine st_istore (L2 := [some (.ref l0), some (.int v6), some (.int l2)]) oX2_read_106 (by decide) rfl rfl ?_
                  refine st_goto oX2_read_107 ?_
                  exact h
                · have h := h.2 g
                  exact Go.wk (L := [some (.ref l0), none, some (.int l2)]) (And.intro (Or.inr rfl) (And.intro (Or.inl rfl) (And.intro (Or.inr rfl) True.intro))) h
      · have h := h.2 g
        exact Go.wk (L := [some (.ref l0), some (.int l1), none]) (And.intro (Or.inr rfl) (And.intro (Or.inr rfl) (And.intro (Or.inl rfl) True.intro))) h
theorem bX2_read_89 {d : Nat} {Q : pR → pM → Prop} {c s : Nat} {M : pM} {l0 : Nat} {l2 : Int32} (h : Go d mX2_read Q 115 ([some (.ref l0), some (.int 0), some (.int l2)], [], c, s) M) : Go d mX2_read Q 89 ([some (.ref l0), none, some (.int l2)], [], c, s) M := by
  refine st_const oX2_read_89 ?_
  refine st_istore (L2 := [some (.ref l0), some (.int 0), some (.int l2)]) oX2_read_90 (by decide) rfl rfl ?_
  refine st_goto oX2_read_91 ?_
  exact h
theorem bX2_read_110 {d : Nat} {Q : pR → pM → Prop} {c s : Nat} {M : pM} {l0 : Nat} {l2 : Int32} (h : pK M l0 = (1, 2) ∧ pCall_i d mX2_boost (0, 0) [.ref l0] M (fun v1 M1 => Go d mX2_read Q 115 ([some (.ref l0), some (.int v1), some (.int l2)], [], c, s) M1)) : Go d mX2_read Q 110 ([some (.ref l0), none, some (.int l2)], [], c, s) M := by
  refine st_aload oX2_read_110 rfl ?_
  obtain ⟨hK, h⟩ := h
  refine st_callV0_i [] oX2_read_111 rfl rfl hK (ps8 rfl) (pCall_i.mono h (fun v1 M1 h => ?_))
  refine st_istore (L2 := [some (.ref l0), some (.int v1), some (.int l2)]) oX2_read_114 (by decide) rfl rfl ?_
  exact h
theorem bX2_read_115 {d : Nat} {Q : pR → pM → Prop} {c s : Nat} {M : pM} {l0 : Nat} {l1 : Int32} {l2 : Int32} (h : ((l1 = 0 → Go d mX2_read Q 132 ([some (.ref l0), none, some (.int l2)], [], c, s) M) ∧ (¬ l1 = 0 → pK M l0 = (1, 2) ∧ pCall_i d mX2_skip (0, 0) [.ref l0, .int 59] M (fun v1 M1 => ((v1 = 0 → Go d mX2_read Q 132 ([some (.ref l0), none, some (.int l2)], [], c, s) M1) ∧ (¬ v1 = 0 → Go d mX2_read Q 4 ([some (.ref l0), some (.int 1), some (.int (l2 + 1))], [], c, s) M1)))))) : Go d mX2_read Q 115 ([some (.ref l0), some (.int l1), some (.int l2)], [], c, s) M := by
  refine st_iload oX2_read_115 rfl ?_
  refine st_if oX2_read_116 (fun g => ?_) (fun g => ?_)
  · have h := h.1 g
    exact Go.wk (L := [some (.ref l0), none, some (.int l2)]) (And.intro (Or.inr rfl) (And.intro (Or.inl rfl) (And.intro (Or.inr rfl) True.intro))) h
  · have h := h.2 g
    refine st_aload oX2_read_119 rfl ?_
    refine st_const oX2_read_120 ?_
    obtain ⟨hK, h⟩ := h
    refine st_callV0_i [.int 59] oX2_read_122 rfl rfl hK (ps8 rfl) (pCall_i.mono h (fun v1 M1 h => ?_))
    refine st_if oX2_read_125 (fun g => ?_) (fun g => ?_)
    · have h := h.1 g
      exact Go.wk (L := [some (.ref l0), none, some (.int l2)]) (And.intro (Or.inr rfl) (And.intro (Or.inl rfl) (And.intro (Or.inr rfl) True.intro))) h
    · have h := h.2 g
      refine st_const oX2_read_128 ?_
      refine st_goto oX2_read_129 ?_
      refine st_istore (L2 := [some (.ref l0), some (.int 1), some (.int l2)]) oX2_read_133 (by decide) rfl rfl ?_
      refine st_iinc (L2 := [some (.ref l0), some (.int 1), some (.int (l2 + 1))]) oX2_read_134 rfl (by decide) rfl rfl ?_
      refine st_goto oX2_read_137 ?_
      exact h
theorem bX2_read_132 {d : Nat} {Q : pR → pM → Prop} {c s : Nat} {M : pM} {l0 : Nat} {l2 : Int32} (h : Go d mX2_read Q 4 ([some (.ref l0), some (.int 0), some (.int (l2 + 1))], [], c, s) M) : Go d mX2_read Q 132 ([some (.ref l0), none, some (.int l2)], [], c, s) M := by
  refine st_const oX2_read_132 ?_
  refine st_istore (L2 := [some (.ref l0), some (.int 0), some (.int l2)]) oX2_read_133 (by decide) rfl rfl ?_
  refine st_iinc (L2 := [some (.ref l0), some (.int 0), some (.int (l2 + 1))]) oX2_read_134 rfl (by decide) rfl rfl ?_
  refine st_goto oX2_read_137 ?_
  exact h
theorem bX2_read_140 {d : Nat} {Q : pR → pM → Prop} {c s : Nat} {M : pM} {l0 : Nat} {l1 : Int32} (h : ((l1 = 0 → pK M l0 = (1, 2) ∧ ∃ b1 : Nat, pP M l0 0 = b1 + 1 ∧ pK M l0 = (1, 2) ∧ pK M b1 = (1, 10) ∧ pCall_i d mX10_start (0, 0) [.ref b1, .int (pI M l0 4)] M (fun v1 M1 => Q (.inl (some (.int v1))) M1)) ∧ (¬ l1 = 0 → Q (.inl (some (.int (-1)))) M))) : Go d mX2_read Q 140 ([some (.ref l0), some (.int l1), none], [], c, s) M := by
  refine st_iload oX2_read_140 rfl ?_
  refine st_if oX2_read_141 (fun g => ?_) (fun g => ?_)
  · have h := h.1 g
    refine st_aload oX2_read_148 rfl ?_
    obtain ⟨hK, b1, hP, h⟩ := h
    refine st_getP oX2_read_149 hK hP ?_
    refine st_aload oX2_read_152 rfl ?_
    obtain ⟨hK, h⟩ := h
    refine st_getI oX2_read_153 hK ?_
    obtain ⟨hK, h⟩ := h
    refine st_callV0_i [.int (pI M l0 4)] oX2_read_156 rfl rfl hK (ps8 rfl) (pCall_i.mono h (fun v1 M1 h => ?_))
    exact st_iret oX2_read_159 h
  · have h := h.2 g
    refine st_const oX2_read_144 ?_
    refine st_goto oX2_read_145 ?_
    exact st_iret oX2_read_159 h
theorem bX2_is_0 {d : Nat} {Q : pR → pM → Prop} {c s : Nat} {M : pM} {l0 : Nat} {l1 : Int32} (h : pK M l0 = (1, 2) ∧ ∃ b1 : Nat, pP M l0 1 = b1 + 1 ∧ pK M l0 = (1, 2) ∧ pK M b1 = (1, 9) ∧ pCall_i d mX9_at (0, 0) [.ref b1, .int (pI M l0 4)] M (fun v1 M1 => ((v1 = l1 → Q (.inl (some (.int 1))) M1) ∧ (¬ v1 = l1 → Q (.inl (some (.int 0))) M1)))) : Go d mX2_is Q 0 ([some (.ref l0), some (.int l1)], [], c, s) M := by
  refine st_aload oX2_is_0 rfl ?_
  obtain ⟨hK, b1, hP, h⟩ := h
  refine st_getP oX2_is_1 hK hP ?_
  refine st_aload oX2_is_4 rfl ?_
  obtain ⟨hK, h⟩ := h
  refine st_getI oX2_is_5 hK ?_
  obtain ⟨hK, h⟩ := h
  refine st_callV0_i [.int (pI M l0 4)] oX2_is_8 rfl rfl hK (ps8 rfl) (pCall_i.mono h (fun v1 M1 h => ?_))
  refine st_iload oX2_is_11 rfl ?_
  refine st_icmp oX2_is_12 (fun g => ?_) (fun g => ?_)
  · have h := h.1 g
    refine st_const oX2_is_15 ?_
    refine st_goto oX2_is_16 ?_
    exact st_zret oX2_is_20 (Or.inr rfl) h
  · have h := h.2 g
    refine st_const oX2_is_19 ?_
    exact st_zret oX2_is_20 (Or.inl rfl) h
theorem bX2_skip_0 {d : Nat} {Q : pR → pM → Prop} {c s : Nat} {M : pM} {l0 : Nat} {l1 : Int32} (h : pK M l0 = (1, 2) ∧ ∃ b1 : Nat, pP M l0 1 = b1 + 1 ∧ pK M l0 = (1, 2) ∧ pK M b1 = (1, 9) ∧ pCall_i d mX9_at (0, 0) [.ref b1, .int (pI M l0 4)] M (fun v1 M1 => ((v1 = l1 → pK M1 l0 = (1, 2) ∧ pK M1 l0 = (1, 2) ∧ Q (.inl (some (.int 1))) (psI M1 l0 4 ((pI M1 l0 4) + 1))) ∧ (¬ v1 = l1 → Q (.inl (some (.int 0))) M1)))) : Go d mX2_skip Q 0 ([some (.ref l0), some (.int l1)], [], c, s) M := by
  refine st_aload oX2_skip_0 rfl ?_
  obtain ⟨hK, b1, hP, h⟩ := h
  refine st_getP oX2_skip_1 hK hP ?_
  refine st_aload oX2_skip_4 rfl ?_
  obtain ⟨hK, h⟩ := h
  refine st_getI oX2_skip_5 hK ?_
  obtain ⟨hK, h⟩ := h
  refine st_callV0_i [.int (pI M l0 4)] oX2_skip_8 rfl rfl hK (ps8 rfl) (pCall_i.mono h (fun v1 M1 h => ?_))
  refine st_iload oX2_skip_11 rfl ?_
  refine st_icmp oX2_skip_12 (fun g => ?_) (fun g => ?_)
  · have h := h.1 g
    refine st_aload oX2_skip_17 rfl ?_
    refine st_dup oX2_skip_18 rfl ?_
    obtain ⟨hK, h⟩ := h
    refine st_getI oX2_skip_19 hK ?_
    refine st_const oX2_skip_22 ?_
    refine st_ibin oX2_skip_23 ?_
    obtain ⟨hK, h⟩ := h
    refine st_putI oX2_skip_24 hK ?_
    refine st_const oX2_skip_27 ?_
    exact st_zret oX2_skip_28 (Or.inr rfl) h
  · have h := h.2 g
    refine st_const oX2_skip_15 ?_
    exact st_zret oX2_skip_16 (Or.inl rfl) h
theorem bX2_wordLine_0 {d : Nat} {Q : pR → pM → Prop} {c s : Nat} {M : pM} {l0 : Nat} (h : pK M l0 = (1, 2) ∧ pCall_i d mX2_skip (0, 0) [.ref l0, .int 1] M (fun v1 M1 => ((v1 = 0 → Q (.inl (some (.int 0))) M1) ∧ (¬ v1 = 0 → pK M1 l0 = (1, 2) ∧ pCall_i d mX2_skip (0, 0) [.ref l0, .int 20] M1 (fun v2 M2 => ((v2 = 0 → Q (.inl (some (.int 0))) M2) ∧ (¬ v2 = 0 → pK M2 l0 = (1, 2) ∧ pCall_i d mX2_skip (0, 0) [.ref l0, .int 2] M2 (fun v3 M3 => ((v3 = 0 → Q (.inl (some (.int 0))) M3) ∧ (¬ v3 = 0 → pK M3 l0 = (1, 2) ∧ pCall_i d mX2_skip (0, 0) [.ref l0, .int 21] M3 (fun v4 M4 => ((v4 = 0 → Q (.inl (some (.int 0))) M4) ∧ (¬ v4 = 0 → pK M4 l0 = (1, 2) ∧ pCall_i d mX2_skip (0, 0) [.ref l0, .int 3] M4 (fun v5 M5 => ((v5 = 0 → Q (.inl (some (.int 1))) M5) ∧ (¬ v5 = 0 → pK M5 l0 = (1, 2) ∧ pCall_i d mX2_skip (0, 0) [.ref l0, .int 20] M5 (fun v6 M6 => ((v6 = 0 → Q (.inl (some (.int 0))) M6) ∧ (¬ v6 = 0 → Q (.inl (some (.int 1))) M6))))))))))))))))))) : Go d mX2_wordLine Q 0 ([some (.ref l0)], [], c, s) M := by
  refine st_aload oX2_wordLine_0 rfl ?_
  refine st_const oX2_wordLine_1 ?_
  obtain ⟨hK, h⟩ := h
  refine st_callV0_i [.int 1] oX2_wordLine_2 rfl rfl hK (ps8 rfl) (pCall_i.mono h (fun v1 M1 h => ?_))
  refine st_if oX2_wordLine_5 (fun g => ?_) (fun g => ?_)
  · have h := h.1 g
    refine st_const oX2_wordLine_55 ?_
    exact st_zret oX2_wordLine_56 (Or.inl rfl) h
  · have h := h.2 g
    refine st_aload oX2_wordLine_8 rfl ?_
    refine st_const oX2_wordLine_9 ?_
    obtain ⟨hK, h⟩ := h
    refine st_callV0_i [.int 20] oX2_wordLine_11 rfl rfl hK (ps8 rfl) (pCall_i.mono h (fun v2 M2 h => ?_))
    refine st_if oX2_wordLine_14 (fun g => ?_) (fun g => ?_)
    · have h := h.1 g
      refine st_const oX2_wordLine_55 ?_
      exact st_zret oX2_wordLine_56 (Or.inl rfl) h
    · have h := h.2 g
      refine st_aload oX2_wordLine_17 rfl ?_
      refine st_const oX2_wordLine_18 ?_
      obtain ⟨hK, h⟩ := h
      refine st_callV0_i [.int 2] oX2_wordLine_19 rfl rfl hK (ps8 rfl) (pCall_i.mono h (fun v3 M3 h => ?_))
      refine st_if oX2_wordLine_22 (fun g => ?_) (fun g => ?_)
      · have h := h.1 g
        refine st_const oX2_wordLine_55 ?_
        exact st_zret oX2_wordLine_56 (Or.inl rfl) h
      · have h := h.2 g
        refine st_aload oX2_wordLine_25 rfl ?_
        refine st_const oX2_wordLine_26 ?_
        obtain ⟨hK, h⟩ := h
        refine st_callV0_i [.int 21] oX2_wordLine_28 rfl rfl hK (ps8 rfl) (pCall_i.mono h (fun v4 M4 h => ?_))
        refine st_if oX2_wordLine_31 (fun g => ?_) (fun g => ?_)
        · have h := h.1 g
          refine st_const oX2_wordLine_55 ?_
          exact st_zret oX2_wordLine_56 (Or.inl rfl) h
        · have h := h.2 g
          refine st_aload oX2_wordLine_34 rfl ?_
          refine st_const oX2_wordLine_35 ?_
          obtain ⟨hK, h⟩ := h
          refine st_callV0_i [.int 3] oX2_wordLine_36 rfl rfl hK (ps8 rfl) (pCall_i.mono h (fun v5 M5 h => ?_))
          refine st_if oX2_wordLine_39 (fun g => ?_) (fun g => ?_)
          · have h := h.1 g
            refine st_const oX2_wordLine_51 ?_
            refine st_goto oX2_wordLine_52 ?_
            exact st_zret oX2_wordLine_56 (Or.inr rfl) h
          · have h := h.2 g
            refine st_aload oX2_wordLine_42 rfl ?_
            refine st_const oX2_wordLine_43 ?_
            obtain ⟨hK, h⟩ := h
            refine st_callV0_i [.int 20] oX2_wordLine_45 rfl rfl hK (ps8 rfl) (pCall_i.mono h (fun v6 M6 h => ?_))
            refine st_if oX2_wordLine_48 (fun g => ?_) (fun g => ?_)
            · have h := h.1 g
              refine st_const oX2_wordLine_55 ?_
              exact st_zret oX2_wordLine_56 (Or.inl rfl) h
            · have h := h.2 g
              refine st_const oX2_wordLine_51 ?_
              refine st_goto oX2_wordLine_52 ?_
              exact st_zret oX2_wordLine_56 (Or.inr rfl) h
theorem bX2_keyRows_0 {d : Nat} {Q : pR → pM → Prop} {c s : Nat} {M : pM} {l0 : Nat} (h : pK M l0 = (1, 2) ∧ pCall_i d mX2_skip (0, 0) [.ref l0, .int 4] M (fun v1 M1 => ((v1 = 0 → Go d mX2_keyRows Q 21 ([some (.ref l0), none, none], [], c, s) M1) ∧ (¬ v1 = 0 → pK M1 l0 = (1, 2) ∧ pCall_i d mX2_skip (0, 0) [.ref l0, .int 20] M1 (fun v2 M2 => ((v2 = 0 → Go d mX2_keyRows Q 21 ([some (.ref l0), none, none], [], c, s) M2) ∧ (¬ v2 = 0 → Go d mX2_keyRows Q 25 ([some (.ref l0), some (.int 1), some (.int 0)], [], c, s) M2))))))) : Go d mX2_keyRows Q 0 ([some (.ref l0), none, none], [], c, s) M := by
  refine st_aload oX2_keyRows_0 rfl ?_
  refine st_const oX2_keyRows_1 ?_
  obtain ⟨hK, h⟩ := h
  refine st_callV0_i [.int 4] oX2_keyRows_2 rfl rfl hK (ps8 rfl) (pCall_i.mono h (fun v1 M1 h => ?_))
  refine st_if oX2_keyRows_5 (fun g => ?_) (fun g => ?_)
  · have h := h.1 g
    exact h
  · have h := h.2 g
    refine st_aload oX2_keyRows_8 rfl ?_
    refine st_const oX2_keyRows_9 ?_
    obtain ⟨hK, h⟩ := h
    refine st_callV0_i [.int 20] oX2_keyRows_11 rfl rfl hK (ps8 rfl) (pCall_i.mono h (fun v2 M2 h => ?_))
    refine st_if oX2_keyRows_14 (fun g => ?_) (fun g => ?_)
    · have h := h.1 g
      exact h
    · have h := h.2 g
      refine st_const oX2_keyRows_17 ?_
      refine st_goto oX2_keyRows_18 ?_
      refine st_istore (L2 := [some (.ref l0), some (.int 1), none]) oX2_keyRows_22 (by decide) rfl rfl ?_
      refine st_const oX2_keyRows_23 ?_
      refine st_istore (L2 := [some (.ref l0), some (.int 1), some (.int 0)]) oX2_keyRows_24 (by decide) rfl rfl ?_
      exact h
theorem bX2_keyRows_21 {d : Nat} {Q : pR → pM → Prop} {c s : Nat} {M : pM} {l0 : Nat} (h : Go d mX2_keyRows Q 25 ([some (.ref l0), some (.int 0), some (.int 0)], [], c, s) M) : Go d mX2_keyRows Q 21 ([some (.ref l0), none, none], [], c, s) M := by
  refine st_const oX2_keyRows_21 ?_
  refine st_istore (L2 := [some (.ref l0), some (.int 0), none]) oX2_keyRows_22 (by decide) rfl rfl ?_
  refine st_const oX2_keyRows_23 ?_
  refine st_istore (L2 := [some (.ref l0), some (.int 0), some (.int 0)]) oX2_keyRows_24 (by decide) rfl rfl ?_
  exact h
theorem bX2_keyRows_25 {d : Nat} {Q : pR → pM → Prop} {c s : Nat} {M : pM} {l0 : Nat} {l1 : Int32} {l2 : Int32} (h : ((400 ≤ l2 → (l1 = 0 ∨ l1 = 1) ∧ Q (.inl (some (.int l1))) M) ∧ (¬ 400 ≤ l2 → ((l1 = 0 → (l1 = 0 ∨ l1 = 1) ∧ Q (.inl (some (.int l1))) M) ∧ (¬ l1 = 0 → pK M l0 = (1, 2) ∧ pCall_i d mX2_skip (0, 0) [.ref l0, .int 44] M (fun v1 M1 => ((v1 = 0 → (l1 = 0 ∨ l1 = 1) ∧ Q (.inl (some (.int l1))) M1) ∧ (¬ v1 = 0 → pK M1 l0 = (1, 2) ∧ pCall_i d mX2_skip (0, 0) [.ref l0, .int 20] M1 (fun v2 M2 => Go d mX2_keyRows Q 25 ([some (.ref l0), some (.int v2), some (.int (l2 + 1))], [], c, s) M2))))))))) : Go d mX2_keyRows Q 25 ([some (.ref l0), some (.int l1), some (.int l2)], [], c, s) M := by
  refine st_iload oX2_keyRows_25 rfl ?_
  refine st_const oX2_keyRows_26 ?_
  refine st_icmp oX2_keyRows_29 (fun g => ?_) (fun g => ?_)
  · have h := h.1 g
    refine st_iload oX2_keyRows_58 rfl ?_
    exact st_zret oX2_keyRows_59 h.1 h.2
  · have h := h.2 g
    refine st_iload oX2_keyRows_32 rfl ?_
    refine st_if oX2_keyRows_33 (fun g => ?_) (fun g => ?_)
    · have h := h.1 g
      refine st_iload oX2_keyRows_58 rfl ?_
      exact st_zret oX2_keyRows_59 h.1 h.2
    · have h := h.2 g
      refine st_aload oX2_keyRows_36 rfl ?_
      refine st_const oX2_keyRows_37 ?_
      obtain ⟨hK, h⟩ := h
      refine st_callV0_i [.int 44] oX2_keyRows_39 rfl rfl hK (ps8 rfl) (pCall_i.mono h (fun v1 M1 h => ?_))
      refine st_if oX2_keyRows_42 (fun g => ?_) (fun g => ?_)
      · have h := h.1 g
        refine st_iload oX2_keyRows_58 rfl ?_
        exact st_zret oX2_keyRows_59 h.1 h.2
      · have h := h.2 g
        refine st_aload oX2_keyRows_45 rfl ?_
        refine st_const oX2_keyRows_46 ?_
        obtain ⟨hK, h⟩ := h
        refine st_callV0_i [.int 20] oX2_keyRows_48 rfl rfl hK (ps8 rfl) (pCall_i.mono h (fun v2 M2 h => ?_))
        refine st_istore (L2 := [some (.ref l0), some (.int v2), some (.int l2)]) oX2_keyRows_51 (by decide) rfl rfl ?_
        refine st_iinc (L2 := [some (.ref l0), some (.int v2), some (.int (l2 + 1))]) oX2_keyRows_52 rfl (by decide) rfl rfl ?_
        refine st_goto oX2_keyRows_55 ?_
        exact h
theorem bX2_boost_0 {d : Nat} {Q : pR → pM → Prop} {c s : Nat} {M : pM} {l0 : Nat} (h : pK M l0 = (1, 2) ∧ pCall_i d mX2_skip (0, 0) [.ref l0, .int 5] M (fun v1 M1 => ((v1 = 0 → Q (.inl (some (.int 0))) M1) ∧ (¬ v1 = 0 → pK M1 l0 = (1, 2) ∧ pCall_i d mX2_skip (0, 0) [.ref l0, .int 20] M1 (fun v2 M2 => ((v2 = 0 → Q (.inl (some (.int 0))) M2) ∧ (¬ v2 = 0 → pK M2 l0 = (1, 2) ∧ pCall_i d mX2_skip (0, 0) [.ref l0, .int 6] M2 (fun v3 M3 => ((v3 = 0 → Q (.inl (some (.int 0))) M3) ∧ (¬ v3 = 0 → pK M3 l0 = (1, 2) ∧ ∃ b1 : Nat, pP M3 l0 3 = b1 + 1 ∧ pK M3 b1 = (1, 1) ∧ pCall_v d mX1_startSum (0, 0) [.ref b1] M3 (fun M4 => pK M4 l0 = (1, 2) ∧ pCall_i d mX2_sum (0, 0) [.ref l0, .int 0] M4 (fun v4 M5 => ((v4 = 0 → Q (.inl (some (.int 0))) M5) ∧ (¬ v4 = 0 → pK M5 l0 = (1, 2) ∧ pCall_i d mX2_skip (0, 0) [.ref l0, .int 7] M5 (fun v5 M6 => ((v5 = 0 → Q (.inl (some (.int 0))) M6) ∧ (¬ v5 = 0 → pK M6 l0 = (1, 2) ∧ ∃ b2 : Nat, pP M6 l0 3 = b2 + 1 ∧ pK M6 b2 = (1, 1) ∧ pCall_v d mX1_startTest (0, 0) [.ref b2] M6 (fun M7 => pK M7 l0 = (1, 2) ∧ pCall_i d mX2_test (0, 0) [.ref l0, .int 0] M7 (fun v6 M8 => pK M8 l0 = (1, 2) ∧ ∃ b3 : Nat, pP M8 l0 3 = b3 + 1 ∧ pK M8 b3 = (1, 1) ∧ pCall_v d mX1_end (0, 0) [.ref b3] M8 (fun M9 => (v6 = 0 ∨ v6 = 1) ∧ Q (.inl (some (.int v6))) M9)))))))))))))))))))) : Go d mX2_boost Q 0 ([some (.ref l0), none], [], c, s) M := by
  refine st_aload oX2_boost_0 rfl ?_
  refine st_const oX2_boost_1 ?_
  obtain ⟨hK, h⟩ := h
  refine st_callV0_i [.int 5] oX2_boost_2 rfl rfl hK (ps8 rfl) (pCall_i.mono h (fun v1 M1 h => ?_))
  refine st_if oX2_boost_5 (fun g => ?_) (fun g => ?_)
  · have h := h.1 g
    refine st_const oX2_boost_26 ?_
    exact st_zret oX2_boost_27 (Or.inl rfl) h
  · have h := h.2 g
    refine st_aload oX2_boost_8 rfl ?_
    refine st_const oX2_boost_9 ?_
    obtain ⟨hK, h⟩ := h
    refine st_callV0_i [.int 20] oX2_boost_11 rfl rfl hK (ps8 rfl) (pCall_i.mono h (fun v2 M2 h => ?_))
    refine st_if oX2_boost_14 (fun g => ?_) (fun g => ?_)
    · have h := h.1 g
      refine st_const oX2_boost_26 ?_
      exact st_zret oX2_boost_27 (Or.inl rfl) h
    · have h := h.2 g
      refine st_aload oX2_boost_17 rfl ?_
      refine st_const oX2_boost_18 ?_
      obtain ⟨hK, h⟩ := h
      refine st_callV0_i [.int 6] oX2_boost_20 rfl rfl hK (ps8 rfl) (pCall_i.mono h (fun v3 M3 h => ?_))
      refine st_if oX2_boost_23 (fun g => ?_) (fun g => ?_)
      · have h := h.1 g
        refine st_const oX2_boost_26 ?_
        exact st_zret oX2_boost_27 (Or.inl rfl) h
      · have h := h.2 g
        refine st_aload oX2_boost_28 rfl ?_
        obtain ⟨hK, b1, hP, h⟩ := h
        refine st_getP oX2_boost_29 hK hP ?_
        obtain ⟨hK, h⟩ := h
        refine st_callV0_v [] oX2_boost_32 rfl rfl hK (ps8 rfl) (pCall_v.mono h (fun M4 h => ?_))
        refine st_aload oX2_boost_35 rfl ?_
        refine st_const oX2_boost_36 ?_
        obtain ⟨hK, h⟩ := h
        refine st_callV0_i [.int 0] oX2_boost_37 rfl rfl hK (ps8 rfl) (pCall_i.mono h (fun v4 M5 h => ?_))
        refine st_if oX2_boost_40 (fun g => ?_) (fun g => ?_)
        · have h := h.1 g
          refine st_const oX2_boost_52 ?_
          exact st_zret oX2_boost_53 (Or.inl rfl) h
        · have h := h.2 g
          refine st_aload oX2_boost_43 rfl ?_
          refine st_const oX2_boost_44 ?_
          obtain ⟨hK, h⟩ := h
          refine st_callV0_i [.int 7] oX2_boost_46 rfl rfl hK (ps8 rfl) (pCall_i.mono h (fun v5 M6 h => ?_))
          refine st_if oX2_boost_49 (fun g => ?_) (fun g => ?_)
          · have h := h.1 g
            refine st_const oX2_boost_52 ?_
            exact st_zret oX2_boost_53 (Or.inl rfl) h
          · have h := h.2 g
            refine st_aload oX2_boost_54 rfl ?_
            obtain ⟨hK, b2, hP, h⟩ := h
            refine st_getP oX2_boost_55 hK hP ?_
            obtain ⟨hK, h⟩ := h
            refine st_callV0_v [] oX2_boost_58 rfl rfl hK (ps8 rfl) (pCall_v.mono h (fun M7 h => ?_))
            refine st_aload oX2_boost_61 rfl ?_
            refine st_const oX2_boost_62 ?_
            obtain ⟨hK, h⟩ := h
            refine st_callV0_i [.int 0] oX2_boost_63 rfl rfl hK (ps8 rfl) (pCall_i.mono h (fun v6 M8 h => ?_))
            refine st_istore (L2 := [some (.ref l0), some (.int v6)]) oX2_boost_66 (by decide) rfl rfl ?_
            refine st_aload oX2_boost_67 rfl ?_
            obtain ⟨hK, b3, hP, h⟩ := h
            refine st_getP oX2_boost_68 hK hP ?_
            obtain ⟨hK, h⟩ := h
            refine st_callV0_v [] oX2_boost_71 rfl rfl hK (ps8 rfl) (pCall_v.mono h (fun M9 h => ?_))
            refine st_iload oX2_boost_74 rfl ?_
            exact st_zret oX2_boost_75 h.1 h.2
theorem bX2_test_0 {d : Nat} {Q : pR → pM → Prop} {c s : Nat} {M : pM} {l0 : Nat} {l1 : Int32} (h : pK M l0 = (1, 2) ∧ pCall_i d mX2_both (0, 0) [.ref l0, .int l1] M (fun v1 M1 => Go d mX2_test Q 8 ([some (.ref l0), some (.int l1), some (.int v1), some (.int 0)], [], c, s) M1)) : Go d mX2_test Q 0 ([some (.ref l0), some (.int l1), none, none], [], c, s) M := by
  refine st_aload oX2_test_0 rfl ?_
  refine st_iload oX2_test_1 rfl ?_
  obtain ⟨hK, h⟩ := h
  refine st_callV0_i [.int l1] oX2_test_2 rfl rfl hK (ps8 rfl) (pCall_i.mono h (fun v1 M1 h => ?_))
  refine st_istore (L2 := [some (.ref l0), some (.int l1), some (.int v1), none]) oX2_test_5 (by decide) rfl rfl ?_
  refine st_const oX2_test_6 ?_
  refine st_istore (L2 := [some (.ref l0), some (.int l1), some (.int v1), some (.int 0)]) oX2_test_7 (by decide) rfl rfl ?_
  exact h
theorem bX2_test_8 {d : Nat} {Q : pR → pM → Prop} {c s : Nat} {M : pM} {l0 : Nat} {l1 : Int32} {l2 : Int32} {l3 : Int32} (h : ((400 ≤ l3 → (l2 = 0 ∨ l2 = 1) ∧ Q (.inl (some (.int l2))) M) ∧ (¬ 400 ≤ l3 → ((l2 = 0 → (l2 = 0 ∨ l2 = 1) ∧ Q (.inl (some (.int l2))) M) ∧ (¬ l2 = 0 → pK M l0 = (1, 2) ∧ pCall_i d mX2_skip (0, 0) [.ref l0, .int 16] M (fun v1 M1 => ((v1 = 0 → (l2 = 0 ∨ l2 = 1) ∧ Q (.inl (some (.int l2))) M1) ∧ (¬ v1 = 0 → pK M1 l0 = (1, 2) ∧ pCall_i d mX2_both (0, 0) [.ref l0, .int l1] M1 (fun v2 M2 => pK M2 l0 = (1, 2) ∧ ∃ b1 : Nat, pP M2 l0 3 = b1 + 1 ∧ pK M2 b1 = (1, 1) ∧ pCall_v d mX1_addStep (0, 0) [.ref b1, .int 16, .int 0] M2 (fun M3 => Go d mX2_test Q 8 ([some (.ref l0), some (.int l1), some (.int v2), some (.int (l3 + 1))], [], c, s) M3)))))))))) : Go d mX2_test Q 8 ([some (.ref l0), some (.int l1), some (.int l2), some (.int l3)], [], c, s) M := by
  refine st_iload oX2_test_8 rfl ?_
  refine st_const oX2_test_9 ?_
  refine st_icmp oX2_test_12 (fun g => ?_) (fun g => ?_)
  · have h := h.1 g
    refine st_iload oX2_test_50 rfl ?_
    exact st_zret oX2_test_51 h.1 h.2
  · have h := h.2 g
    refine st_iload oX2_test_15 rfl ?_
    refine st_if oX2_test_16 (fun g => ?_) (fun g => ?_)
    · have h := h.1 g
      refine st_iload oX2_test_50 rfl ?_
      exact st_zret oX2_test_51 h.1 h.2
    · have h := h.2 g
      refine st_aload oX2_test_19 rfl ?_
      refine st_const oX2_test_20 ?_
      obtain ⟨hK, h⟩ := h
      refine st_callV0_i [.int 16] oX2_test_22 rfl rfl hK (ps8 rfl) (pCall_i.mono h (fun v1 M1 h => ?_))
      refine st_if oX2_test_25 (fun g => ?_) (fun g => ?_)
      · have h := h.1 g
        refine st_iload oX2_test_50 rfl ?_
        exact st_zret oX2_test_51 h.1 h.2
      · have h := h.2 g
        refine st_aload oX2_test_28 rfl ?_
        refine st_iload oX2_test_29 rfl ?_
        obtain ⟨hK, h⟩ := h
        refine st_callV0_i [.int l1] oX2_test_30 rfl rfl hK (ps8 rfl) (pCall_i.mono h (fun v2 M2 h => ?_))
        refine st_istore (L2 := [some (.ref l0), some (.int l1), some (.int v2), some (.int l3)]) oX2_test_33 (by decide) rfl rfl ?_
        refine st_aload oX2_test_34 rfl ?_
        obtain ⟨hK, b1, hP, h⟩ := h
        refine st_getP oX2_test_35 hK hP ?_
        refine st_const oX2_test_38 ?_
        refine st_const oX2_test_40 ?_
        obtain ⟨hK, h⟩ := h
        refine st_callV0_v [.int 16, .int 0] oX2_test_41 rfl rfl hK (ps8 rfl) (pCall_v.mono h (fun M3 h => ?_))
        refine st_iinc (L2 := [some (.ref l0), some (.int l1), some (.int v2), some (.int (l3 + 1))]) oX2_test_44 rfl (by decide) rfl rfl ?_
        refine st_goto oX2_test_47 ?_
        exact h
theorem bX2_both_0 {d : Nat} {Q : pR → pM → Prop} {c s : Nat} {M : pM} {l0 : Nat} {l1 : Int32} (h : pK M l0 = (1, 2) ∧ pCall_i d mX2_single (0, 0) [.ref l0, .int l1] M (fun v1 M1 => Go d mX2_both Q 8 ([some (.ref l0), some (.int l1), some (.int v1), some (.int 0)], [], c, s) M1)) : Go d mX2_both Q 0 ([some (.ref l0), some (.int l1), none, none], [], c, s) M := by
  refine st_aload oX2_both_0 rfl ?_
  refine st_iload oX2_both_1 rfl ?_
  obtain ⟨hK, h⟩ := h
  refine st_callV0_i [.int l1] oX2_both_2 rfl rfl hK (ps8 rfl) (pCall_i.mono h (fun v1 M1 h => ?_))
  refine st_istore (L2 := [some (.ref l0), some (.int l1), some (.int v1), none]) oX2_both_5 (by decide) rfl rfl ?_
  refine st_const oX2_both_6 ?_
  refine st_istore (L2 := [some (.ref l0), some (.int l1), some (.int v1), some (.int 0)]) oX2_both_7 (by decide) rfl rfl ?_
  exact h
theorem bX2_both_8 {d : Nat} {Q : pR → pM → Prop} {c s : Nat} {M : pM} {l0 : Nat} {l1 : Int32} {l2 : Int32} {l3 : Int32} (h : ((400 ≤ l3 → (l2 = 0 ∨ l2 = 1) ∧ Q (.inl (some (.int l2))) M) ∧ (¬ 400 ≤ l3 → ((l2 = 0 → (l2 = 0 ∨ l2 = 1) ∧ Q (.inl (some (.int l2))) M) ∧ (¬ l2 = 0 → pK M l0 = (1, 2) ∧ pCall_i d mX2_skip (0, 0) [.ref l0, .int 15] M (fun v1 M1 => ((v1 = 0 → (l2 = 0 ∨ l2 = 1) ∧ Q (.inl (some (.int l2))) M1) ∧ (¬ v1 = 0 → pK M1 l0 = (1, 2) ∧ pCall_i d mX2_single (0, 0) [.ref l0, .int l1] M1 (fun v2 M2 => pK M2 l0 = (1, 2) ∧ ∃ b1 : Nat, pP M2 l0 3 = b1 + 1 ∧ pK M2 b1 = (1, 1) ∧ pCall_v d mX1_addStep (0, 0) [.ref b1, .int 15, .int 0] M2 (fun M3 => Go d mX2_both Q 8 ([some (.ref l0), some (.int l1), some (.int v2), some (.int (l3 + 1))], [], c, s) M3)))))))))) : Go d mX2_both Q 8 ([some (.ref l0), some (.int l1), some (.int l2), some (.int l3)], [], c, s) M := by
  refine st_iload oX2_both_8 rfl ?_
  refine st_const oX2_both_9 ?_
  refine st_icmp oX2_both_12 (fun g => ?_) (fun g => ?_)
  · have h := h.1 g
    refine st_iload oX2_both_50 rfl ?_
    exact st_zret oX2_both_51 h.1 h.2
  · have h := h.2 g
    refine st_iload oX2_both_15 rfl ?_
    refine st_if oX2_both_16 (fun g => ?_) (fun g => ?_)
    · have h := h.1 g
      refine st_iload oX2_both_50 rfl ?_
      exact st_zret oX2_both_51 h.1 h.2
    · have h := h.2 g
      refine st_aload oX2_both_19 rfl ?_
      refine st_const oX2_both_20 ?_
      obtain ⟨hK, h⟩ := h
      refine st_callV0_i [.int 15] oX2_both_22 rfl rfl hK (ps8 rfl) (pCall_i.mono h (fun v1 M1 h => ?_))
      refine st_if oX2_both_25 (fun g => ?_) (fun g => ?_)
      · have h := h.1 g
        refine st_iload oX2_both_50 rfl ?_
        exact st_zret oX2_both_51 h.1 h.2
      · have h := h.2 g
        refine st_aload oX2_both_28 rfl ?_
        refine st_iload oX2_both_29 rfl ?_
        obtain ⟨hK, h⟩ := h
        refine st_callV0_i [.int l1] oX2_both_30 rfl rfl hK (ps8 rfl) (pCall_i.mono h (fun v2 M2 h => ?_))
        refine st_istore (L2 := [some (.ref l0), some (.int l1), some (.int v2), some (.int l3)]) oX2_both_33 (by decide) rfl rfl ?_
        refine st_aload oX2_both_34 rfl ?_
        obtain ⟨hK, b1, hP, h⟩ := h
        refine st_getP oX2_both_35 hK hP ?_
        refine st_const oX2_both_38 ?_
        refine st_const oX2_both_40 ?_
        obtain ⟨hK, h⟩ := h
        refine st_callV0_v [.int 15, .int 0] oX2_both_41 rfl rfl hK (ps8 rfl) (pCall_v.mono h (fun M3 h => ?_))
        refine st_iinc (L2 := [some (.ref l0), some (.int l1), some (.int v2), some (.int (l3 + 1))]) oX2_both_44 rfl (by decide) rfl rfl ?_
        refine st_goto oX2_both_47 ?_
        exact h
theorem bX2_single_0 {d : Nat} {Q : pR → pM → Prop} {c s : Nat} {M : pM} {l0 : Nat} {l1 : Int32} (h : pK M l0 = (1, 2) ∧ ∃ b1 : Nat, pP M l0 1 = b1 + 1 ∧ pK M l0 = (1, 2) ∧ pK M b1 = (1, 9) ∧ pCall_i d mX9_at (0, 0) [.ref b1, .int (pI M l0 4)] M (fun v1 M1 => ((v1 = 12 → Go d mX2_single Q 132 ([some (.ref l0), none, some (.int v1), none], [], c, s) M1) ∧ (¬ v1 = 12 → ((v1 = 13 → Go d mX2_single Q 132 ([some (.ref l0), none, some (.int v1), none], [], c, s) M1) ∧ (¬ v1 = 13 → ((v1 = 14 → ((8 ≤ l1 → Q (.inl (some (.int 0))) M1) ∧ (¬ 8 ≤ l1 → pK M1 l0 = (1, 2) ∧ pCall_i d mX2_skip (0, 0) [.ref l0, .int v1] M1 (fun v2 M2 => ((v2 = 0 → Q (.inl (some (.int 0))) M2) ∧ (¬ v2 = 0 → pK M2 l0 = (1, 2) ∧ pCall_i d mX2_single (0, 0) [.ref l0, .int (l1 + 1)] M2 (fun v3 M3 => ((v3 = 0 → Q (.inl (some (.int 0))) M3) ∧ (¬ v3 = 0 → pK M3 l0 = (1, 2) ∧ ∃ b2 : Nat, pP M3 l0 3 = b2 + 1 ∧ pK M3 b2 = (1, 1) ∧ pCall_v d mX1_addStep (0, 0) [.ref b2, .int v1, .int 0] M3 (fun M4 => Q (.inl (some (.int 1))) M4)))))))))) ∧ (¬ v1 = 14 → ((v1 = 91 → ((8 ≤ l1 → Q (.inl (some (.int 0))) M1) ∧ (¬ 8 ≤ l1 → pK M1 l0 = (1, 2) ∧ pCall_i d mX2_skip (0, 0) [.ref l0, .int v1] M1 (fun v4 M5 => ((v4 = 0 → Q (.inl (some (.int 0))) M5) ∧ (¬ v4 = 0 → pK M5 l0 = (1, 2) ∧ pCall_i d mX2_test (0, 0) [.ref l0, .int (l1 + 1)] M5 (fun v5 M6 => ((v5 = 0 → Q (.inl (some (.int 0))) M6) ∧ (¬ v5 = 0 → pK M6 l0 = (1, 2) ∧ pCall_i d mX2_skip (0, 0) [.ref l0, .int 93] M6 (fun v6 M7 => ((v6 = 0 → Q (.inl (some (.int 0))) M7) ∧ (¬ v6 = 0 → Q (.inl (some (.int 1))) M7)))))))))))) ∧ (¬ v1 = 91 → pK M1 l0 = (1, 2) ∧ pCall_i d mX2_sum (0, 0) [.ref l0, .int l1] M1 (fun v7 M8 => ((v7 = 0 → Q (.inl (some (.int 0))) M8) ∧ (¬ v7 = 0 → pK M8 l0 = (1, 2) ∧ ∃ b3 : Nat, pP M8 l0 1 = b3 + 1 ∧ pK M8 l0 = (1, 2) ∧ pK M8 b3 = (1, 9) ∧ pCall_i d mX9_at (0, 0) [.ref b3, .int (pI M8 l0 4)] M8 (fun v8 M9 => pCall_i d mX2_compares (0, 0) [.int v8] M9 (fun v9 M10 => ((v9 = 0 → Q (.inl (some (.int 0))) M10) ∧ (¬ v9 = 0 → pK M10 l0 = (1, 2) ∧ pCall_i d mX2_skip (0, 0) [.ref l0, .int v8] M10 (fun v10 M11 => ((v10 = 0 → Q (.inl (some (.int 0))) M11) ∧ (¬ v10 = 0 → pK M11 l0 = (1, 2) ∧ pCall_i d mX2_sum (0, 0) [.ref l0, .int l1] M11 (fun v11 M12 => ((v11 = 0 → Q (.inl (some (.int 0))) M12) ∧ (¬ v11 = 0 → pK M12 l0 = (1, 2) ∧ ∃ b4 : Nat, pP M12 l0 3 = b4 + 1 ∧ pK M12 b4 = (1, 1) ∧ pCall_v d mX1_addStep (0, 0) [.ref b4, .int v8, .int 0] M12 (fun M13 => Q (.inl (some (.int 1))) M13)))))))))))))))))))))))) : Go d mX2_single Q 0 ([some (.ref l0), some (.int l1), none, none], [], c, s) M := by
  refine st_aload oX2_single_0 rfl ?_
  obtain ⟨hK, b1, hP, h⟩ := h
  refine st_getP oX2_single_1 hK hP ?_
  refine st_aload oX2_single_4 rfl ?_
  obtain ⟨hK, h⟩ := h
  refine st_getI oX2_single_5 hK ?_
  obtain ⟨hK, h⟩ := h
  refine st_callV0_i [.int (pI M l0 4)] oX2_single_8 rfl rfl hK (ps8 rfl) (pCall_i.mono h (fun v1 M1 h => ?_))
  refine st_istore (L2 := [some (.ref l0), some (.int l1), some (.int v1), none]) oX2_single_11 (by decide) rfl rfl ?_
  refine st_iload oX2_single_12 rfl ?_
  refine st_sw oX2_single_13 ?_
  refine And.intro (fun g => ?_) (fun g => ?_)
  · have h := h.1 g
    exact Go.wk (L := [some (.ref l0), none, some (.int v1), none]) (And.intro (Or.inr rfl) (And.intro (Or.inl rfl) (And.intro (Or.inr rfl) (And.intro (Or.inr rfl) True.intro)))) h
  · have h := h.2 g
    refine And.intro (fun g => ?_) (fun g => ?_)
    · have h := h.1 g
      exact Go.wk (L := [some (.ref l0), none, some (.int v1), none]) (And.intro (Or.inr rfl) (And.intro (Or.inl rfl) (And.intro (Or.inr rfl) (And.intro (Or.inr rfl) True.intro)))) h
    · have h := h.2 g
      refine And.intro (fun g => ?_) (fun g => ?_)
      · have h := h.1 g
        refine st_iload oX2_single_56 rfl ?_
        refine st_const oX2_single_57 ?_
        refine st_icmp oX2_single_59 (fun g => ?_) (fun g => ?_)
        · have h := h.1 g
          refine st_const oX2_single_80 ?_
          exact st_zret oX2_single_81 (Or.inl rfl) h
        · have h := h.2 g
          refine st_aload oX2_single_62 rfl ?_
          refine st_iload oX2_single_63 rfl ?_
          obtain ⟨hK, h⟩ := h
          refine st_callV0_i [.int v1] oX2_single_64 rfl rfl hK (ps8 rfl) (pCall_i.mono h (fun v2 M2 h => ?_))
          refine st_if oX2_single_67 (fun g => ?_) (fun g => ?_)
          · have h := h.1 g
            refine st_const oX2_single_80 ?_
            exact st_zret oX2_single_81 (Or.inl rfl) h
          · have h := h.2 g
            refine st_aload oX2_single_70 rfl ?_
            refine st_iload oX2_single_71 rfl ?_
            refine st_const oX2_single_72 ?_
            refine st_ibin oX2_single_73 ?_
            obtain ⟨hK, h⟩ := h
            refine st_callV0_i [.int (l1 + 1)] oX2_single_74 rfl rfl hK (ps8 rfl) (pCall_i.mono h (fun v3 M3 h => ?_))
            refine st_if oX2_single_77 (fun g => ?_) (fun g => ?_)
            · have h := h.1 g
              refine st_const oX2_single_80 ?_
              exact st_zret oX2_single_81 (Or.inl rfl) h
            · have h := h.2 g
              refine st_aload oX2_single_82 rfl ?_
              obtain ⟨hK, b2, hP, h⟩ := h
              refine st_getP oX2_single_83 hK hP ?_
              refine st_iload oX2_single_86 rfl ?_
              refine st_const oX2_single_87 ?_
              obtain ⟨hK, h⟩ := h
              refine st_callV0_v [.int v1, .int 0] oX2_single_88 rfl rfl hK (ps8 rfl) (pCall_v.mono h (fun M4 h => ?_))
              refine st_const oX2_single_91 ?_
              exact st_zret oX2_single_92 (Or.inr rfl) h
      · have h := h.2 g
        refine And.intro (fun g => ?_) (fun g => ?_)
        · have h := h.1 g
          refine st_iload oX2_single_93 rfl ?_
          refine st_const oX2_single_94 ?_
          refine st_icmp oX2_single_96 (fun g => ?_) (fun g => ?_)
          · have h := h.1 g
            refine st_const oX2_single_130 ?_
            exact st_zret oX2_single_131 (Or.inl rfl) h
          · have h := h.2 g
            refine st_aload oX2_single_99 rfl ?_
            refine st_iload oX2_single_100 rfl ?_
            obtain ⟨hK, h⟩ := h
            refine st_callV0_i [.int v1] oX2_single_101 rfl rfl hK (ps8 rfl) (pCall_i.mono h (fun v4 M5 h => ?_))
            refine st_if oX2_single_104 (fun g => ?_) (fun g => ?_)
            · have h := h.1 g
              refine st_const oX2_single_130 ?_
              exact st_zret oX2_single_131 (Or.inl rfl) h
            · have h := h.2 g
              refine st_aload oX2_single_107 rfl ?_
              refine st_iload oX2_single_108 rfl ?_
              refine st_const oX2_single_109 ?_
              refine st_ibin oX2_single_110 ?_
              obtain ⟨hK, h⟩ := h
              refine st_callV0_i [.int (l1 + 1)] oX2_single_111 rfl rfl hK (ps8 rfl) (pCall_i.mono h (fun v5 M6 h => ?_))
              refine st_if oX2_single_114 (fun g => ?_) (fun g => ?_)
              · have h := h.1 g
                refine st_const oX2_single_130 ?_
                exact st_zret oX2_single_131 (Or.inl rfl) h
              · have h := h.2 g
                refine st_aload oX2_single_117 rfl ?_
                refine st_const oX2_single_118 ?_
                obtain ⟨hK, h⟩ := h
                refine st_callV0_i [.int 93] oX2_single_120 rfl rfl hK (ps8 rfl) (pCall_i.mono h (fun v6 M7 h => ?_))
                refine st_if oX2_single_123 (fun g => ?_) (fun g => ?_)
                · have h := h.1 g
                  refine st_const oX2_single_130 ?_
                  exact st_zret oX2_single_131 (Or.inl rfl) h
                · have h := h.2 g
                  refine st_const oX2_single_126 ?_
                  refine st_goto oX2_single_127 ?_
                  exact st_zret oX2_single_131 (Or.inr rfl) h
        · have h := h.2 g
          refine st_aload oX2_single_169 rfl ?_
          refine st_iload oX2_single_170 rfl ?_
          obtain ⟨hK, h⟩ := h
          refine st_callV0_i [.int l1] oX2_single_171 rfl rfl hK (ps8 rfl) (pCall_i.mono h (fun v7 M8 h => ?_))
          refine st_if oX2_single_174 (fun g => ?_) (fun g => ?_)
          · have h := h.1 g
            refine st_const oX2_single_177 ?_
            exact st_zret oX2_single_178 (Or.inl rfl) h
          · have h := h.2 g
            refine st_aload oX2_single_179 rfl ?_
            obtain ⟨hK, b3, hP, h⟩ := h
            refine st_getP oX2_single_180 hK hP ?_
            refine st_aload oX2_single_183 rfl ?_
            obtain ⟨hK, h⟩ := h
            refine st_getI oX2_single_184 hK ?_
            obtain ⟨hK, h⟩ := h
            refine st_callV0_i [.int (pI M8 l0 4)] oX2_single_187 rfl rfl hK (ps8 rfl) (pCall_i.mono h (fun v8 M9 h => ?_))
            refine st_istore (L2 := [some (.ref l0), some (.int l1), some (.int v1), some (.int v8)]) oX2_single_190 (by decide) rfl rfl ?_
            refine st_iload oX2_single_191 rfl ?_
            refine st_callS0_i [.int v8] oX2_single_192 rfl rfl (ps8 rfl) (pCall_i.mono h (fun v9 M10 h => ?_))
            refine st_if oX2_single_195 (fun g => ?_) (fun g => ?_)
            · have h := h.1 g
              refine st_const oX2_single_214 ?_
              exact st_zret oX2_single_215 (Or.inl rfl) h
            · have h := h.2 g
              refine st_aload oX2_single_198 rfl ?_
              refine st_iload oX2_single_199 rfl ?_
              obtain ⟨hK, h⟩ := h
              refine st_callV0_i [.int v8] oX2_single_200 rfl rfl hK (ps8 rfl) (pCall_i.mono h (fun v10 M11 h => ?_))
              refine st_if oX2_single_203 (fun g => ?_) (fun g => ?_)
              · have h := h.1 g
                refine st_const oX2_single_214 ?_
                exact st_zret oX2_single_215 (Or.inl rfl) h
              · have h := h.2 g
                refine st_aload oX2_single_206 rfl ?_
                refine st_iload oX2_single_207 rfl ?_
                obtain ⟨hK, h⟩ := h
                refine st_callV0_i [.int l1] oX2_single_208 rfl rfl hK (ps8 rfl) (pCall_i.mono h (fun v11 M12 h => ?_))
                refine st_if oX2_single_211 (fun g => ?_) (fun g => ?_)
                · have h := h.1 g
                  refine st_const oX2_single_214 ?_
                  exact st_zret oX2_single_215 (Or.inl rfl) h
                · have h := h.2 g
                  refine st_aload oX2_single_216 rfl ?_
                  obtain ⟨hK, b4, hP, h⟩ := h
                  refine st_getP oX2_single_217 hK hP ?_
                  refine st_iload oX2_single_220 rfl ?_
                  refine st_const oX2_single_221 ?_
                  obtain ⟨hK, h⟩ := h
                  refine st_callV0_v [.int v8, .int 0] oX2_single_222 rfl rfl hK (ps8 rfl) (pCall_v.mono h (fun M13 h => ?_))
                  refine st_const oX2_single_225 ?_
                  exact st_zret oX2_single_226 (Or.inr rfl) h
theorem bX2_single_132 {d : Nat} {Q : pR → pM → Prop} {c s : Nat} {M : pM} {l0 : Nat} {l2 : Int32} (h : pK M l0 = (1, 2) ∧ ∃ b1 : Nat, pP M l0 3 = b1 + 1 ∧ pK M l0 = (1, 2) ∧ pK M b1 = (1, 1) ∧ pCall_v d mX1_addStep (0, 0) [.ref b1, .int l2, .int ((pI M l0 4) + 1)] M (fun M1 => pK M1 l0 = (1, 2) ∧ pCall_i d mX2_skip (0, 0) [.ref l0, .int l2] M1 (fun v1 M2 => ((v1 = 0 → Q (.inl (some (.int 0))) M2) ∧ (¬ v1 = 0 → pK M2 l0 = (1, 2) ∧ pCall_i d mX2_skip (0, 0) [.ref l0, .int 20] M2 (fun v2 M3 => ((v2 = 0 → Q (.inl (some (.int 0))) M3) ∧ (¬ v2 = 0 → Q (.inl (some (.int 1))) M3)))))))) : Go d mX2_single Q 132 ([some (.ref l0), none, some (.int l2), none], [], c, s) M := by
  refine st_aload oX2_single_132 rfl ?_
  obtain ⟨hK, b1, hP, h⟩ := h
  refine st_getP oX2_single_133 hK hP ?_
  refine st_iload oX2_single_136 rfl ?_
  refine st_aload oX2_single_137 rfl ?_
  obtain ⟨hK, h⟩ := h
  refine st_getI oX2_single_138 hK ?_
  refine st_const oX2_single_141 ?_
  refine st_ibin oX2_single_142 ?_
  obtain ⟨hK, h⟩ := h
  refine st_callV0_v [.int l2, .int ((pI M l0 4) + 1)] oX2_single_143 rfl rfl hK (ps8 rfl) (pCall_v.mono h (fun M1 h => ?_))
  refine st_aload oX2_single_146 rfl ?_
  refine st_iload oX2_single_147 rfl ?_
  obtain ⟨hK, h⟩ := h
  refine st_callV0_i [.int l2] oX2_single_148 rfl rfl hK (ps8 rfl) (pCall_i.mono h (fun v1 M2 h => ?_))
  refine st_if oX2_single_151 (fun g => ?_) (fun g => ?_)
  · have h := h.1 g
    refine st_const oX2_single_167 ?_
    exact st_zret oX2_single_168 (Or.inl rfl) h
  · have h := h.2 g
    refine st_aload oX2_single_154 rfl ?_
    refine st_const oX2_single_155 ?_
    obtain ⟨hK, h⟩ := h
    refine st_callV0_i [.int 20] oX2_single_157 rfl rfl hK (ps8 rfl) (pCall_i.mono h (fun v2 M3 h => ?_))
    refine st_if oX2_single_160 (fun g => ?_) (fun g => ?_)
    · have h := h.1 g
      refine st_const oX2_single_167 ?_
      exact st_zret oX2_single_168 (Or.inl rfl) h
    · have h := h.2 g
      refine st_const oX2_single_163 ?_
      refine st_goto oX2_single_164 ?_
      exact st_zret oX2_single_168 (Or.inr rfl) h
theorem bX2_compares_0 {d : Nat} {Q : pR → pM → Prop} {c s : Nat} {M : pM} {l0 : Int32} (h : ((l0 = 60 → Q (.inl (some (.int 1))) M) ∧ (¬ l0 = 60 → ((l0 = 62 → Q (.inl (some (.int 1))) M) ∧ (¬ l0 = 62 → ((l0 = 61 → Q (.inl (some (.int 1))) M) ∧ (¬ l0 = 61 → ((l0 = 22 → Q (.inl (some (.int 1))) M) ∧ (¬ l0 = 22 → ((l0 = 23 → Q (.inl (some (.int 1))) M) ∧ (¬ l0 = 23 → Q (.inl (some (.int 0))) M))))))))))) : Go d mX2_compares Q 0 ([some (.int l0)], [], c, s) M := by
  refine st_iload oX2_compares_0 rfl ?_
  refine st_const oX2_compares_1 ?_
  refine st_icmp oX2_compares_3 (fun g => ?_) (fun g => ?_)
  · have h := h.1 g
    refine st_const oX2_compares_30 ?_
    refine st_goto oX2_compares_31 ?_
    exact st_zret oX2_compares_35 (Or.inr rfl) h
  · have h := h.2 g
    refine st_iload oX2_compares_6 rfl ?_
    refine st_const oX2_compares_7 ?_
    refine st_icmp oX2_compares_9 (fun g => ?_) (fun g => ?_)
    · have h := h.1 g
      refine st_const oX2_compares_30 ?_
      refine st_goto oX2_compares_31 ?_
      exact st_zret oX2_compares_35 (Or.inr rfl) h
    · have h := h.2 g
      refine st_iload oX2_compares_12 rfl ?_
      refine st_const oX2_compares_13 ?_
      refine st_icmp oX2_compares_15 (fun g => ?_) (fun g => ?_)
      · have h := h.1 g
        refine st_const oX2_compares_30 ?_
        refine st_goto oX2_compares_31 ?_
        exact st_zret oX2_compares_35 (Or.inr rfl) h
      · have h := h.2 g
        refine st_iload oX2_compares_18 rfl ?_
        refine st_const oX2_compares_19 ?_
        refine st_icmp oX2_compares_21 (fun g => ?_) (fun g => ?_)
        · have h := h.1 g
          refine st_const oX2_compares_30 ?_
          refine st_goto oX2_compares_31 ?_
          exact st_zret oX2_compares_35 (Or.inr rfl) h
        · have h := h.2 g
          refine st_iload oX2_compares_24 rfl ?_
          refine st_const oX2_compares_25 ?_
          refine st_icmp oX2_compares_27 (fun g => ?_) (fun g => ?_)
          · have h := h.1 g
            refine st_const oX2_compares_30 ?_
            refine st_goto oX2_compares_31 ?_
            exact st_zret oX2_compares_35 (Or.inr rfl) h
          · have h := h.2 g
            refine st_const oX2_compares_34 ?_
            exact st_zret oX2_compares_35 (Or.inl rfl) h
theorem bX2_sum_0 {d : Nat} {Q : pR → pM → Prop} {c s : Nat} {M : pM} {l0 : Nat} {l1 : Int32} (h : pK M l0 = (1, 2) ∧ pCall_i d mX2_product (0, 0) [.ref l0, .int l1] M (fun v1 M1 => Go d mX2_sum Q 8 ([some (.ref l0), some (.int l1), some (.int v1), some (.int 0), none], [], c, s) M1)) : Go d mX2_sum Q 0 ([some (.ref l0), some (.int l1), none, none, none], [], c, s) M := by
  refine st_aload oX2_sum_0 rfl ?_
  refine st_iload oX2_sum_1 rfl ?_
  obtain ⟨hK, h⟩ := h
  refine st_callV0_i [.int l1] oX2_sum_2 rfl rfl hK (ps8 rfl) (pCall_i.mono h (fun v1 M1 h => ?_))
  refine st_istore (L2 := [some (.ref l0), some (.int l1), some (.int v1), none, none]) oX2_sum_5 (by decide) rfl rfl ?_
  refine st_const oX2_sum_6 ?_
  refine st_istore (L2 := [some (.ref l0), some (.int l1), some (.int v1), some (.int 0), none]) oX2_sum_7 (by decide) rfl rfl ?_
  exact h
theorem bX2_sum_8 {d : Nat} {Q : pR → pM → Prop} {c s : Nat} {M : pM} {l0 : Nat} {l1 : Int32} {l2 : Int32} {l3 : Int32} (h : ((400 ≤ l3 → (l2 = 0 ∨ l2 = 1) ∧ Q (.inl (some (.int l2))) M) ∧ (¬ 400 ≤ l3 → ((l2 = 0 → (l2 = 0 ∨ l2 = 1) ∧ Q (.inl (some (.int l2))) M) ∧ (¬ l2 = 0 → pK M l0 = (1, 2) ∧ pCall_i d mX2_is (0, 0) [.ref l0, .int 43] M (fun v1 M1 => ((v1 = 0 → pK M1 l0 = (1, 2) ∧ pCall_i d mX2_is (0, 0) [.ref l0, .int 45] M1 (fun v2 M2 => ((v2 = 0 → (l2 = 0 ∨ l2 = 1) ∧ Q (.inl (some (.int l2))) M2) ∧ (¬ v2 = 0 → Go d mX2_sum Q 37 ([some (.ref l0), some (.int l1), none, some (.int l3), none], [], c, s) M2)))) ∧ (¬ v1 = 0 → Go d mX2_sum Q 37 ([some (.ref l0), some (.int l1), none, some (.int l3), none], [], c, s) M1)))))))) : Go d mX2_sum Q 8 ([some (.ref l0), some (.int l1), some (.int l2), some (.int l3), none], [], c, s) M := by
  refine st_iload oX2_sum_8 rfl ?_
  refine st_const oX2_sum_9 ?_
  refine st_icmp oX2_sum_12 (fun g => ?_) (fun g => ?_)
  · have h := h.1 g
    refine st_iload oX2_sum_89 rfl ?_
    exact st_zret oX2_sum_90 h.1 h.2
  · have h := h.2 g
    refine st_iload oX2_sum_15 rfl ?_
    refine st_if oX2_sum_16 (fun g => ?_) (fun g => ?_)
    · have h := h.1 g
      refine st_iload oX2_sum_89 rfl ?_
      exact st_zret oX2_sum_90 h.1 h.2
    · have h := h.2 g
      refine st_aload oX2_sum_19 rfl ?_
      refine st_const oX2_sum_20 ?_
      obtain ⟨hK, h⟩ := h
      refine st_callV0_i [.int 43] oX2_sum_22 rfl rfl hK (ps8 rfl) (pCall_i.mono h (fun v1 M1 h => ?_))
      refine st_if oX2_sum_25 (fun g => ?_) (fun g => ?_)
      · have h := h.1 g
        refine st_aload oX2_sum_28 rfl ?_
        refine st_const oX2_sum_29 ?_
        obtain ⟨hK, h⟩ := h
        refine st_callV0_i [.int 45] oX2_sum_31 rfl rfl hK (ps8 rfl) (pCall_i.mono h (fun v2 M2 h => ?_))
        refine st_if oX2_sum_34 (fun g => ?_) (fun g => ?_)
        · have h := h.1 g
          refine st_iload oX2_sum_89 rfl ?_
          exact st_zret oX2_sum_90 h.1 h.2
        · have h := h.2 g
          exact Go.wk (L := [some (.ref l0), some (.int l1), none, some (.int l3), none]) (And.intro (Or.inr rfl) (And.intro (Or.inr rfl) (And.intro (Or.inl rfl) (And.intro (Or.inr rfl) (And.intro (Or.inr rfl) True.intro))))) h
      · have h := h.2 g
        exact Go.wk (L := [some (.ref l0), some (.int l1), none, some (.int l3), none]) (And.intro (Or.inr rfl) (And.intro (Or.inr rfl) (And.intro (Or.inl rfl) (And.intro (Or.inr rfl) (And.intro (Or.inr rfl) True.intro))))) h
theorem bX2_sum_37 {d : Nat} {Q : pR → pM → Prop} {c s : Nat} {M : pM} {l0 : Nat} {l1 : Int32} {l3 : Int32} (h : pK M l0 = (1, 2) ∧ ∃ b1 : Nat, pP M l0 1 = b1 + 1 ∧ pK M l0 = (1, 2) ∧ pK M b1 = (1, 9) ∧ pCall_i d mX9_at (0, 0) [.ref b1, .int (pI M l0 4)] M (fun v1 M1 => pK M1 l0 = (1, 2) ∧ pCall_i d mX2_skip (0, 0) [.ref l0, .int v1] M1 (fun v2 M2 => ((v2 = 0 → Go d mX2_sum Q 71 ([some (.ref l0), some (.int l1), none, some (.int l3), some (.int v1)], [], c, s) M2) ∧ (¬ v2 = 0 → pK M2 l0 = (1, 2) ∧ pCall_i d mX2_product (0, 0) [.ref l0, .int l1] M2 (fun v3 M3 => ((v3 = 0 → Go d mX2_sum Q 71 ([some (.ref l0), some (.int l1), none, some (.int l3), some (.int v1)], [], c, s) M3) ∧ (¬ v3 = 0 → pK M3 l0 = (1, 2) ∧ ∃ b2 : Nat, pP M3 l0 3 = b2 + 1 ∧ pK M3 b2 = (1, 1) ∧ pCall_v d mX1_addStep (0, 0) [.ref b2, .int v1, .int 0] M3 (fun M4 => Go d mX2_sum Q 8 ([some (.ref l0), some (.int l1), some (.int 1), some (.int (l3 + 1)), none], [], c, s) M4))))))))) : Go d mX2_sum Q 37 ([some (.ref l0), some (.int l1), none, some (.int l3), none], [], c, s) M := by
  refine st_aload oX2_sum_37 rfl ?_
  obtain ⟨hK, b1, hP, h⟩ := h
  refine st_getP oX2_sum_38 hK hP ?_
  refine st_aload oX2_sum_41 rfl ?_
  obtain ⟨hK, h⟩ := h
  refine st_getI oX2_sum_42 hK ?_
  obtain ⟨hK, h⟩ := h
  refine st_callV0_i [.int (pI M l0 4)] oX2_sum_45 rfl rfl hK (ps8 rfl) (pCall_i.mono h (fun v1 M1 h => ?_))
  refine st_istore (L2 := [some (.ref l0), some (.int l1), none, some (.int l3), some (.int v1)]) oX2_sum_48 (by decide) rfl rfl ?_
  refine st_aload oX2_sum_50 rfl ?_
  refine st_iload oX2_sum_51 rfl ?_
  obtain ⟨hK, h⟩ := h
  refine st_callV0_i [.int v1] oX2_sum_53 rfl rfl hK (ps8 rfl) (pCall_i.mono h (fun v2 M2 h => ?_))
  refine st_if oX2_sum_56 (fun g => ?_) (fun g => ?_)
  · have h := h.1 g
    exact h
  · have h := h.2 g
    refine st_aload oX2_sum_59 rfl ?_
    refine st_iload oX2_sum_60 rfl ?_
    obtain ⟨hK, h⟩ := h
    refine st_callV0_i [.int l1] oX2_sum_61 rfl rfl hK (ps8 rfl) (pCall_i.mono h (fun v3 M3 h => ?_))
    refine st_if oX2_sum_64 (fun g => ?_) (fun g => ?_)
    · have h := h.1 g
      exact h
    · have h := h.2 g
      refine st_const oX2_sum_67 ?_
      refine st_goto oX2_sum_68 ?_
      refine st_istore (L2 := [some (.ref l0), some (.int l1), some (.int 1), some (.int l3), some (.int v1)]) oX2_sum_72 (by decide) rfl rfl ?_
      refine st_aload oX2_sum_73 rfl ?_
      obtain ⟨hK, b2, hP, h⟩ := h
      refine st_getP oX2_sum_74 hK hP ?_
      refine st_iload oX2_sum_77 rfl ?_
      refine st_const oX2_sum_79 ?_
      obtain ⟨hK, h⟩ := h
      refine st_callV0_v [.int v1, .int 0] oX2_sum_80 rfl rfl hK (ps8 rfl) (pCall_v.mono h (fun M4 h => ?_))
      refine st_iinc (L2 := [some (.ref l0), some (.int l1), some (.int 1), some (.int (l3 + 1)), some (.int v1)]) oX2_sum_83 rfl (by decide) rfl rfl ?_
      refine st_goto oX2_sum_86 ?_
      exact Go.wk (L := [some (.ref l0), some (.int l1), some (.int 1), some (.int (l3 + 1)), none]) (And.intro (Or.inr rfl) (And.intro (Or.inr rfl) (And.intro (Or.inr rfl) (And.intro (Or.inr rfl) (And.intro (Or.inl rfl) True.intro))))) h
theorem bX2_sum_71 {d : Nat} {Q : pR → pM → Prop} {c s : Nat} {M : pM} {l0 : Nat} {l1 : Int32} {l3 : Int32} {l4 : Int32} (h : pK M l0 = (1, 2) ∧ ∃ b1 : Nat, pP M l0 3 = b1 + 1 ∧ pK M b1 = (1, 1) ∧ pCall_v d mX1_addStep (0, 0) [.ref b1, .int l4, .int 0] M (fun M1 => Go d mX2_sum Q 8 ([some (.ref l0), some (.int l1), some (.int 0), some (.int (l3 + 1)), none], [], c, s) M1)) : Go d mX2_sum Q 71 ([some (.ref l0), some (.int l1), none, some (.int l3), some (.int l4)], [], c, s) M := by
  refine st_const oX2_sum_71 ?_
  refine st_istore (L2 := [some (.ref l0), some (.int l1), some (.int 0), some (.int l3), some (.int l4)]) oX2_sum_72 (by decide) rfl rfl ?_
  refine st_aload oX2_sum_73 rfl ?_
  obtain ⟨hK, b1, hP, h⟩ := h
  refine st_getP oX2_sum_74 hK hP ?_
  refine st_iload oX2_sum_77 rfl ?_
  refine st_const oX2_sum_79 ?_
  obtain ⟨hK, h⟩ := h
  refine st_callV0_v [.int l4, .int 0] oX2_sum_80 rfl rfl hK (ps8 rfl) (pCall_v.mono h (fun M1 h => ?_))
  refine st_iinc (L2 := [some (.ref l0), some (.int l1), some (.int 0), some (.int (l3 + 1)), some (.int l4)]) oX2_sum_83 rfl (by decide) rfl rfl ?_
  refine st_goto oX2_sum_86 ?_
  exact Go.wk (L := [some (.ref l0), some (.int l1), some (.int 0), some (.int (l3 + 1)), none]) (And.intro (Or.inr rfl) (And.intro (Or.inr rfl) (And.intro (Or.inr rfl) (And.intro (Or.inr rfl) (And.intro (Or.inl rfl) True.intro))))) h
theorem bX2_product_0 {d : Nat} {Q : pR → pM → Prop} {c s : Nat} {M : pM} {l0 : Nat} {l1 : Int32} (h : pK M l0 = (1, 2) ∧ pCall_i d mX2_value (0, 0) [.ref l0, .int l1] M (fun v1 M1 => Go d mX2_product Q 8 ([some (.ref l0), some (.int l1), some (.int v1), some (.int 0), none], [], c, s) M1)) : Go d mX2_product Q 0 ([some (.ref l0), some (.int l1), none, none, none], [], c, s) M := by
  refine st_aload oX2_product_0 rfl ?_
  refine st_iload oX2_product_1 rfl ?_
  obtain ⟨hK, h⟩ := h
  refine st_callV0_i [.int l1] oX2_product_2 rfl rfl hK (ps8 rfl) (pCall_i.mono h (fun v1 M1 h => ?_))
  refine st_istore (L2 := [some (.ref l0), some (.int l1), some (.int v1), none, none]) oX2_product_5 (by decide) rfl rfl ?_
  refine st_const oX2_product_6 ?_
  refine st_istore (L2 := [some (.ref l0), some (.int l1), some (.int v1), some (.int 0), none]) oX2_product_7 (by decide) rfl rfl ?_
  exact h
theorem bX2_product_8 {d : Nat} {Q : pR → pM → Prop} {c s : Nat} {M : pM} {l0 : Nat} {l1 : Int32} {l2 : Int32} {l3 : Int32} (h : ((400 ≤ l3 → (l2 = 0 ∨ l2 = 1) ∧ Q (.inl (some (.int l2))) M) ∧ (¬ 400 ≤ l3 → ((l2 = 0 → (l2 = 0 ∨ l2 = 1) ∧ Q (.inl (some (.int l2))) M) ∧ (¬ l2 = 0 → pK M l0 = (1, 2) ∧ pCall_i d mX2_is (0, 0) [.ref l0, .int 42] M (fun v1 M1 => ((v1 = 0 → pK M1 l0 = (1, 2) ∧ pCall_i d mX2_is (0, 0) [.ref l0, .int 47] M1 (fun v2 M2 => ((v2 = 0 → (l2 = 0 ∨ l2 = 1) ∧ Q (.inl (some (.int l2))) M2) ∧ (¬ v2 = 0 → Go d mX2_product Q 37 ([some (.ref l0), some (.int l1), none, some (.int l3), none], [], c, s) M2)))) ∧ (¬ v1 = 0 → Go d mX2_product Q 37 ([some (.ref l0), some (.int l1), none, some (.int l3), none], [], c, s) M1)))))))) : Go d mX2_product Q 8 ([some (.ref l0), some (.int l1), some (.int l2), some (.int l3), none], [], c, s) M := by
  refine st_iload oX2_product_8 rfl ?_
  refine st_const oX2_product_9 ?_
  refine st_icmp oX2_product_12 (fun g => ?_) (fun g => ?_)
  · have h := h.1 g
    refine st_iload oX2_product_89 rfl ?_
    exact st_zret oX2_product_90 h.1 h.2
  · have h := h.2 g
    refine st_iload oX2_product_15 rfl ?_
    refine st_if oX2_product_16 (fun g => ?_) (fun g => ?_)
    · have h := h.1 g
      refine st_iload oX2_product_89 rfl ?_
      exact st_zret oX2_product_90 h.1 h.2
    · have h := h.2 g
      refine st_aload oX2_product_19 rfl ?_
      refine st_const oX2_product_20 ?_
      obtain ⟨hK, h⟩ := h
      refine st_callV0_i [.int 42] oX2_product_22 rfl rfl hK (ps8 rfl) (pCall_i.mono h (fun v1 M1 h => ?_))
      refine st_if oX2_product_25 (fun g => ?_) (fun g => ?_)
      · have h := h.1 g
        refine st_aload oX2_product_28 rfl ?_
        refine st_const oX2_product_29 ?_
        obtain ⟨hK, h⟩ := h
        refine st_callV0_i [.int 47] oX2_product_31 rfl rfl hK (ps8 rfl) (pCall_i.mono h (fun v2 M2 h => ?_))
        refine st_if oX2_product_34 (fun g => ?_) (fun g => ?_)
        · have h := h.1 g
          refine st_iload oX2_product_89 rfl ?_
          exact st_zret oX2_product_90 h.1 h.2
        · have h := h.2 g
          exact Go.wk (L := [some (.ref l0), some (.int l1), none, some (.int l3), none]) (And.intro (Or.inr rfl) (And.intro (Or.inr rfl) (And.intro (Or.inl rfl) (And.intro (Or.inr rfl) (And.intro (Or.inr rfl) True.intro))))) h
      · have h := h.2 g
        exact Go.wk (L := [some (.ref l0), some (.int l1), none, some (.int l3), none]) (And.intro (Or.inr rfl) (And.intro (Or.inr rfl) (And.intro (Or.inl rfl) (And.intro (Or.inr rfl) (And.intro (Or.inr rfl) True.intro))))) h
theorem bX2_product_37 {d : Nat} {Q : pR → pM → Prop} {c s : Nat} {M : pM} {l0 : Nat} {l1 : Int32} {l3 : Int32} (h : pK M l0 = (1, 2) ∧ ∃ b1 : Nat, pP M l0 1 = b1 + 1 ∧ pK M l0 = (1, 2) ∧ pK M b1 = (1, 9) ∧ pCall_i d mX9_at (0, 0) [.ref b1, .int (pI M l0 4)] M (fun v1 M1 => pK M1 l0 = (1, 2) ∧ pCall_i d mX2_skip (0, 0) [.ref l0, .int v1] M1 (fun v2 M2 => ((v2 = 0 → Go d mX2_product Q 71 ([some (.ref l0), some (.int l1), none, some (.int l3), some (.int v1)], [], c, s) M2) ∧ (¬ v2 = 0 → pK M2 l0 = (1, 2) ∧ pCall_i d mX2_value (0, 0) [.ref l0, .int l1] M2 (fun v3 M3 => ((v3 = 0 → Go d mX2_product Q 71 ([some (.ref l0), some (.int l1), none, some (.int l3), some (.int v1)], [], c, s) M3) ∧ (¬ v3 = 0 → pK M3 l0 = (1, 2) ∧ ∃ b2 : Nat, pP M3 l0 3 = b2 + 1 ∧ pK M3 b2 = (1, 1) ∧ pCall_v d mX1_addStep (0, 0) [.ref b2, .int v1, .int 0] M3 (fun M4 => Go d mX2_product Q 8 ([some (.ref l0), some (.int l1), some (.int 1), some (.int (l3 + 1)), none], [], c, s) M4))))))))) : Go d mX2_product Q 37 ([some (.ref l0), some (.int l1), none, some (.int l3), none], [], c, s) M := by
  refine st_aload oX2_product_37 rfl ?_
  obtain ⟨hK, b1, hP, h⟩ := h
  refine st_getP oX2_product_38 hK hP ?_
  refine st_aload oX2_product_41 rfl ?_
  obtain ⟨hK, h⟩ := h
  refine st_getI oX2_product_42 hK ?_
  obtain ⟨hK, h⟩ := h
  refine st_callV0_i [.int (pI M l0 4)] oX2_product_45 rfl rfl hK (ps8 rfl) (pCall_i.mono h (fun v1 M1 h => ?_))
  refine st_istore (L2 := [some (.ref l0), some (.int l1), none, some (.int l3), some (.int v1)]) oX2_product_48 (by decide) rfl rfl ?_
  refine st_aload oX2_product_50 rfl ?_
  refine st_iload oX2_product_51 rfl ?_
  obtain ⟨hK, h⟩ := h
  refine st_callV0_i [.int v1] oX2_product_53 rfl rfl hK (ps8 rfl) (pCall_i.mono h (fun v2 M2 h => ?_))
  refine st_if oX2_product_56 (fun g => ?_) (fun g => ?_)
  · have h := h.1 g
    exact h
  · have h := h.2 g
    refine st_aload oX2_product_59 rfl ?_
    refine st_iload oX2_product_60 rfl ?_
    obtain ⟨hK, h⟩ := h
    refine st_callV0_i [.int l1] oX2_product_61 rfl rfl hK (ps8 rfl) (pCall_i.mono h (fun v3 M3 h => ?_))
    refine st_if oX2_product_64 (fun g => ?_) (fun g => ?_)
    · have h := h.1 g
      exact h
    · have h := h.2 g
      refine st_const oX2_product_67 ?_
      refine st_goto oX2_product_68 ?_
      refine st_istore (L2 := [some (.ref l0), some (.int l1), some (.int 1), some (.int l3), some (.int v1)]) oX2_product_72 (by decide) rfl rfl ?_
      refine st_aload oX2_product_73 rfl ?_
      obtain ⟨hK, b2, hP, h⟩ := h
      refine st_getP oX2_product_74 hK hP ?_
      refine st_iload oX2_product_77 rfl ?_
      refine st_const oX2_product_79 ?_
      obtain ⟨hK, h⟩ := h
      refine st_callV0_v [.int v1, .int 0] oX2_product_80 rfl rfl hK (ps8 rfl) (pCall_v.mono h (fun M4 h => ?_))
      refine st_iinc (L2 := [some (.ref l0), some (.int l1), some (.int 1), some (.int (l3 + 1)), some (.int v1)]) oX2_product_83 rfl (by decide) rfl rfl ?_
      refine st_goto oX2_product_86 ?_
      exact Go.wk (L := [some (.ref l0), some (.int l1), some (.int 1), some (.int (l3 + 1)), none]) (And.intro (Or.inr rfl) (And.intro (Or.inr rfl) (And.intro (Or.inr rfl) (And.intro (Or.inr rfl) (And.intro (Or.inl rfl) True.intro))))) h
theorem bX2_product_71 {d : Nat} {Q : pR → pM → Prop} {c s : Nat} {M : pM} {l0 : Nat} {l1 : Int32} {l3 : Int32} {l4 : Int32} (h : pK M l0 = (1, 2) ∧ ∃ b1 : Nat, pP M l0 3 = b1 + 1 ∧ pK M b1 = (1, 1) ∧ pCall_v d mX1_addStep (0, 0) [.ref b1, .int l4, .int 0] M (fun M1 => Go d mX2_product Q 8 ([some (.ref l0), some (.int l1), some (.int 0), some (.int (l3 + 1)), none], [], c, s) M1)) : Go d mX2_product Q 71 ([some (.ref l0), some (.int l1), none, some (.int l3), some (.int l4)], [], c, s) M := by
  refine st_const oX2_product_71 ?_
  refine st_istore (L2 := [some (.ref l0), some (.int l1), some (.int 0), some (.int l3), some (.int l4)]) oX2_product_72 (by decide) rfl rfl ?_
  refine st_aload oX2_product_73 rfl ?_
  obtain ⟨hK, b1, hP, h⟩ := h
  refine st_getP oX2_product_74 hK hP ?_
  refine st_iload oX2_product_77 rfl ?_
  refine st_const oX2_product_79 ?_
  obtain ⟨hK, h⟩ := h
  refine st_callV0_v [.int l4, .int 0] oX2_product_80 rfl rfl hK (ps8 rfl) (pCall_v.mono h (fun M1 h => ?_))
  refine st_iinc (L2 := [some (.ref l0), some (.int l1), some (.int 0), some (.int (l3 + 1)), some (.int l4)]) oX2_product_83 rfl (by decide) rfl rfl ?_
  refine st_goto oX2_product_86 ?_
  exact Go.wk (L := [some (.ref l0), some (.int l1), some (.int 0), some (.int (l3 + 1)), none]) (And.intro (Or.inr rfl) (And.intro (Or.inr rfl) (And.intro (Or.inr rfl) (And.intro (Or.inr rfl) (And.intro (Or.inl rfl) True.intro))))) h
theorem bX2_value_0 {d : Nat} {Q : pR → pM → Prop} {c s : Nat} {M : pM} {l0 : Nat} {l1 : Int32} (h : pK M l0 = (1, 2) ∧ ∃ b1 : Nat, pP M l0 1 = b1 + 1 ∧ pK M l0 = (1, 2) ∧ pK M b1 = (1, 9) ∧ pCall_i d mX9_at (0, 0) [.ref b1, .int (pI M l0 4)] M (fun v1 M1 => ((v1 = 2 → pK M1 l0 = (1, 2) ∧ ∃ b2 : Nat, pP M1 l0 3 = b2 + 1 ∧ pK M1 l0 = (1, 2) ∧ pK M1 b2 = (1, 1) ∧ pCall_v d mX1_addStep (0, 0) [.ref b2, .int v1, .int ((pI M1 l0 4) + 1)] M1 (fun M2 => pK M2 l0 = (1, 2) ∧ pCall_i d mX2_skip (0, 0) [.ref l0, .int v1] M2 (fun v2 M3 => ((v2 = 0 → Q (.inl (some (.int 0))) M3) ∧ (¬ v2 = 0 → pK M3 l0 = (1, 2) ∧ pCall_i d mX2_skip (0, 0) [.ref l0, .int 20] M3 (fun v3 M4 => ((v3 = 0 → Q (.inl (some (.int 0))) M4) ∧ (¬ v3 = 0 → Q (.inl (some (.int 1))) M4)))))))) ∧ (¬ v1 = 2 → ((v1 = 8 → Go d mX2_value Q 133 ([some (.ref l0), none, some (.int v1)], [], c, s) M1) ∧ (¬ v1 = 8 → ((v1 = 9 → Go d mX2_value Q 133 ([some (.ref l0), none, some (.int v1)], [], c, s) M1) ∧ (¬ v1 = 9 → ((v1 = 10 → Go d mX2_value Q 133 ([some (.ref l0), none, some (.int v1)], [], c, s) M1) ∧ (¬ v1 = 10 → ((v1 = 11 → Go d mX2_value Q 133 ([some (.ref l0), none, some (.int v1)], [], c, s) M1) ∧ (¬ v1 = 11 → ((v1 = 17 → Go d mX2_value Q 262 ([some (.ref l0), some (.int l1), some (.int v1)], [], c, s) M1) ∧ (¬ v1 = 17 → ((v1 = 18 → Go d mX2_value Q 262 ([some (.ref l0), some (.int l1), some (.int v1)], [], c, s) M1) ∧ (¬ v1 = 18 → ((v1 = 21 → pK M1 l0 = (1, 2) ∧ ∃ b3 : Nat, pP M1 l0 3 = b3 + 1 ∧ pK M1 l0 = (1, 2) ∧ ∃ b4 : Nat, pP M1 l0 0 = b4 + 1 ∧ pK M1 l0 = (1, 2) ∧ ∃ b5 : Nat, pP M1 l0 2 = b5 + 1 ∧ pK M1 l0 = (1, 2) ∧ pK M1 b4 = (1, 10) ∧ pCall_i d mX10_number (0, 0) [.ref b4, .ref b5, .int (pI M1 l0 4)] M1 (fun v4 M5 => pK M5 b3 = (1, 1) ∧ pCall_v d mX1_addStep (0, 0) [.ref b3, .int v1, .int v4] M5 (fun M6 => pK M6 l0 = (1, 2) ∧ pCall_i d mX2_skip (0, 0) [.ref l0, .int v1] M6 (fun v5 M7 => (v5 = 0 ∨ v5 = 1) ∧ Q (.inl (some (.int v5))) M7)))) ∧ (¬ v1 = 21 → ((v1 = 40 → ((8 ≤ l1 → Q (.inl (some (.int 0))) M1) ∧ (¬ 8 ≤ l1 → pK M1 l0 = (1, 2) ∧ pCall_i d mX2_skip (0, 0) [.ref l0, .int v1] M1 (fun v6 M8 => ((v6 = 0 → Q (.inl (some (.int 0))) M8) ∧ (¬ v6 = 0 → pK M8 l0 = (1, 2) ∧ pCall_i d mX2_sum (0, 0) [.ref l0, .int (l1 + 1)] M8 (fun v7 M9 => ((v7 = 0 → Q (.inl (some (.int 0))) M9) ∧ (¬ v7 = 0 → pK M9 l0 = (1, 2) ∧ pCall_i d mX2_skip (0, 0) [.ref l0, .int 41] M9 (fun v8 M10 => ((v8 = 0 → Q (.inl (some (.int 0))) M10) ∧ (¬ v8 = 0 → Q (.inl (some (.int 1))) M10)))))))))))) ∧ (¬ v1 = 40 → ((v1 = 45 → ((8 ≤ l1 → Q (.inl (some (.int 0))) M1) ∧ (¬ 8 ≤ l1 → pK M1 l0 = (1, 2) ∧ pCall_i d mX2_skip (0, 0) [.ref l0, .int v1] M1 (fun v9 M11 => ((v9 = 0 → Q (.inl (some (.int 0))) M11) ∧ (¬ v9 = 0 → pK M11 l0 = (1, 2) ∧ pCall_i d mX2_value (0, 0) [.ref l0, .int (l1 + 1)] M11 (fun v10 M12 => ((v10 = 0 → Q (.inl (some (.int 0))) M12) ∧ (¬ v10 = 0 → pK M12 l0 = (1, 2) ∧ ∃ b6 : Nat, pP M12 l0 3 = b6 + 1 ∧ pK M12 b6 = (1, 1) ∧ pCall_v d mX1_addStep (0, 0) [.ref b6, .int 30, .int 0] M12 (fun M13 => Q (.inl (some (.int 1))) M13)))))))))) ∧ (¬ v1 = 45 → Q (.inl (some (.int 0))) M1)))))))))))))))))))))) : Go d mX2_value Q 0 ([some (.ref l0), some (.int l1), none], [], c, s) M := by
  refine st_aload oX2_value_0 rfl ?_
  obtain ⟨hK, b1, hP, h⟩ := h
  refine st_getP oX2_value_1 hK hP ?_
  refine st_aload oX2_value_4 rfl ?_
  obtain ⟨hK, h⟩ := h
  refine st_getI oX2_value_5 hK ?_
  obtain ⟨hK, h⟩ := h
  refine st_callV0_i [.int (pI M l0 4)] oX2_value_8 rfl rfl hK (ps8 rfl) (pCall_i.mono h (fun v1 M1 h => ?_))
  refine st_istore (L2 := [some (.ref l0), some (.int l1), some (.int v1)]) oX2_value_11 (by decide) rfl rfl ?_
  refine st_iload oX2_value_12 rfl ?_
  refine st_sw oX2_value_13 ?_
  refine And.intro (fun g => ?_) (fun g => ?_)
  · have h := h.1 g
    refine st_aload oX2_value_148 rfl ?_
    obtain ⟨hK, b2, hP, h⟩ := h
    refine st_getP oX2_value_149 hK hP ?_
    refine st_iload oX2_value_152 rfl ?_
    refine st_aload oX2_value_153 rfl ?_
    obtain ⟨hK, h⟩ := h
    refine st_getI oX2_value_154 hK ?_
    refine st_const oX2_value_157 ?_
    refine st_ibin oX2_value_158 ?_
    obtain ⟨hK, h⟩ := h
    refine st_callV0_v [.int v1, .int ((pI M1 l0 4) + 1)] oX2_value_159 rfl rfl hK (ps8 rfl) (pCall_v.mono h (fun M2 h => ?_))
    refine st_aload oX2_value_162 rfl ?_
    refine st_iload oX2_value_163 rfl ?_
    obtain ⟨hK, h⟩ := h
    refine st_callV0_i [.int v1] oX2_value_164 rfl rfl hK (ps8 rfl) (pCall_i.mono h (fun v2 M3 h => ?_))
    refine st_if oX2_value_167 (fun g => ?_) (fun g => ?_)
    · have h := h.1 g
      refine st_const oX2_value_183 ?_
      exact st_zret oX2_value_184 (Or.inl rfl) h
    · have h := h.2 g
      refine st_aload oX2_value_170 rfl ?_
      refine st_const oX2_value_171 ?_
      obtain ⟨hK, h⟩ := h
      refine st_callV0_i [.int 20] oX2_value_173 rfl rfl hK (ps8 rfl) (pCall_i.mono h (fun v3 M4 h => ?_))
      refine st_if oX2_value_176 (fun g => ?_) (fun g => ?_)
      · have h := h.1 g
        refine st_const oX2_value_183 ?_
        exact st_zret oX2_value_184 (Or.inl rfl) h
      · have h := h.2 g
        refine st_const oX2_value_179 ?_
        refine st_goto oX2_value_180 ?_
        exact st_zret oX2_value_184 (Or.inr rfl) h
  · have h := h.2 g
    refine And.intro (fun g => ?_) (fun g => ?_)
    · have h := h.1 g
      exact Go.wk (L := [some (.ref l0), none, some (.int v1)]) (And.intro (Or.inr rfl) (And.intro (Or.inl rfl) (And.intro (Or.inr rfl) True.intro))) h
    · have h := h.2 g
      refine And.intro (fun g => ?_) (fun g => ?_)
      · have h := h.1 g
        exact Go.wk (L := [some (.ref l0), none, some (.int v1)]) (And.intro (Or.inr rfl) (And.intro (Or.inl rfl) (And.intro (Or.inr rfl) True.intro))) h
      · have h := h.2 g
        refine And.intro (fun g => ?_) (fun g => ?_)
        · have h := h.1 g
          exact Go.wk (L := [some (.ref l0), none, some (.int v1)]) (And.intro (Or.inr rfl) (And.intro (Or.inl rfl) (And.intro (Or.inr rfl) True.intro))) h
        · have h := h.2 g
          refine And.intro (fun g => ?_) (fun g => ?_)
          · have h := h.1 g
            exact Go.wk (L := [some (.ref l0), none, some (.int v1)]) (And.intro (Or.inr rfl) (And.intro (Or.inl rfl) (And.intro (Or.inr rfl) True.intro))) h
          · have h := h.2 g
            refine And.intro (fun g => ?_) (fun g => ?_)
            · have h := h.1 g
              exact h
            · have h := h.2 g
              refine And.intro (fun g => ?_) (fun g => ?_)
              · have h := h.1 g
                exact h
              · have h := h.2 g
                refine And.intro (fun g => ?_) (fun g => ?_)
                · have h := h.1 g
                  refine st_aload oX2_value_104 rfl ?_
                  obtain ⟨hK, b3, hP, h⟩ := h
                  refine st_getP oX2_value_105 hK hP ?_
                  refine st_iload oX2_value_108 rfl ?_
                  refine st_aload oX2_value_109 rfl ?_
                  obtain ⟨hK, b4, hP, h⟩ := h
                  refine st_getP oX2_value_110 hK hP ?_
                  refine st_aload oX2_value_113 rfl ?_
                  obtain ⟨hK, b5, hP, h⟩ := h
                  refine st_getP oX2_value_114 hK hP ?_
                  refine st_aload oX2_value_117 rfl ?_
                  obtain ⟨hK, h⟩ := h
                  refine st_getI oX2_value_118 hK ?_
                  obtain ⟨hK, h⟩ := h
                  refine st_callV0_i [.ref b5, .int (pI M1 l0 4)] oX2_value_121 rfl rfl hK (ps8 rfl) (pCall_i.mono h (fun v4 M5 h => ?_))
                  obtain ⟨hK, h⟩ := h
                  refine st_callV0_v [.int v1, .int v4] oX2_value_124 rfl rfl hK (ps8 rfl) (pCall_v.mono h (fun M6 h => ?_))
                  refine st_aload oX2_value_127 rfl ?_
                  refine st_iload oX2_value_128 rfl ?_
                  obtain ⟨hK, h⟩ := h
                  refine st_callV0_i [.int v1] oX2_value_129 rfl rfl hK (ps8 rfl) (pCall_i.mono h (fun v5 M7 h => ?_))
                  exact st_zret oX2_value_132 h.1 h.2
                · have h := h.2 g
                  refine And.intro (fun g => ?_) (fun g => ?_)
                  · have h := h.1 g
                    refine st_iload oX2_value_223 rfl ?_
                    refine st_const oX2_value_224 ?_
                    refine st_icmp oX2_value_226 (fun g => ?_) (fun g => ?_)
                    · have h := h.1 g
                      refine st_const oX2_value_260 ?_
                      exact st_zret oX2_value_261 (Or.inl rfl) h
                    · have h := h.2 g
                      refine st_aload oX2_value_229 rfl ?_
                      refine st_iload oX2_value_230 rfl ?_
                      obtain ⟨hK, h⟩ := h
                      refine st_callV0_i [.int v1] oX2_value_231 rfl rfl hK (ps8 rfl) (pCall_i.mono h (fun v6 M8 h => ?_))
                      refine st_if oX2_value_234 (fun g => ?_) (fun g => ?_)
                      · have h := h.1 g
                        refine st_const oX2_value_260 ?_
                        exact st_zret oX2_value_261 (Or.inl rfl) h
                      · have h := h.2 g
                        refine st_aload oX2_value_237 rfl ?_
                        refine st_iload oX2_value_238 rfl ?_
                        refine st_const oX2_value_239 ?_
                        refine st_ibin oX2_value_240 ?_
                        obtain ⟨hK, h⟩ := h
                        refine st_callV0_i [.int (l1 + 1)] oX2_value_241 rfl rfl hK (ps8 rfl) (pCall_i.mono h (fun v7 M9 h => ?_))
                        refine st_if oX2_value_244 (fun g => ?_) (fun g => ?_)
                        · have h := h.1 g
                          refine st_const oX2_value_260 ?_
                          exact st_zret oX2_value_261 (Or.inl rfl) h
                        · have h := h.2 g
                          refine st_aload oX2_value_247 rfl ?_
                          refine st_const oX2_value_248 ?_
                          obtain ⟨hK, h⟩ := h
                          refine st_callV0_i [.int 41] oX2_value_250 rfl rfl hK (ps8 rfl) (pCall_i.mono h (fun v8 M10 h => ?_))
                          refine st_if oX2_value_253 (fun g => ?_) (fun g => ?_)
                          · have h := h.1 g
                            refine st_const oX2_value_260 ?_
                            exact st_zret oX2_value_261 (Or.inl rfl) h
                          · have h := h.2 g
                            refine st_const oX2_value_256 ?_
                            refine st_goto oX2_value_257 ?_
                            exact st_zret oX2_value_261 (Or.inr rfl) h
                  · have h := h.2 g
                    refine And.intro (fun g => ?_) (fun g => ?_)
                    · have h := h.1 g
                      refine st_iload oX2_value_185 rfl ?_
                      refine st_const oX2_value_186 ?_
                      refine st_icmp oX2_value_188 (fun g => ?_) (fun g => ?_)
                      · have h := h.1 g
                        refine st_const oX2_value_209 ?_
                        exact st_zret oX2_value_210 (Or.inl rfl) h
                      · have h := h.2 g
                        refine st_aload oX2_value_191 rfl ?_
                        refine st_iload oX2_value_192 rfl ?_
                        obtain ⟨hK, h⟩ := h
                        refine st_callV0_i [.int v1] oX2_value_193 rfl rfl hK (ps8 rfl) (pCall_i.mono h (fun v9 M11 h => ?_))
                        refine st_if oX2_value_196 (fun g => ?_) (fun g => ?_)
                        · have h := h.1 g
                          refine st_const oX2_value_209 ?_
                          exact st_zret oX2_value_210 (Or.inl rfl) h
                        · have h := h.2 g
                          refine st_aload oX2_value_199 rfl ?_
                          refine st_iload oX2_value_200 rfl ?_
                          refine st_const oX2_value_201 ?_
                          refine st_ibin oX2_value_202 ?_
                          obtain ⟨hK, h⟩ := h
                          refine st_callV0_i [.int (l1 + 1)] oX2_value_203 rfl rfl hK (ps8 rfl) (pCall_i.mono h (fun v10 M12 h => ?_))
                          refine st_if oX2_value_206 (fun g => ?_) (fun g => ?_)
                          · have h := h.1 g
                            refine st_const oX2_value_209 ?_
                            exact st_zret oX2_value_210 (Or.inl rfl) h
                          · have h := h.2 g
                            refine st_aload oX2_value_211 rfl ?_
                            obtain ⟨hK, b6, hP, h⟩ := h
                            refine st_getP oX2_value_212 hK hP ?_
                            refine st_const oX2_value_215 ?_
                            refine st_const oX2_value_217 ?_
                            obtain ⟨hK, h⟩ := h
                            refine st_callV0_v [.int 30, .int 0] oX2_value_218 rfl rfl hK (ps8 rfl) (pCall_v.mono h (fun M13 h => ?_))
                            refine st_const oX2_value_221 ?_
                            exact st_zret oX2_value_222 (Or.inr rfl) h
                    · have h := h.2 g
                      refine st_const oX2_value_285 ?_
                      exact st_zret oX2_value_286 (Or.inl rfl) h
theorem bX2_value_133 {d : Nat} {Q : pR → pM → Prop} {c s : Nat} {M : pM} {l0 : Nat} {l2 : Int32} (h : pK M l0 = (1, 2) ∧ ∃ b1 : Nat, pP M l0 3 = b1 + 1 ∧ pK M b1 = (1, 1) ∧ pCall_v d mX1_addStep (0, 0) [.ref b1, .int l2, .int 0] M (fun M1 => pK M1 l0 = (1, 2) ∧ pCall_i d mX2_skip (0, 0) [.ref l0, .int l2] M1 (fun v1 M2 => (v1 = 0 ∨ v1 = 1) ∧ Q (.inl (some (.int v1))) M2))) : Go d mX2_value Q 133 ([some (.ref l0), none, some (.int l2)], [], c, s) M := by
  refine st_aload oX2_value_133 rfl ?_
  obtain ⟨hK, b1, hP, h⟩ := h
  refine st_getP oX2_value_134 hK hP ?_
  refine st_iload oX2_value_137 rfl ?_
  refine st_const oX2_value_138 ?_
  obtain ⟨hK, h⟩ := h
  refine st_callV0_v [.int l2, .int 0] oX2_value_139 rfl rfl hK (ps8 rfl) (pCall_v.mono h (fun M1 h => ?_))
  refine st_aload oX2_value_142 rfl ?_
  refine st_iload oX2_value_143 rfl ?_
  obtain ⟨hK, h⟩ := h
  refine st_callV0_i [.int l2] oX2_value_144 rfl rfl hK (ps8 rfl) (pCall_i.mono h (fun v1 M2 h => ?_))
  exact st_zret oX2_value_147 h.1 h.2
theorem bX2_value_262 {d : Nat} {Q : pR → pM → Prop} {c s : Nat} {M : pM} {l0 : Nat} {l1 : Int32} {l2 : Int32} (h : pK M l0 = (1, 2) ∧ pCall_i d mX2_skip (0, 0) [.ref l0, .int l2] M (fun v1 M1 => ((v1 = 0 → Q (.inl (some (.int 0))) M1) ∧ (¬ v1 = 0 → pK M1 l0 = (1, 2) ∧ pCall_i d mX2_ofTwo (0, 0) [.ref l0, .int l2, .int l1] M1 (fun v2 M2 => ((v2 = 0 → Q (.inl (some (.int 0))) M2) ∧ (¬ v2 = 0 → Q (.inl (some (.int 1))) M2))))))) : Go d mX2_value Q 262 ([some (.ref l0), some (.int l1), some (.int l2)], [], c, s) M := by
  refine st_aload oX2_value_262 rfl ?_
  refine st_iload oX2_value_263 rfl ?_
  obtain ⟨hK, h⟩ := h
  refine st_callV0_i [.int l2] oX2_value_264 rfl rfl hK (ps8 rfl) (pCall_i.mono h (fun v1 M1 h => ?_))
  refine st_if oX2_value_267 (fun g => ?_) (fun g => ?_)
  · have h := h.1 g
    refine st_const oX2_value_283 ?_
    exact st_zret oX2_value_284 (Or.inl rfl) h
  · have h := h.2 g
    refine st_aload oX2_value_270 rfl ?_
    refine st_iload oX2_value_271 rfl ?_
    refine st_iload oX2_value_272 rfl ?_
    obtain ⟨hK, h⟩ := h
    refine st_callV0_i [.int l2, .int l1] oX2_value_273 rfl rfl hK (ps8 rfl) (pCall_i.mono h (fun v2 M2 h => ?_))
    refine st_if oX2_value_276 (fun g => ?_) (fun g => ?_)
    · have h := h.1 g
      refine st_const oX2_value_283 ?_
      exact st_zret oX2_value_284 (Or.inl rfl) h
    · have h := h.2 g
      refine st_const oX2_value_279 ?_
      refine st_goto oX2_value_280 ?_
      exact st_zret oX2_value_284 (Or.inr rfl) h
theorem bX2_ofTwo_0 {d : Nat} {Q : pR → pM → Prop} {c s : Nat} {M : pM} {l0 : Nat} {l1 : Int32} {l2 : Int32} (h : ((8 ≤ l2 → Q (.inl (some (.int 0))) M) ∧ (¬ 8 ≤ l2 → pK M l0 = (1, 2) ∧ pCall_i d mX2_skip (0, 0) [.ref l0, .int 40] M (fun v1 M1 => ((v1 = 0 → Q (.inl (some (.int 0))) M1) ∧ (¬ v1 = 0 → pK M1 l0 = (1, 2) ∧ pCall_i d mX2_sum (0, 0) [.ref l0, .int (l2 + 1)] M1 (fun v2 M2 => ((v2 = 0 → Q (.inl (some (.int 0))) M2) ∧ (¬ v2 = 0 → pK M2 l0 = (1, 2) ∧ pCall_i d mX2_skip (0, 0) [.ref l0, .int 44] M2 (fun v3 M3 => ((v3 = 0 → Q (.inl (some (.int 0))) M3) ∧ (¬ v3 = 0 → pK M3 l0 = (1, 2) ∧ pCall_i d mX2_sum (0, 0) [.ref l0, .int (l2 + 1)] M3 (fun v4 M4 => ((v4 = 0 → Q (.inl (some (.int 0))) M4) ∧ (¬ v4 = 0 → pK M4 l0 = (1, 2) ∧ pCall_i d mX2_skip (0, 0) [.ref l0, .int 41] M4 (fun v5 M5 => ((v5 = 0 → Q (.inl (some (.int 0))) M5) ∧ (¬ v5 = 0 → pK M5 l0 = (1, 2) ∧ ∃ b1 : Nat, pP M5 l0 3 = b1 + 1 ∧ pK M5 b1 = (1, 1) ∧ pCall_v d mX1_addStep (0, 0) [.ref b1, .int l1, .int 0] M5 (fun M6 => Q (.inl (some (.int 1))) M6))))))))))))))))))) : Go d mX2_ofTwo Q 0 ([some (.ref l0), some (.int l1), some (.int l2)], [], c, s) M := by
  refine st_iload oX2_ofTwo_0 rfl ?_
  refine st_const oX2_ofTwo_1 ?_
  refine st_icmp oX2_ofTwo_3 (fun g => ?_) (fun g => ?_)
  · have h := h.1 g
    refine st_const oX2_ofTwo_53 ?_
    exact st_zret oX2_ofTwo_54 (Or.inl rfl) h
  · have h := h.2 g
    refine st_aload oX2_ofTwo_6 rfl ?_
    refine st_const oX2_ofTwo_7 ?_
    obtain ⟨hK, h⟩ := h
    refine st_callV0_i [.int 40] oX2_ofTwo_9 rfl rfl hK (ps8 rfl) (pCall_i.mono h (fun v1 M1 h => ?_))
    refine st_if oX2_ofTwo_12 (fun g => ?_) (fun g => ?_)
    · have h := h.1 g
      refine st_const oX2_ofTwo_53 ?_
      exact st_zret oX2_ofTwo_54 (Or.inl rfl) h
    · have h := h.2 g
      refine st_aload oX2_ofTwo_15 rfl ?_
      refine st_iload oX2_ofTwo_16 rfl ?_
      refine st_const oX2_ofTwo_17 ?_
      refine st_ibin oX2_ofTwo_18 ?_
      obtain ⟨hK, h⟩ := h
      refine st_callV0_i [.int (l2 + 1)] oX2_ofTwo_19 rfl rfl hK (ps8 rfl) (pCall_i.mono h (fun v2 M2 h => ?_))
      refine st_if oX2_ofTwo_22 (fun g => ?_) (fun g => ?_)
      · have h := h.1 g
        refine st_const oX2_ofTwo_53 ?_
        exact st_zret oX2_ofTwo_54 (Or.inl rfl) h
      · have h := h.2 g
        refine st_aload oX2_ofTwo_25 rfl ?_
        refine st_const oX2_ofTwo_26 ?_
        obtain ⟨hK, h⟩ := h
        refine st_callV0_i [.int 44] oX2_ofTwo_28 rfl rfl hK (ps8 rfl) (pCall_i.mono h (fun v3 M3 h => ?_))
        refine st_if oX2_ofTwo_31 (fun g => ?_) (fun g => ?_)
        · have h := h.1 g
          refine st_const oX2_ofTwo_53 ?_
          exact st_zret oX2_ofTwo_54 (Or.inl rfl) h
        · have h := h.2 g
          refine st_aload oX2_ofTwo_34 rfl ?_
          refine st_iload oX2_ofTwo_35 rfl ?_
          refine st_const oX2_ofTwo_36 ?_
          refine st_ibin oX2_ofTwo_37 ?_
          obtain ⟨hK, h⟩ := h
          refine st_callV0_i [.int (l2 + 1)] oX2_ofTwo_38 rfl rfl hK (ps8 rfl) (pCall_i.mono h (fun v4 M4 h => ?_))
          refine st_if oX2_ofTwo_41 (fun g => ?_) (fun g => ?_)
          · have h := h.1 g
            refine st_const oX2_ofTwo_53 ?_
            exact st_zret oX2_ofTwo_54 (Or.inl rfl) h
          · have h := h.2 g
            refine st_aload oX2_ofTwo_44 rfl ?_
            refine st_const oX2_ofTwo_45 ?_
            obtain ⟨hK, h⟩ := h
            refine st_callV0_i [.int 41] oX2_ofTwo_47 rfl rfl hK (ps8 rfl) (pCall_i.mono h (fun v5 M5 h => ?_))
            refine st_if oX2_ofTwo_50 (fun g => ?_) (fun g => ?_)
            · have h := h.1 g
              refine st_const oX2_ofTwo_53 ?_
              exact st_zret oX2_ofTwo_54 (Or.inl rfl) h
            · have h := h.2 g
              refine st_aload oX2_ofTwo_55 rfl ?_
              obtain ⟨hK, b1, hP, h⟩ := h
              refine st_getP oX2_ofTwo_56 hK hP ?_
              refine st_iload oX2_ofTwo_59 rfl ?_
              refine st_const oX2_ofTwo_60 ?_
              obtain ⟨hK, h⟩ := h
              refine st_callV0_v [.int l1, .int 0] oX2_ofTwo_61 rfl rfl hK (ps8 rfl) (pCall_v.mono h (fun M6 h => ?_))
              refine st_const oX2_ofTwo_64 ?_
              exact st_zret oX2_ofTwo_65 (Or.inr rfl) h
