theorem bX10_read_0 {d : Nat} {Q : pR → pM → Prop} {c s : Nat} {M : pM} {l0 : Nat} {l1 : Nat} (h : pK M l0 = (1, 10) ∧ ∃ b1 : Nat, pP M l0 1 = b1 + 1 ∧ pK M b1 = (1, 9) ∧ pCall_v d mX9_clear (0, 0) [.ref b1] M (fun M1 => pK M1 l0 = (1, 10) ∧ ∃ b2 : Nat, pP M1 l0 2 = b2 + 1 ∧ pK M1 b2 = (1, 9) ∧ pCall_v d mX9_clear (0, 0) [.ref b2] M1 (fun M2 => pK M2 l0 = (1, 10) ∧ ∃ b3 : Nat, pP M2 l0 3 = b3 + 1 ∧ pK M2 b3 = (1, 9) ∧ pCall_v d mX9_clear (0, 0) [.ref b3] M2 (fun M3 => Go d mX10_read Q 25 ([some (.ref l0), some (.ref l1), some (.int 0), some (.int 0), none, none], [], c, s) M3)))) : Go d mX10_read Q 0 ([some (.ref l0), some (.ref l1), none, none, none, none], [], c, s) M := by
  refine st_aload oX10_read_0 rfl ?_
  obtain ⟨hK, b1, hP, h⟩ := h
  refine st_getP oX10_read_1 hK hP ?_
  obtain ⟨hK, h⟩ := h
  refine st_callV0_v [] oX10_read_4 rfl rfl hK (ps8 rfl) (pCall_v.mono h (fun M1 h => ?_))
  refine st_aload oX10_read_7 rfl ?_
  obtain ⟨hK, b2, hP, h⟩ := h
  refine st_getP oX10_read_8 hK hP ?_
  obtain ⟨hK, h⟩ := h
  refine st_callV0_v [] oX10_read_11 rfl rfl hK (ps8 rfl) (pCall_v.mono h (fun M2 h => ?_))
  refine st_aload oX10_read_14 rfl ?_
  obtain ⟨hK, b3, hP, h⟩ := h
  refine st_getP oX10_read_15 hK hP ?_
  obtain ⟨hK, h⟩ := h
  refine st_callV0_v [] oX10_read_18 rfl rfl hK (ps8 rfl) (pCall_v.mono h (fun M3 h => ?_))
  refine st_const oX10_read_21 ?_
  refine st_istore (L2 := [some (.ref l0), some (.ref l1), some (.int 0), none, none, none]) oX10_read_22 (by decide) rfl rfl ?_
  refine st_const oX10_read_23 ?_
  refine st_istore (L2 := [some (.ref l0), some (.ref l1), some (.int 0), some (.int 0), none, none]) oX10_read_24 (by decide) rfl rfl ?_
  exact h
theorem bX10_read_25 {d : Nat} {Q : pR → pM → Prop} {c s : Nat} {M : pM} {l0 : Nat} {l1 : Nat} {l2 : Int32} {l3 : Int32} (h : ((400 < l3 → Q (.inl none) M) ∧ (¬ 400 < l3 → pCall_i d mX10_skipBlanks (0, 0) [.ref l1, .int l2] M (fun v1 M1 => pCall_i d mX10_lengthAt (0, 0) [.ref l1, .int v1] M1 (fun v2 M2 => pK M2 l0 = (1, 10) ∧ pCall_i d mX10_kindAt (0, 0) [.ref l0, .ref l1, .int v1, .int v2] M2 (fun v3 M3 => ((l3 = 400 → ((v3 = 24 → Go d mX10_read Q 73 ([some (.ref l0), some (.ref l1), some (.int v1), some (.int l3), some (.int v2), some (.int v3)], [], c, s) M3) ∧ (¬ v3 = 24 → Go d mX10_read Q 73 ([some (.ref l0), some (.ref l1), some (.int v1), some (.int l3), some (.int v2), some (.int 25)], [], c, s) M3))) ∧ (¬ l3 = 400 → Go d mX10_read Q 73 ([some (.ref l0), some (.ref l1), some (.int v1), some (.int l3), some (.int v2), some (.int v3)], [], c, s) M3)))))))) : Go d mX10_read Q 25 ([some (.ref l0), some (.ref l1), some (.int l2), some (.int l3), none, none], [], c, s) M := by
  refine st_iload oX10_read_25 rfl ?_
  refine st_const oX10_read_26 ?_
  refine st_icmp oX10_read_29 (fun g => ?_) (fun g => ?_)
  · have h := h.1 g
    exact st_vret oX10_read_125 h
  · have h := h.2 g
    refine st_aload oX10_read_32 rfl ?_
    refine st_iload oX10_read_33 rfl ?_
    refine st_callS0_i [.ref l1, .int l2] oX10_read_34 rfl rfl (ps8 rfl) (pCall_i.mono h (fun v1 M1 h => ?_))
    refine st_istore (L2 := [some (.ref l0), some (.ref l1), some (.int v1), some (.int l3), none, none]) oX10_read_37 (by decide) rfl rfl ?_
    refine st_aload oX10_read_38 rfl ?_
    refine st_iload oX10_read_39 rfl ?_
    refine st_callS0_i [.ref l1, .int v1] oX10_read_40 rfl rfl (ps8 rfl) (pCall_i.mono h (fun v2 M2 h => ?_))
    refine st_istore (L2 := [some (.ref l0), some (.ref l1), some (.int v1), some (.int l3), some (.int v2), none]) oX10_read_43 (by decide) rfl rfl ?_
    refine st_aload oX10_read_45 rfl ?_
    refine st_aload oX10_read_46 rfl ?_
    refine st_iload oX10_read_47 rfl ?_
    refine st_iload oX10_read_48 rfl ?_
    obtain ⟨hK, h⟩ := h
    refine st_callV0_i [.ref l1, .int v1, .int v2] oX10_read_50 rfl rfl hK (ps8 rfl) (pCall_i.mono h (fun v3 M3 h => ?_))
    refine st_istore (L2 := [some (.ref l0), some (.ref l1), some (.int v1), some (.int l3), some (.int v2), some (.int v3)]) oX10_read_53 (by decide) rfl rfl ?_
    refine st_iload oX10_read_55 rfl ?_
    refine st_const oX10_read_56 ?_
    refine st_icmp oX10_read_59 (fun g => ?_) (fun g => ?_)
    · have h := h.1 g
      refine st_iload oX10_read_62 rfl ?_
      refine st_const oX10_read_64 ?_
      refine st_icmp oX10_read_66 (fun g => ?_) (fun g => ?_)
      · have h := h.1 g
        exact h
      · have h := h.2 g
        refine st_const oX10_read_69 ?_
        refine st_istore (L2 := [some (.ref l0), some (.ref l1), some (.int v1), some (.int l3), some (.int v2), some (.int 25)]) oX10_read_71 (by decide) rfl rfl ?_
        exact h
    · have h := h.2 g
      exact h
theorem bX10_read_73 {d : Nat} {Q : pR → pM → Prop} {c s : Nat} {M : pM} {l0 : Nat} {l1 : Nat} {l2 : Int32} {l3 : Int32} {l4 : Int32} {l5 : Int32} (h : pK M l0 = (1, 10) ∧ ∃ b1 : Nat, pP M l0 1 = b1 + 1 ∧ pK M b1 = (1, 9) ∧ pCall_v d mX9_add (0, 0) [.ref b1, .int l5] M (fun M1 => pK M1 l0 = (1, 10) ∧ ∃ b2 : Nat, pP M1 l0 2 = b2 + 1 ∧ pK M1 b2 = (1, 9) ∧ pCall_v d mX9_add (0, 0) [.ref b2, .int l2] M1 (fun M2 => pK M2 l0 = (1, 10) ∧ ∃ b3 : Nat, pP M2 l0 3 = b3 + 1 ∧ pK M2 b3 = (1, 9) ∧ pCall_v d mX9_add (0, 0) [.ref b3, .int l4] M2 (fun M3 => ((l5 = 24 → Q (.inl none) M3) ∧ (¬ l5 = 24 → ((l5 = 25 → Q (.inl none) M3) ∧ (¬ l5 = 25 → Go d mX10_read Q 25 ([some (.ref l0), some (.ref l1), some (.int (l2 + l4)), some (.int (l3 + 1)), none, none], [], c, s) M3)))))))) : Go d mX10_read Q 73 ([some (.ref l0), some (.ref l1), some (.int l2), some (.int l3), some (.int l4), some (.int l5)], [], c, s) M := by
  refine st_aload oX10_read_73 rfl ?_
  obtain ⟨hK, b1, hP, h⟩ := h
  refine st_getP oX10_read_74 hK hP ?_
  refine st_iload oX10_read_77 rfl ?_
  obtain ⟨hK, h⟩ := h
  refine st_callV0_v [.int l5] oX10_read_79 rfl rfl hK (ps8 rfl) (pCall_v.mono h (fun M1 h => ?_))
  refine st_aload oX10_read_82 rfl ?_
  obtain ⟨hK, b2, hP, h⟩ := h
  refine st_getP oX10_read_83 hK hP ?_
  refine st_iload oX10_read_86 rfl ?_
  obtain ⟨hK, h⟩ := h
  refine st_callV0_v [.int l2] oX10_read_87 rfl rfl hK (ps8 rfl) (pCall_v.mono h (fun M2 h => ?_))
  refine st_aload oX10_read_90 rfl ?_
  obtain ⟨hK, b3, hP, h⟩ := h
  refine st_getP oX10_read_91 hK hP ?_
  refine st_iload oX10_read_94 rfl ?_
  obtain ⟨hK, h⟩ := h
  refine st_callV0_v [.int l4] oX10_read_96 rfl rfl hK (ps8 rfl) (pCall_v.mono h (fun M3 h => ?_))
  refine st_iload oX10_read_99 rfl ?_
  refine st_const oX10_read_101 ?_
  refine st_icmp oX10_read_103 (fun g => ?_) (fun g => ?_)
  · have h := h.1 g
    exact st_vret oX10_read_113 h
  · have h := h.2 g
    refine st_iload oX10_read_106 rfl ?_
    refine st_const oX10_read_108 ?_
    refine st_icmp oX10_read_110 (fun g => ?_) (fun g => ?_)
    · have h := h.1 g
      exact st_vret oX10_read_113 h
    · have h := h.2 g
      refine st_iload oX10_read_114 rfl ?_
      refine st_iload oX10_read_115 rfl ?_
      refine st_ibin oX10_read_117 ?_
      refine st_istore (L2 := [some (.ref l0), some (.ref l1), some (.int (l2 + l4)), some (.int l3), some (.int l4), some (.int l5)]) oX10_read_118 (by decide) rfl rfl ?_
      refine st_iinc (L2 := [some (.ref l0), some (.ref l1), some (.int (l2 + l4)), some (.int (l3 + 1)), some (.int l4), some (.int l5)]) oX10_read_119 rfl (by decide) rfl rfl ?_
      refine st_goto oX10_read_122 ?_
      exact Go.wk (L := [some (.ref l0), some (.ref l1), some (.int (l2 + l4)), some (.int (l3 + 1)), none, none]) (And.intro (Or.inr rfl) (And.intro (Or.inr rfl) (And.intro (Or.inr rfl) (And.intro (Or.inr rfl) (And.intro (Or.inl rfl) (And.intro (Or.inl rfl) True.intro)))))) h
theorem bX10_size_0 {d : Nat} {Q : pR → pM → Prop} {c s : Nat} {M : pM} {l0 : Nat} (h : pK M l0 = (1, 10) ∧ ∃ b1 : Nat, pP M l0 1 = b1 + 1 ∧ pK M b1 = (1, 9) ∧ pCall_i d mX9_size (0, 0) [.ref b1] M (fun v1 M1 => Q (.inl (some (.int v1))) M1)) : Go d mX10_size Q 0 ([some (.ref l0)], [], c, s) M := by
  refine st_aload oX10_size_0 rfl ?_
  obtain ⟨hK, b1, hP, h⟩ := h
  refine st_getP oX10_size_1 hK hP ?_
  obtain ⟨hK, h⟩ := h
  refine st_callV0_i [] oX10_size_4 rfl rfl hK (ps8 rfl) (pCall_i.mono h (fun v1 M1 h => ?_))
  exact st_iret oX10_size_7 h
theorem bX10_kind_0 {d : Nat} {Q : pR → pM → Prop} {c s : Nat} {M : pM} {l0 : Nat} {l1 : Int32} (h : pK M l0 = (1, 10) ∧ ∃ b1 : Nat, pP M l0 1 = b1 + 1 ∧ pK M b1 = (1, 9) ∧ pCall_i d mX9_at (0, 0) [.ref b1, .int l1] M (fun v1 M1 => Q (.inl (some (.int v1))) M1)) : Go d mX10_kind Q 0 ([some (.ref l0), some (.int l1)], [], c, s) M := by
  refine st_aload oX10_kind_0 rfl ?_
  obtain ⟨hK, b1, hP, h⟩ := h
  refine st_getP oX10_kind_1 hK hP ?_
  refine st_iload oX10_kind_4 rfl ?_
  obtain ⟨hK, h⟩ := h
  refine st_callV0_i [.int l1] oX10_kind_5 rfl rfl hK (ps8 rfl) (pCall_i.mono h (fun v1 M1 h => ?_))
  exact st_iret oX10_kind_8 h
theorem bX10_start_0 {d : Nat} {Q : pR → pM → Prop} {c s : Nat} {M : pM} {l0 : Nat} {l1 : Int32} (h : pK M l0 = (1, 10) ∧ ∃ b1 : Nat, pP M l0 2 = b1 + 1 ∧ pK M b1 = (1, 9) ∧ pCall_i d mX9_at (0, 0) [.ref b1, .int l1] M (fun v1 M1 => Q (.inl (some (.int v1))) M1)) : Go d mX10_start Q 0 ([some (.ref l0), some (.int l1)], [], c, s) M := by
  refine st_aload oX10_start_0 rfl ?_
  obtain ⟨hK, b1, hP, h⟩ := h
  refine st_getP oX10_start_1 hK hP ?_
  refine st_iload oX10_start_4 rfl ?_
  obtain ⟨hK, h⟩ := h
  refine st_callV0_i [.int l1] oX10_start_5 rfl rfl hK (ps8 rfl) (pCall_i.mono h (fun v1 M1 h => ?_))
  exact st_iret oX10_start_8 h
theorem bX10_spell_0 {d : Nat} {Q : pR → pM → Prop} {c s : Nat} {M : pM} {l0 : Nat} {l1 : Nat} {l2 : Int32} (h : pK M l0 = (1, 10) ∧ ∃ b1 : Nat, pP M l0 4 = b1 + 1 ∧ pK M l0 = (1, 10) ∧ ∃ b2 : Nat, pP M l0 2 = b2 + 1 ∧ pK M b2 = (1, 9) ∧ pCall_i d mX9_at (0, 0) [.ref b2, .int l2] M (fun v1 M1 => pK M1 l0 = (1, 10) ∧ ∃ b3 : Nat, pP M1 l0 3 = b3 + 1 ∧ pK M1 b3 = (1, 9) ∧ pCall_i d mX9_at (0, 0) [.ref b3, .int l2] M1 (fun v2 M2 => pK M2 b1 = (1, 9) ∧ pCall_v d mX9_copy (0, 0) [.ref b1, .ref l1, .int v1, .int v2] M2 (fun M3 => pK M3 l0 = (1, 10) ∧ ∃ b4 : Nat, pP M3 l0 4 = b4 + 1 ∧ Q (.inl (some (.ref b4))) M3)))) : Go d mX10_spell Q 0 ([some (.ref l0), some (.ref l1), some (.int l2)], [], c, s) M := by
  refine st_aload oX10_spell_0 rfl ?_
  obtain ⟨hK, b1, hP, h⟩ := h
  refine st_getP oX10_spell_1 hK hP ?_
  refine st_aload oX10_spell_4 rfl ?_
  refine st_aload oX10_spell_5 rfl ?_
  obtain ⟨hK, b2, hP, h⟩ := h
  refine st_getP oX10_spell_6 hK hP ?_
  refine st_iload oX10_spell_9 rfl ?_
  obtain ⟨hK, h⟩ := h
  refine st_callV0_i [.int l2] oX10_spell_10 rfl rfl hK (ps8 rfl) (pCall_i.mono h (fun v1 M1 h => ?_))
  refine st_aload oX10_spell_13 rfl ?_
  obtain ⟨hK, b3, hP, h⟩ := h
  refine st_getP oX10_spell_14 hK hP ?_
  refine st_iload oX10_spell_17 rfl ?_
  obtain ⟨hK, h⟩ := h
  refine st_callV0_i [.int l2] oX10_spell_18 rfl rfl hK (ps8 rfl) (pCall_i.mono h (fun v2 M2 h => ?_))
  obtain ⟨hK, h⟩ := h
  refine st_callV0_v [.ref l1, .int v1, .int v2] oX10_spell_21 rfl rfl hK (ps8 rfl) (pCall_v.mono h (fun M3 h => ?_))
  refine st_aload oX10_spell_24 rfl ?_
  obtain ⟨hK, b4, hP, h⟩ := h
  refine st_getP oX10_spell_25 hK hP ?_
  exact st_aret oX10_spell_28 h
theorem bX10_number_0 {d : Nat} {Q : pR → pM → Prop} {c s : Nat} {M : pM} {l0 : Nat} {l1 : Nat} {l2 : Int32} (h : Go d mX10_number Q 5 ([some (.ref l0), some (.ref l1), some (.int l2), some (.int 0), some (.int 0)], [], c, s) M) : Go d mX10_number Q 0 ([some (.ref l0), some (.ref l1), some (.int l2), none, none], [], c, s) M := by
  refine st_const oX10_number_0 ?_
  refine st_istore (L2 := [some (.ref l0), some (.ref l1), some (.int l2), some (.int 0), none]) oX10_number_1 (by decide) rfl rfl ?_
  refine st_const oX10_number_2 ?_
  refine st_istore (L2 := [some (.ref l0), some (.ref l1), some (.int l2), some (.int 0), some (.int 0)]) oX10_number_3 (by decide) rfl rfl ?_
  exact h
theorem bX10_number_5 {d : Nat} {Q : pR → pM → Prop} {c s : Nat} {M : pM} {l0 : Nat} {l1 : Nat} {l2 : Int32} {l3 : Int32} {l4 : Int32} (h : pK M l0 = (1, 10) ∧ ∃ b1 : Nat, pP M l0 3 = b1 + 1 ∧ pK M b1 = (1, 9) ∧ pCall_i d mX9_at (0, 0) [.ref b1, .int l2] M (fun v1 M1 => ((v1 ≤ l4 → Q (.inl (some (.int l3))) M1) ∧ (¬ v1 ≤ l4 → ((6 ≤ l4 → Q (.inl (some (.int l3))) M1) ∧ (¬ 6 ≤ l4 → pK M1 l0 = (1, 10) ∧ ∃ b2 : Nat, pP M1 l0 2 = b2 + 1 ∧ pK M1 b2 = (1, 9) ∧ pCall_i d mX9_at (0, 0) [.ref b2, .int l2] M1 (fun v2 M2 => pK M2 l1 = (1, 9) ∧ pCall_i d mX9_at (0, 0) [.ref l1, .int (v2 + l4)] M2 (fun v3 M3 => Go d mX10_number Q 5 ([some (.ref l0), some (.ref l1), some (.int l2), some (.int (((l3 * 10) + v3) - 48)), some (.int (l4 + 1))], [], c, s) M3)))))))) : Go d mX10_number Q 5 ([some (.ref l0), some (.ref l1), some (.int l2), some (.int l3), some (.int l4)], [], c, s) M := by
  refine st_iload oX10_number_5 rfl ?_
  refine st_aload oX10_number_7 rfl ?_
  obtain ⟨hK, b1, hP, h⟩ := h
  refine st_getP oX10_number_8 hK hP ?_
  refine st_iload oX10_number_11 rfl ?_
  obtain ⟨hK, h⟩ := h
  refine st_callV0_i [.int l2] oX10_number_12 rfl rfl hK (ps8 rfl) (pCall_i.mono h (fun v1 M1 h => ?_))
  refine st_icmp oX10_number_15 (fun g => ?_) (fun g => ?_)
  · have h := h.1 g
    refine st_iload oX10_number_55 rfl ?_
    exact st_iret oX10_number_56 h
  · have h := h.2 g
    refine st_iload oX10_number_18 rfl ?_
    refine st_const oX10_number_20 ?_
    refine st_icmp oX10_number_22 (fun g => ?_) (fun g => ?_)
    · have h := h.1 g
      refine st_iload oX10_number_55 rfl ?_
      exact st_iret oX10_number_56 h
    · have h := h.2 g
      refine st_iload oX10_number_25 rfl ?_
      refine st_const oX10_number_26 ?_
      refine st_ibin oX10_number_28 ?_
      refine st_aload oX10_number_29 rfl ?_
      refine st_aload oX10_number_30 rfl ?_
      obtain ⟨hK, b2, hP, h⟩ := h
      refine st_getP oX10_number_31 hK hP ?_
      refine st_iload oX10_number_34 rfl ?_
      obtain ⟨hK, h⟩ := h
      refine st_callV0_i [.int l2] oX10_number_35 rfl rfl hK (ps8 rfl) (pCall_i.mono h (fun v2 M2 h => ?_))
      refine st_iload oX10_number_38 rfl ?_
      refine st_ibin oX10_number_40 ?_
      obtain ⟨hK, h⟩ := h
      refine st_callV0_i [.int (v2 + l4)] oX10_number_41 rfl rfl hK (ps8 rfl) (pCall_i.mono h (fun v3 M3 h => ?_))
      refine st_ibin oX10_number_44 ?_
      refine st_const oX10_number_45 ?_
      refine st_ibin oX10_number_47 ?_
      refine st_istore (L2 := [some (.ref l0), some (.ref l1), some (.int l2), some (.int (((l3 * 10) + v3) - 48)), some (.int l4)]) oX10_number_48 (by decide) rfl rfl ?_
      refine st_iinc (L2 := [some (.ref l0), some (.ref l1), some (.int l2), some (.int (((l3 * 10) + v3) - 48)), some (.int (l4 + 1))]) oX10_number_49 rfl (by decide) rfl rfl ?_
      refine st_goto oX10_number_52 ?_
      exact h
theorem bX10_skipBlanks_0 {d : Nat} {Q : pR → pM → Prop} {c s : Nat} {M : pM} {l0 : Nat} {l1 : Int32} (h : Go d mX10_skipBlanks Q 2 ([some (.ref l0), none, some (.int l1)], [], c, s) M) : Go d mX10_skipBlanks Q 0 ([some (.ref l0), some (.int l1), none], [], c, s) M := by
  refine st_iload oX10_skipBlanks_0 rfl ?_
  refine st_istore (L2 := [some (.ref l0), some (.int l1), some (.int l1)]) oX10_skipBlanks_1 (by decide) rfl rfl ?_
  exact Go.wk (L := [some (.ref l0), none, some (.int l1)]) (And.intro (Or.inr rfl) (And.intro (Or.inl rfl) (And.intro (Or.inr rfl) True.intro))) h
theorem bX10_skipBlanks_2 {d : Nat} {Q : pR → pM → Prop} {c s : Nat} {M : pM} {l0 : Nat} {l2 : Int32} (h : pK M l0 = (1, 9) ∧ pCall_i d mX9_size (0, 0) [.ref l0] M (fun v1 M1 => ((v1 ≤ l2 → pK M1 l0 = (1, 9) ∧ pCall_i d mX9_size (0, 0) [.ref l0] M1 (fun v2 M2 => Q (.inl (some (.int v2))) M2)) ∧ (¬ v1 ≤ l2 → pK M1 l0 = (1, 9) ∧ pCall_i d mX9_at (0, 0) [.ref l0, .int l2] M1 (fun v3 M3 => ((v3 = 32 → Go d mX10_skipBlanks Q 32 ([some (.ref l0), none, some (.int l2)], [], c, s) M3) ∧ (¬ v3 = 32 → pK M3 l0 = (1, 9) ∧ pCall_i d mX9_at (0, 0) [.ref l0, .int l2] M3 (fun v4 M4 => ((v4 = 10 → Go d mX10_skipBlanks Q 32 ([some (.ref l0), none, some (.int l2)], [], c, s) M4) ∧ (¬ v4 = 10 → Q (.inl (some (.int l2))) M4)))))))))) : Go d mX10_skipBlanks Q 2 ([some (.ref l0), none, some (.int l2)], [], c, s) M := by
  refine st_iload oX10_skipBlanks_2 rfl ?_
  refine st_aload oX10_skipBlanks_3 rfl ?_
  obtain ⟨hK, h⟩ := h
  refine st_callV0_i [] oX10_skipBlanks_4 rfl rfl hK (ps8 rfl) (pCall_i.mono h (fun v1 M1 h => ?_))
  refine st_icmp oX10_skipBlanks_7 (fun g => ?_) (fun g => ?_)
  · have h := h.1 g
    refine st_aload oX10_skipBlanks_38 rfl ?_
    obtain ⟨hK, h⟩ := h
    refine st_callV0_i [] oX10_skipBlanks_39 rfl rfl hK (ps8 rfl) (pCall_i.mono h (fun v2 M2 h => ?_))
    exact st_iret oX10_skipBlanks_42 h
  · have h := h.2 g
    refine st_aload oX10_skipBlanks_10 rfl ?_
    refine st_iload oX10_skipBlanks_11 rfl ?_
    obtain ⟨hK, h⟩ := h
    refine st_callV0_i [.int l2] oX10_skipBlanks_12 rfl rfl hK (ps8 rfl) (pCall_i.mono h (fun v3 M3 h => ?_))
    refine st_const oX10_skipBlanks_15 ?_
    refine st_icmp oX10_skipBlanks_17 (fun g => ?_) (fun g => ?_)
    · have h := h.1 g
      exact h
    · have h := h.2 g
      refine st_aload oX10_skipBlanks_20 rfl ?_
      refine st_iload oX10_skipBlanks_21 rfl ?_
      obtain ⟨hK, h⟩ := h
      refine st_callV0_i [.int l2] oX10_skipBlanks_22 rfl rfl hK (ps8 rfl) (pCall_i.mono h (fun v4 M4 h => ?_))
      refine st_const oX10_skipBlanks_25 ?_
      refine st_icmp oX10_skipBlanks_27 (fun g => ?_) (fun g => ?_)
      · have h := h.1 g
        exact h
      · have h := h.2 g
        refine st_iload oX10_skipBlanks_30 rfl ?_
        exact st_iret oX10_skipBlanks_31 h
theorem bX10_skipBlanks_32 {d : Nat} {Q : pR → pM → Prop} {c s : Nat} {M : pM} {l0 : Nat} {l2 : Int32} (h : Go d mX10_skipBlanks Q 2 ([some (.ref l0), none, some (.int (l2 + 1))], [], c, s) M) : Go d mX10_skipBlanks Q 32 ([some (.ref l0), none, some (.int l2)], [], c, s) M := by
  refine st_iinc (L2 := [some (.ref l0), none, some (.int (l2 + 1))]) oX10_skipBlanks_32 rfl (by decide) rfl rfl ?_
  refine st_goto oX10_skipBlanks_35 ?_
  exact h
theorem bX10_lengthAt_0 {d : Nat} {Q : pR → pM → Prop} {c s : Nat} {M : pM} {l0 : Nat} {l1 : Int32} (h : pK M l0 = (1, 9) ∧ pCall_i d mX9_at (0, 0) [.ref l0, .int l1] M (fun v1 M1 => pCall_i d mX11_isLetter (0, 0) [.int v1] M1 (fun v2 M2 => ((v2 = 0 → pCall_i d mX11_isDigit (0, 0) [.int v1] M2 (fun v3 M3 => ((v3 = 0 → ((v1 = 60 → Go d mX10_lengthAt Q 42 ([some (.ref l0), some (.int l1), none], [], c, s) M3) ∧ (¬ v1 = 60 → ((v1 = 62 → Go d mX10_lengthAt Q 42 ([some (.ref l0), some (.int l1), none], [], c, s) M3) ∧ (¬ v1 = 62 → Q (.inl (some (.int 1))) M3))))) ∧ (¬ v3 = 0 → Go d mX10_lengthAt Q 20 ([some (.ref l0), some (.int l1), some (.int v1)], [], c, s) M3)))) ∧ (¬ v2 = 0 → Go d mX10_lengthAt Q 20 ([some (.ref l0), some (.int l1), some (.int v1)], [], c, s) M2))))) : Go d mX10_lengthAt Q 0 ([some (.ref l0), some (.int l1), none], [], c, s) M := by
  refine st_aload oX10_lengthAt_0 rfl ?_
  refine st_iload oX10_lengthAt_1 rfl ?_
  obtain ⟨hK, h⟩ := h
  refine st_callV0_i [.int l1] oX10_lengthAt_2 rfl rfl hK (ps8 rfl) (pCall_i.mono h (fun v1 M1 h => ?_))
  refine st_istore (L2 := [some (.ref l0), some (.int l1), some (.int v1)]) oX10_lengthAt_5 (by decide) rfl rfl ?_
  refine st_iload oX10_lengthAt_6 rfl ?_
  refine st_callS0_i [.int v1] oX10_lengthAt_7 rfl rfl (ps8 rfl) (pCall_i.mono h (fun v2 M2 h => ?_))
  refine st_if oX10_lengthAt_10 (fun g => ?_) (fun g => ?_)
  · have h := h.1 g
    refine st_iload oX10_lengthAt_13 rfl ?_
    refine st_callS0_i [.int v1] oX10_lengthAt_14 rfl rfl (ps8 rfl) (pCall_i.mono h (fun v3 M3 h => ?_))
    refine st_if oX10_lengthAt_17 (fun g => ?_) (fun g => ?_)
    · have h := h.1 g
      refine st_iload oX10_lengthAt_30 rfl ?_
      refine st_const oX10_lengthAt_31 ?_
      refine st_icmp oX10_lengthAt_33 (fun g => ?_) (fun g => ?_)
      · have h := h.1 g
        exact Go.wk (L := [some (.ref l0), some (.int l1), none]) (And.intro (Or.inr rfl) (And.intro (Or.inr rfl) (And.intro (Or.inl rfl) True.intro))) h
      · have h := h.2 g
        refine st_iload oX10_lengthAt_36 rfl ?_
        refine st_const oX10_lengthAt_37 ?_
        refine st_icmp oX10_lengthAt_39 (fun g => ?_) (fun g => ?_)
        · have h := h.1 g
          exact Go.wk (L := [some (.ref l0), some (.int l1), none]) (And.intro (Or.inr rfl) (And.intro (Or.inr rfl) (And.intro (Or.inl rfl) True.intro))) h
        · have h := h.2 g
          refine st_const oX10_lengthAt_58 ?_
          exact st_iret oX10_lengthAt_59 h
    · have h := h.2 g
      exact h
  · have h := h.2 g
    exact h
theorem bX10_lengthAt_20 {d : Nat} {Q : pR → pM → Prop} {c s : Nat} {M : pM} {l0 : Nat} {l1 : Int32} {l2 : Int32} (h : pCall_i d mX11_isLetter (0, 0) [.int l2] M (fun v1 M1 => pCall_i d mX10_runLength (0, 0) [.ref l0, .int l1, .int v1] M1 (fun v2 M2 => Q (.inl (some (.int v2))) M2))) : Go d mX10_lengthAt Q 20 ([some (.ref l0), some (.int l1), some (.int l2)], [], c, s) M := by
  refine st_aload oX10_lengthAt_20 rfl ?_
  refine st_iload oX10_lengthAt_21 rfl ?_
  refine st_iload oX10_lengthAt_22 rfl ?_
  refine st_callS0_i [.int l2] oX10_lengthAt_23 rfl rfl (ps8 rfl) (pCall_i.mono h (fun v1 M1 h => ?_))
  refine st_callS0_i [.ref l0, .int l1, .int v1] oX10_lengthAt_26 rfl rfl (ps8 rfl) (pCall_i.mono h (fun v2 M2 h => ?_))
  exact st_iret oX10_lengthAt_29 h
theorem bX10_lengthAt_42 {d : Nat} {Q : pR → pM → Prop} {c s : Nat} {M : pM} {l0 : Nat} {l1 : Int32} (h : pK M l0 = (1, 9) ∧ pCall_i d mX9_at (0, 0) [.ref l0, .int (l1 + 1)] M (fun v1 M1 => ((v1 = 61 → Q (.inl (some (.int 2))) M1) ∧ (¬ v1 = 61 → Q (.inl (some (.int 1))) M1)))) : Go d mX10_lengthAt Q 42 ([some (.ref l0), some (.int l1), none], [], c, s) M := by
  refine st_aload oX10_lengthAt_42 rfl ?_
  refine st_iload oX10_lengthAt_43 rfl ?_
  refine st_const oX10_lengthAt_44 ?_
  refine st_ibin oX10_lengthAt_45 ?_
  obtain ⟨hK, h⟩ := h
  refine st_callV0_i [.int (l1 + 1)] oX10_lengthAt_46 rfl rfl hK (ps8 rfl) (pCall_i.mono h (fun v1 M1 h => ?_))
  refine st_const oX10_lengthAt_49 ?_
  refine st_icmp oX10_lengthAt_51 (fun g => ?_) (fun g => ?_)
  · have h := h.1 g
    refine st_const oX10_lengthAt_54 ?_
    refine st_goto oX10_lengthAt_55 ?_
    exact st_iret oX10_lengthAt_59 h
  · have h := h.2 g
    refine st_const oX10_lengthAt_58 ?_
    exact st_iret oX10_lengthAt_59 h
theorem bX10_runLength_0 {d : Nat} {Q : pR → pM → Prop} {c s : Nat} {M : pM} {l0 : Nat} {l1 : Int32} {l2 : Int32} (h : Go d mX10_runLength Q 2 ([some (.ref l0), some (.int l1), some (.int l2), some (.int l1), none], [], c, s) M) : Go d mX10_runLength Q 0 ([some (.ref l0), some (.int l1), some (.int l2), none, none], [], c, s) M := by
  refine st_iload oX10_runLength_0 rfl ?_
  refine st_istore (L2 := [some (.ref l0), some (.int l1), some (.int l2), some (.int l1), none]) oX10_runLength_1 (by decide) rfl rfl ?_
  exact h
theorem bX10_runLength_2 {d : Nat} {Q : pR → pM → Prop} {c s : Nat} {M : pM} {l0 : Nat} {l1 : Int32} {l2 : Int32} {l3 : Int32} (h : pK M l0 = (1, 9) ∧ pCall_i d mX9_size (0, 0) [.ref l0] M (fun v1 M1 => ((v1 ≤ l3 → pK M1 l0 = (1, 9) ∧ pCall_i d mX9_size (0, 0) [.ref l0] M1 (fun v2 M2 => Q (.inl (some (.int (v2 - l1)))) M2)) ∧ (¬ v1 ≤ l3 → pK M1 l0 = (1, 9) ∧ pCall_i d mX9_at (0, 0) [.ref l0, .int l3] M1 (fun v3 M3 => pCall_i d mX11_isDigit (0, 0) [.int v3] M3 (fun v4 M4 => ((v4 = 0 → ((l2 = 0 → Q (.inl (some (.int (l3 - l1)))) M4) ∧ (¬ l2 = 0 → pCall_i d mX11_isLetter (0, 0) [.int v3] M4 (fun v5 M5 => ((v5 = 0 → Q (.inl (some (.int (l3 - l1)))) M5) ∧ (¬ v5 = 0 → Go d mX10_runLength Q 41 ([some (.ref l0), some (.int l1), some (.int l2), some (.int l3), none], [], c, s) M5)))))) ∧ (¬ v4 = 0 → Go d mX10_runLength Q 41 ([some (.ref l0), some (.int l1), some (.int l2), some (.int l3), none], [], c, s) M4)))))))) : Go d mX10_runLength Q 2 ([some (.ref l0), some (.int l1), some (.int l2), some (.int l3), none], [], c, s) M := by
  refine st_iload oX10_runLength_2 rfl ?_
  refine st_aload oX10_runLength_3 rfl ?_
  obtain ⟨hK, h⟩ := h
  refine st_callV0_i [] oX10_runLength_4 rfl rfl hK (ps8 rfl) (pCall_i.mono h (fun v1 M1 h => ?_))
  refine st_icmp oX10_runLength_7 (fun g => ?_) (fun g => ?_)
  · have h := h.1 g
    refine st_aload oX10_runLength_47 rfl ?_
    obtain ⟨hK, h⟩ := h
    refine st_callV0_i [] oX10_runLength_48 rfl rfl hK (ps8 rfl) (pCall_i.mono h (fun v2 M2 h => ?_))
    refine st_iload oX10_runLength_51 rfl ?_
    refine st_ibin oX10_runLength_52 ?_
    exact st_iret oX10_runLength_53 h
  · have h := h.2 g
    refine st_aload oX10_runLength_10 rfl ?_
    refine st_iload oX10_runLength_11 rfl ?_
    obtain ⟨hK, h⟩ := h
    refine st_callV0_i [.int l3] oX10_runLength_12 rfl rfl hK (ps8 rfl) (pCall_i.mono h (fun v3 M3 h => ?_))
    refine st_istore (L2 := [some (.ref l0), some (.int l1), some (.int l2), some (.int l3), some (.int v3)]) oX10_runLength_15 (by decide) rfl rfl ?_
    refine st_iload oX10_runLength_17 rfl ?_
    refine st_callS0_i [.int v3] oX10_runLength_19 rfl rfl (ps8 rfl) (pCall_i.mono h (fun v4 M4 h => ?_))
    refine st_if oX10_runLength_22 (fun g => ?_) (fun g => ?_)
    · have h := h.1 g
      refine st_iload oX10_runLength_25 rfl ?_
      refine st_if oX10_runLength_26 (fun g => ?_) (fun g => ?_)
      · have h := h.1 g
        refine st_iload oX10_runLength_37 rfl ?_
        refine st_iload oX10_runLength_38 rfl ?_
        refine st_ibin oX10_runLength_39 ?_
        exact st_iret oX10_runLength_40 h
      · have h := h.2 g
        refine st_iload oX10_runLength_29 rfl ?_
        refine st_callS0_i [.int v3] oX10_runLength_31 rfl rfl (ps8 rfl) (pCall_i.mono h (fun v5 M5 h => ?_))
        refine st_if oX10_runLength_34 (fun g => ?_) (fun g => ?_)
        · have h := h.1 g
          refine st_iload oX10_runLength_37 rfl ?_
          refine st_iload oX10_runLength_38 rfl ?_
          refine st_ibin oX10_runLength_39 ?_
          exact st_iret oX10_runLength_40 h
        · have h := h.2 g
          exact Go.wk (L := [some (.ref l0), some (.int l1), some (.int l2), some (.int l3), none]) (And.intro (Or.inr rfl) (And.intro (Or.inr rfl) (And.intro (Or.inr rfl) (And.intro (Or.inr rfl) (And.intro (Or.inl rfl) True.intro))))) h
    · have h := h.2 g
      exact Go.wk (L := [some (.ref l0), some (.int l1), some (.int l2), some (.int l3), none]) (And.intro (Or.inr rfl) (And.intro (Or.inr rfl) (And.intro (Or.inr rfl) (And.intro (Or.inr rfl) (And.intro (Or.inl rfl) True.intro))))) h
theorem bX10_runLength_41 {d : Nat} {Q : pR → pM → Prop} {c s : Nat} {M : pM} {l0 : Nat} {l1 : Int32} {l2 : Int32} {l3 : Int32} (h : Go d mX10_runLength Q 2 ([some (.ref l0), some (.int l1), some (.int l2), some (.int (l3 + 1)), none], [], c, s) M) : Go d mX10_runLength Q 41 ([some (.ref l0), some (.int l1), some (.int l2), some (.int l3), none], [], c, s) M := by
  refine st_iinc (L2 := [some (.ref l0), some (.int l1), some (.int l2), some (.int (l3 + 1)), none]) oX10_runLength_41 rfl (by decide) rfl rfl ?_
  refine st_goto oX10_runLength_44 ?_
  exact h
