theorem bX8_init_0 {d : Nat} {Q : pR → pM → Prop} {c s : Nat} {M : pM} {l0 : Nat} (h : 1 ≤ c ∧ 2 ≤ s ∧ pN M < pBIG ∧ ∀ N1 : pM, N1 = (pnew M (1, 9)) → (∃ rs1 : Nat × Nat, rs1.1 ≤ (c - 1) ∧ rs1.2 ≤ (s - 2) ∧ pCall_v d mX9_init rs1 [.ref (pN M), .int 400] N1 (fun M1 => pK M1 l0 = (1, 8) ∧ ∀ N2 : pM, N2 = (psP M1 l0 0 ((pN M) + 1)) → (Q (.inl none) N2)))) : Go d mX8_init Q 0 ([some (.ref l0)], [], c, s) M := by
  refine st_aload oX8_init_0 rfl ?_
  refine st_objinit oX8_init_1 (ps8 rfl) ?_
  refine st_aload oX8_init_4 rfl ?_
  obtain ⟨h1, h2, h3, h⟩ := h
  refine st_new oX8_init_5 h1 h2 h3 ?_
  refine st_nm (fun N1 eN1 => ?_)
  have h := h N1 eN1
  refine st_dup oX8_init_8 rfl ?_
  refine st_const oX8_init_9 ?_
  obtain ⟨rs1, h1, h2, h⟩ := h
  refine st_callI_v [.int 400] oX8_init_12 rfl rfl (ps8 rfl) h1 h2 (pCall_v.mono h (fun M1 h => ?_))
  obtain ⟨hK, h⟩ := h
  refine st_putP oX8_init_15 hK ?_
  refine st_nm (fun N2 eN2 => ?_)
  have h := h N2 eN2
  exact st_vret oX8_init_18 h
theorem bX8_boost_0 {d : Nat} {Q : pR → pM → Prop} {c s : Nat} {M : pM} {l0 : Nat} {l1 : Nat} {l2 : Nat} {l3 : Int32} {l4 : Int32} (h : pK M l1 = (1, 0) ∧ ∃ b1 : Nat, pP M l1 5 = b1 + 1 ∧ Go d mX8_boost Q 12 ([some (.ref l0), some (.ref l1), some (.ref l2), some (.int l3), some (.int l4), some (.ref b1), some (.int 0), some (.int 0), none, none], [], c, s) M) : Go d mX8_boost Q 0 ([some (.ref l0), some (.ref l1), some (.ref l2), some (.int l3), some (.int l4), none, none, none, none, none], [], c, s) M := by
  refine st_aload oX8_boost_0 rfl ?_
  obtain ⟨hK, b1, hP, h⟩ := h
  refine st_getP oX8_boost_1 hK hP ?_
  refine st_astore (L2 := [some (.ref l0), some (.ref l1), some (.ref l2), some (.int l3), some (.int l4), some (.ref b1), none, none, none, none]) oX8_boost_4 (by decide) rfl rfl ?_
  refine st_const oX8_boost_6 ?_
  refine st_istore (L2 := [some (.ref l0), some (.ref l1), some (.ref l2), some (.int l3), some (.int l4), some (.ref b1), some (.int 0), none, none, none]) oX8_boost_7 (by decide) rfl rfl ?_
  refine st_const oX8_boost_9 ?_
  refine st_istore (L2 := [some (.ref l0), some (.ref l1), some (.ref l2), some (.int l3), some (.int l4), some (.ref b1), some (.int 0), some (.int 0), none, none]) oX8_boost_10 (by decide) rfl rfl ?_
  exact h
theorem bX8_boost_12 {d : Nat} {Q : pR → pM → Prop} {c s : Nat} {M : pM} {l0 : Nat} {l1 : Nat} {l2 : Nat} {l3 : Int32} {l4 : Int32} {l5 : Nat} {l6 : Int32} {l7 : Int32} (h : pK M l5 = (1, 1) ∧ pCall_i d mX1_size (0, 0) [.ref l5] M (fun v1 M1 => ((v1 ≤ l7 → Q (.inl (some (.int l6))) M1) ∧ (¬ v1 ≤ l7 → pK M1 l5 = (1, 1) ∧ ∃ b1 : Nat, pP M1 l5 0 = b1 + 1 ∧ pK M1 b1 = (1, 9) ∧ pCall_i d mX9_at (0, 0) [.ref b1, .int l7] M1 (fun v2 M2 => ((v2 = l3 → pK M2 l5 = (1, 1) ∧ ∃ b2 : Nat, pP M2 l5 1 = b2 + 1 ∧ pK M2 b2 = (1, 9) ∧ pCall_i d mX9_at (0, 0) [.ref b2, .int l7] M2 (fun v3 M3 => pK M3 l5 = (1, 1) ∧ ∃ b3 : Nat, pP M3 l5 2 = b3 + 1 ∧ pK M3 b3 = (1, 9) ∧ pCall_i d mX9_at (0, 0) [.ref b3, .int l7] M3 (fun v4 M4 => pK M4 l0 = (1, 8) ∧ pCall_i d mX8_run (0, 0) [.ref l0, .ref l1, .ref l2, .int l4, .int v3, .int v4] M4 (fun v5 M5 => pK M5 l5 = (1, 1) ∧ ∃ b4 : Nat, pP M5 l5 2 = b4 + 1 ∧ pK M5 b4 = (1, 9) ∧ pCall_i d mX9_at (0, 0) [.ref b4, .int l7] M5 (fun v6 M6 => pK M6 l5 = (1, 1) ∧ ∃ b5 : Nat, pP M6 l5 3 = b5 + 1 ∧ pK M6 b5 = (1, 9) ∧ pCall_i d mX9_at (0, 0) [.ref b5, .int l7] M6 (fun v7 M7 => pK M7 l0 = (1, 8) ∧ pCall_i d mX8_run (0, 0) [.ref l0, .ref l1, .ref l2, .int l4, .int v6, .int v7] M7 (fun v8 M8 => ((v8 = 0 → Go d mX8_boost Q 112 ([some (.ref l0), some (.ref l1), some (.ref l2), some (.int l3), some (.int l4), some (.ref l5), some (.int (l6 + 0)), some (.int l7), none, none], [], c, s) M8) ∧ (¬ v8 = 0 → Go d mX8_boost Q 112 ([some (.ref l0), some (.ref l1), some (.ref l2), some (.int l3), some (.int l4), some (.ref l5), some (.int (l6 + v5)), some (.int l7), none, none], [], c, s) M8))))))))) ∧ (¬ v2 = l3 → Go d mX8_boost Q 112 ([some (.ref l0), some (.ref l1), some (.ref l2), some (.int l3), some (.int l4), some (.ref l5), some (.int l6), some (.int l7), none, none], [], c, s) M2))))))) : Go d mX8_boost Q 12 ([some (.ref l0), some (.ref l1), some (.ref l2), some (.int l3), some (.int l4), some (.ref l5), some (.int l6), some (.int l7), none, none], [], c, s) M := by
  refine st_iload oX8_boost_12 rfl ?_
  refine st_aload oX8_boost_14 rfl ?_
  obtain ⟨hK, h⟩ := h
  refine st_callV0_i [] oX8_boost_16 rfl rfl hK (ps8 rfl) (pCall_i.mono h (fun v1 M1 h => ?_))
  refine st_icmp oX8_boost_19 (fun g => ?_) (fun g => ?_)
  · have h := h.1 g
    refine st_iload oX8_boost_118 rfl ?_
    exact st_iret oX8_boost_120 h
  · have h := h.2 g
    refine st_aload oX8_boost_22 rfl ?_
    obtain ⟨hK, b1, hP, h⟩ := h
    refine st_getP oX8_boost_24 hK hP ?_
    refine st_iload oX8_boost_27 rfl ?_
    obtain ⟨hK, h⟩ := h
    refine st_callV0_i [.int l7] oX8_boost_29 rfl rfl hK (ps8 rfl) (pCall_i.mono h (fun v2 M2 h => ?_))
    refine st_iload oX8_boost_32 rfl ?_
    refine st_icmp oX8_boost_33 (fun g => ?_) (fun g => ?_)
    · have h := h.1 g
      refine st_aload oX8_boost_36 rfl ?_
      refine st_aload oX8_boost_37 rfl ?_
      refine st_aload oX8_boost_38 rfl ?_
      refine st_iload oX8_boost_39 rfl ?_
      refine st_aload oX8_boost_41 rfl ?_
      obtain ⟨hK, b2, hP, h⟩ := h
      refine st_getP oX8_boost_43 hK hP ?_
      refine st_iload oX8_boost_46 rfl ?_
      obtain ⟨hK, h⟩ := h
      refine st_callV0_i [.int l7] oX8_boost_48 rfl rfl hK (ps8 rfl) (pCall_i.mono h (fun v3 M3 h => ?_))
      refine st_aload oX8_boost_51 rfl ?_
      obtain ⟨hK, b3, hP, h⟩ := h
      refine st_getP oX8_boost_53 hK hP ?_
      refine st_iload oX8_boost_56 rfl ?_
      obtain ⟨hK, h⟩ := h
      refine st_callV0_i [.int l7] oX8_boost_58 rfl rfl hK (ps8 rfl) (pCall_i.mono h (fun v4 M4 h => ?_))
      obtain ⟨hK, h⟩ := h
      refine st_callV0_i [.ref l1, .ref l2, .int l4, .int v3, .int v4] oX8_boost_61 rfl rfl hK (ps8 rfl) (pCall_i.mono h (fun v5 M5 h => ?_))
      refine st_istore (L2 := [some (.ref l0), some (.ref l1), some (.ref l2), some (.int l3), some (.int l4), some (.ref l5), some (.int l6), some (.int l7), some (.int v5), none]) oX8_boost_64 (by decide) rfl rfl ?_
      refine st_aload oX8_boost_66 rfl ?_
      refine st_aload oX8_boost_67 rfl ?_
      refine st_aload oX8_boost_68 rfl ?_
      refine st_iload oX8_boost_69 rfl ?_
      refine st_aload oX8_boost_71 rfl ?_
      obtain ⟨hK, b4, hP, h⟩ := h
      refine st_getP oX8_boost_73 hK hP ?_
      refine st_iload oX8_boost_76 rfl ?_
      obtain ⟨hK, h⟩ := h
      refine st_callV0_i [.int l7] oX8_boost_78 rfl rfl hK (ps8 rfl) (pCall_i.mono h (fun v6 M6 h => ?_))
      refine st_aload oX8_boost_81 rfl ?_
      obtain ⟨hK, b5, hP, h⟩ := h
      refine st_getP oX8_boost_83 hK hP ?_
      refine st_iload oX8_boost_86 rfl ?_
      obtain ⟨hK, h⟩ := h
      refine st_callV0_i [.int l7] oX8_boost_88 rfl rfl hK (ps8 rfl) (pCall_i.mono h (fun v7 M7 h => ?_))
      obtain ⟨hK, h⟩ := h
      refine st_callV0_i [.ref l1, .ref l2, .int l4, .int v6, .int v7] oX8_boost_91 rfl rfl hK (ps8 rfl) (pCall_i.mono h (fun v8 M8 h => ?_))
      refine st_istore (L2 := [some (.ref l0), some (.ref l1), some (.ref l2), some (.int l3), some (.int l4), some (.ref l5), some (.int l6), some (.int l7), some (.int v5), some (.int v8)]) oX8_boost_94 (by decide) rfl rfl ?_
      refine st_iload oX8_boost_96 rfl ?_
      refine st_iload oX8_boost_98 rfl ?_
      refine st_if oX8_boost_100 (fun g => ?_) (fun g => ?_)
      · have h := h.1 g
        refine st_const oX8_boost_108 ?_
        refine st_ibin oX8_boost_109 ?_
        refine st_istore (L2 := [some (.ref l0), some (.ref l1), some (.ref l2), some (.int l3), some (.int l4), some (.ref l5), some (.int (l6 + 0)), some (.int l7), some (.int v5), some (.int v8)]) oX8_boost_110 (by decide) rfl rfl ?_
        exact Go.wk (L := [some (.ref l0), some (.ref l1), some (.ref l2), some (.int l3), some (.int l4), some (.ref l5), some (.int (l6 + 0)), some (.int l7), none, none]) (And.intro (Or.inr rfl) (And.intro (Or.inr rfl) (And.intro (Or.inr rfl) (And.intro (Or.inr rfl) (And.intro (Or.inr rfl) (And.intro (Or.inr rfl) (And.intro (Or.inr rfl) (And.intro (Or.inr rfl) (And.intro (Or.inl rfl) (And.intro (Or.inl rfl) True.intro)))))))))) h
      · have h := h.2 g
        refine st_iload oX8_boost_103 rfl ?_
        refine st_goto oX8_boost_105 ?_
        refine st_ibin oX8_boost_109 ?_
        refine st_istore (L2 := [some (.ref l0), some (.ref l1), some (.ref l2), some (.int l3), some (.int l4), some (.ref l5), some (.int (l6 + v5)), some (.int l7), some (.int v5), some (.int v8)]) oX8_boost_110 (by decide) rfl rfl ?_
        exact Go.wk (L := [some (.ref l0), some (.ref l1), some (.ref l2), some (.int l3), some (.int l4), some (.ref l5), some (.int (l6 + v5)), some (.int l7), none, none]) (And.intro (Or.inr rfl) (And.intro (Or.inr rfl) (And.intro (Or.inr rfl) (And.intro (Or.inr rfl) (And.intro (Or.inr rfl) (And.intro (Or.inr rfl) (And.intro (Or.inr rfl) (And.intro (Or.inr rfl) (And.intro (Or.inl rfl) (And.intro (Or.inl rfl) True.intro)))))))))) h
    · have h := h.2 g
      exact h
theorem bX8_boost_112 {d : Nat} {Q : pR → pM → Prop} {c s : Nat} {M : pM} {l0 : Nat} {l1 : Nat} {l2 : Nat} {l3 : Int32} {l4 : Int32} {l5 : Nat} {l6 : Int32} {l7 : Int32} (h : Go d mX8_boost Q 12 ([some (.ref l0), some (.ref l1), some (.ref l2), some (.int l3), some (.int l4), some (.ref l5), some (.int l6), some (.int (l7 + 1)), none, none], [], c, s) M) : Go d mX8_boost Q 112 ([some (.ref l0), some (.ref l1), some (.ref l2), some (.int l3), some (.int l4), some (.ref l5), some (.int l6), some (.int l7), none, none], [], c, s) M := by
  refine st_iinc (L2 := [some (.ref l0), some (.ref l1), some (.ref l2), some (.int l3), some (.int l4), some (.ref l5), some (.int l6), some (.int (l7 + 1)), none, none]) oX8_boost_112 rfl (by decide) rfl rfl ?_
  refine st_goto oX8_boost_115 ?_
  exact h
theorem bX8_run_0 {d : Nat} {Q : pR → pM → Prop} {c s : Nat} {M : pM} {l0 : Nat} {l1 : Nat} {l2 : Nat} {l3 : Int32} {l4 : Int32} {l5 : Int32} (h : pK M l0 = (1, 8) ∧ ∃ b1 : Nat, pP M l0 0 = b1 + 1 ∧ pK M b1 = (1, 9) ∧ pCall_v d mX9_clear (0, 0) [.ref b1] M (fun M1 => Go d mX8_run Q 11 ([some (.ref l0), some (.ref l1), some (.ref l2), some (.int l3), none, some (.int l5), some (.int l4), none, none], [], c, s) M1)) : Go d mX8_run Q 0 ([some (.ref l0), some (.ref l1), some (.ref l2), some (.int l3), some (.int l4), some (.int l5), none, none, none], [], c, s) M := by
  refine st_aload oX8_run_0 rfl ?_
  obtain ⟨hK, b1, hP, h⟩ := h
  refine st_getP oX8_run_1 hK hP ?_
  obtain ⟨hK, h⟩ := h
  refine st_callV0_v [] oX8_run_4 rfl rfl hK (ps8 rfl) (pCall_v.mono h (fun M1 h => ?_))
  refine st_iload oX8_run_7 rfl ?_
  refine st_istore (L2 := [some (.ref l0), some (.ref l1), some (.ref l2), some (.int l3), some (.int l4), some (.int l5), some (.int l4), none, none]) oX8_run_9 (by decide) rfl rfl ?_
  exact Go.wk (L := [some (.ref l0), some (.ref l1), some (.ref l2), some (.int l3), none, some (.int l5), some (.int l4), none, none]) (And.intro (Or.inr rfl) (And.intro (Or.inr rfl) (And.intro (Or.inr rfl) (And.intro (Or.inr rfl) (And.intro (Or.inl rfl) (And.intro (Or.inr rfl) (And.intro (Or.inr rfl) (And.intro (Or.inr rfl) (And.intro (Or.inr rfl) True.intro))))))))) h
theorem bX8_run_11 {d : Nat} {Q : pR → pM → Prop} {c s : Nat} {M : pM} {l0 : Nat} {l1 : Nat} {l2 : Nat} {l3 : Int32} {l5 : Int32} {l6 : Int32} (h : ((l5 ≤ l6 → pK M l0 = (1, 8) ∧ ∃ b1 : Nat, pP M l0 0 = b1 + 1 ∧ pK M b1 = (1, 9) ∧ pCall_i d mX9_removeLast (0, 0) [.ref b1] M (fun v1 M1 => Q (.inl (some (.int v1))) M1)) ∧ (¬ l5 ≤ l6 → pK M l1 = (1, 0) ∧ ∃ b2 : Nat, pP M l1 5 = b2 + 1 ∧ pK M b2 = (1, 1) ∧ ∃ b3 : Nat, pP M b2 4 = b3 + 1 ∧ pK M b3 = (1, 9) ∧ pCall_i d mX9_at (0, 0) [.ref b3, .int l6] M (fun v2 M2 => pK M2 l1 = (1, 0) ∧ ∃ b4 : Nat, pP M2 l1 5 = b4 + 1 ∧ pK M2 b4 = (1, 1) ∧ ∃ b5 : Nat, pP M2 b4 5 = b5 + 1 ∧ pK M2 b5 = (1, 9) ∧ pCall_i d mX9_at (0, 0) [.ref b5, .int l6] M2 (fun v3 M3 => ((v2 = 2 → pK M3 l0 = (1, 8) ∧ ∃ b6 : Nat, pP M3 l0 0 = b6 + 1 ∧ pK M3 l1 = (1, 0) ∧ ∃ b7 : Nat, pP M3 l1 2 = b7 + 1 ∧ pK M3 b7 = (1, 9) ∧ pCall_i d mX9_at (0, 0) [.ref b7, .int v3] M3 (fun v4 M4 => pK M4 b6 = (1, 9) ∧ pCall_v d mX9_add (0, 0) [.ref b6, .int v4] M4 (fun M5 => Go d mX8_run Q 346 ([some (.ref l0), some (.ref l1), some (.ref l2), some (.int l3), none, some (.int l5), some (.int l6), none, none], [], c, s) M5))) ∧ (¬ v2 = 2 → ((v2 = 3 → Go d mX8_run Q 320 ([some (.ref l0), some (.ref l1), some (.ref l2), some (.int l3), none, some (.int l5), some (.int l6), some (.int v2), none], [], c, s) M3) ∧ (¬ v2 = 3 → ((v2 = 4 → Go d mX8_run Q 320 ([some (.ref l0), some (.ref l1), some (.ref l2), some (.int l3), none, some (.int l5), some (.int l6), some (.int v2), none], [], c, s) M3) ∧ (¬ v2 = 4 → ((v2 = 5 → Go d mX8_run Q 320 ([some (.ref l0), some (.ref l1), some (.ref l2), some (.int l3), none, some (.int l5), some (.int l6), some (.int v2), none], [], c, s) M3) ∧ (¬ v2 = 5 → ((v2 = 6 → Go d mX8_run Q 320 ([some (.ref l0), some (.ref l1), some (.ref l2), some (.int l3), none, some (.int l5), some (.int l6), some (.int v2), none], [], c, s) M3) ∧ (¬ v2 = 6 → ((v2 = 7 → Go d mX8_run Q 320 ([some (.ref l0), some (.ref l1), some (.ref l2), some (.int l3), none, some (.int l5), some (.int l6), some (.int v2), none], [], c, s) M3) ∧ (¬ v2 = 7 → ((v2 = 8 → Go d mX8_run Q 259 ([some (.ref l0), some (.ref l1), some (.ref l2), some (.int l3), none, some (.int l5), some (.int l6), some (.int v2), some (.int v3)], [], c, s) M3) ∧ (¬ v2 = 8 → ((v2 = 9 → Go d mX8_run Q 259 ([some (.ref l0), some (.ref l1), some (.ref l2), some (.int l3), none, some (.int l5), some (.int l6), some (.int v2), some (.int v3)], [], c, s) M3) ∧ (¬ v2 = 9 → ((v2 = 10 → Go d mX8_run Q 259 ([some (.ref l0), some (.ref l1), some (.ref l2), some (.int l3), none, some (.int l5), some (.int l6), some (.int v2), some (.int v3)], [], c, s) M3) ∧ (¬ v2 = 10 → ((v2 = 11 → pK M3 l0 = (1, 8) ∧ ∃ b8 : Nat, pP M3 l0 0 = b8 + 1 ∧ pK M3 b8 = (1, 9) ∧ pCall_v d mX9_add (0, 0) [.ref b8, .int l3] M3 (fun M6 => Go d mX8_run Q 346 ([some (.ref l0), some (.ref l1), some (.ref l2), some (.int l3), none, some (.int l5), some (.int l6), none, none], [], c, s) M6)) ∧ (¬ v2 = 11 → ((v2 = 12 → Go d mX8_run Q 259 ([some (.ref l0), some (.ref l1), some (.ref l2), some (.int l3), none, some (.int l5), some (.int l6), some (.int v2), some (.int v3)], [], c, s) M3) ∧ (¬ v2 = 12 → ((v2 = 13 → pK M3 l0 = (1, 8) ∧ ∃ b9 : Nat, pP M3 l0 0 = b9 + 1 ∧ pK M3 l2 = (1, 3) ∧ ∃ b10 : Nat, pP M3 l2 0 = b10 + 1 ∧ pK M3 l1 = (1, 0) ∧ ∃ b11 : Nat, pP M3 l1 5 = b11 + 1 ∧ pK M3 b11 = (1, 1) ∧ ∃ b12 : Nat, pP M3 b11 6 = b12 + 1 ∧ pK M3 b12 = (1, 5) ∧ pCall_r d mX5_at (0, 0) [.ref b12, .int v3] M3 (fun v5 M7 => pK M7 b10 = (1, 9) ∧ pCall_i d mX9_beginsWith (0, 0) [.ref b10, .ref v5] M7 (fun v6 M8 => ((v6 = 0 → pK M8 b9 = (1, 9) ∧ pCall_v d mX9_add (0, 0) [.ref b9, .int 0] M8 (fun M9 => Go d mX8_run Q 346 ([some (.ref l0), some (.ref l1), some (.ref l2), some (.int l3), none, some (.int l5), some (.int l6), none, none], [], c, s) M9)) ∧ (¬ v6 = 0 → pK M8 b9 = (1, 9) ∧ pCall_v d mX9_add (0, 0) [.ref b9, .int 1] M8 (fun M10 => Go d mX8_run Q 346 ([some (.ref l0), some (.ref l1), some (.ref l2), some (.int l3), none, some (.int l5), some (.int l6), none, none], [], c, s) M10)))))) ∧ (¬ v2 = 13 → ((v2 = 14 → pK M3 l0 = (1, 8) ∧ ∃ b13 : Nat, pP M3 l0 0 = b13 + 1 ∧ pK M3 l0 = (1, 8) ∧ ∃ b14 : Nat, pP M3 l0 0 = b14 + 1 ∧ pK M3 b14 = (1, 9) ∧ pCall_i d mX9_removeLast (0, 0) [.ref b14] M3 (fun v7 M11 => ((v7 = 0 → pK M11 b13 = (1, 9) ∧ pCall_v d mX9_add (0, 0) [.ref b13, .int 1] M11 (fun M12 => Go d mX8_run Q 346 ([some (.ref l0), some (.ref l1), some (.ref l2), some (.int l3), none, some (.int l5), some (.int l6), none, none], [], c, s) M12)) ∧ (¬ v7 = 0 → pK M11 b13 = (1, 9) ∧ pCall_v d mX9_add (0, 0) [.ref b13, .int 0] M11 (fun M13 => Go d mX8_run Q 346 ([some (.ref l0), some (.ref l1), some (.ref l2), some (.int l3), none, some (.int l5), some (.int l6), none, none], [], c, s) M13))))) ∧ (¬ v2 = 14 → ((v2 = 15 → Go d mX8_run Q 320 ([some (.ref l0), some (.ref l1), some (.ref l2), some (.int l3), none, some (.int l5), some (.int l6), some (.int v2), none], [], c, s) M3) ∧ (¬ v2 = 15 → ((v2 = 16 → Go d mX8_run Q 320 ([some (.ref l0), some (.ref l1), some (.ref l2), some (.int l3), none, some (.int l5), some (.int l6), some (.int v2), none], [], c, s) M3) ∧ (¬ v2 = 16 → ((v2 = 17 → Go d mX8_run Q 320 ([some (.ref l0), some (.ref l1), some (.ref l2), some (.int l3), none, some (.int l5), some (.int l6), some (.int v2), none], [], c, s) M3) ∧ (¬ v2 = 17 → ((v2 = 18 → Go d mX8_run Q 320 ([some (.ref l0), some (.ref l1), some (.ref l2), some (.int l3), none, some (.int l5), some (.int l6), some (.int v2), none], [], c, s) M3) ∧ (¬ v2 = 18 → ((v2 = 19 → Go d mX8_run Q 320 ([some (.ref l0), some (.ref l1), some (.ref l2), some (.int l3), none, some (.int l5), some (.int l6), some (.int v2), none], [], c, s) M3) ∧ (¬ v2 = 19 → ((v2 = 20 → Go d mX8_run Q 320 ([some (.ref l0), some (.ref l1), some (.ref l2), some (.int l3), none, some (.int l5), some (.int l6), some (.int v2), none], [], c, s) M3) ∧ (¬ v2 = 20 → ((v2 = 21 → pK M3 l0 = (1, 8) ∧ ∃ b15 : Nat, pP M3 l0 0 = b15 + 1 ∧ pK M3 b15 = (1, 9) ∧ pCall_v d mX9_add (0, 0) [.ref b15, .int v3] M3 (fun M14 => Go d mX8_run Q 346 ([some (.ref l0), some (.ref l1), some (.ref l2), some (.int l3), none, some (.int l5), some (.int l6), none, none], [], c, s) M14)) ∧ (¬ v2 = 21 → ((v2 = 22 → Go d mX8_run Q 320 ([some (.ref l0), some (.ref l1), some (.ref l2), some (.int l3), none, some (.int l5), some (.int l6), some (.int v2), none], [], c, s) M3) ∧ (¬ v2 = 22 → ((v2 = 23 → Go d mX8_run Q 320 ([some (.ref l0), some (.ref l1), some (.ref l2), some (.int l3), none, some (.int l5), some (.int l6), some (.int v2), none], [], c, s) M3) ∧ (¬ v2 = 23 → ((v2 = 24 → Go d mX8_run Q 320 ([some (.ref l0), some (.ref l1), some (.ref l2), some (.int l3), none, some (.int l5), some (.int l6), some (.int v2), none], [], c, s) M3) ∧ (¬ v2 = 24 → ((v2 = 25 → Go d mX8_run Q 320 ([some (.ref l0), some (.ref l1), some (.ref l2), some (.int l3), none, some (.int l5), some (.int l6), some (.int v2), none], [], c, s) M3) ∧ (¬ v2 = 25 → ((v2 = 26 → Go d mX8_run Q 320 ([some (.ref l0), some (.ref l1), some (.ref l2), some (.int l3), none, some (.int l5), some (.int l6), some (.int v2), none], [], c, s) M3) ∧ (¬ v2 = 26 → ((v2 = 27 → Go d mX8_run Q 320 ([some (.ref l0), some (.ref l1), some (.ref l2), some (.int l3), none, some (.int l5), some (.int l6), some (.int v2), none], [], c, s) M3) ∧ (¬ v2 = 27 → ((v2 = 28 → Go d mX8_run Q 320 ([some (.ref l0), some (.ref l1), some (.ref l2), some (.int l3), none, some (.int l5), some (.int l6), some (.int v2), none], [], c, s) M3) ∧ (¬ v2 = 28 → ((v2 = 29 → Go d mX8_run Q 320 ([some (.ref l0), some (.ref l1), some (.ref l2), some (.int l3), none, some (.int l5), some (.int l6), some (.int v2), none], [], c, s) M3) ∧ (¬ v2 = 29 → ((v2 = 30 → pK M3 l0 = (1, 8) ∧ ∃ b16 : Nat, pP M3 l0 0 = b16 + 1 ∧ pK M3 l0 = (1, 8) ∧ ∃ b17 : Nat, pP M3 l0 0 = b17 + 1 ∧ pK M3 b17 = (1, 9) ∧ pCall_i d mX9_removeLast (0, 0) [.ref b17] M3 (fun v8 M15 => pK M15 b16 = (1, 9) ∧ pCall_v d mX9_add (0, 0) [.ref b16, .int (-v8)] M15 (fun M16 => Go d mX8_run Q 346 ([some (.ref l0), some (.ref l1), some (.ref l2), some (.int l3), none, some (.int l5), some (.int l6), none, none], [], c, s) M16))) ∧ (¬ v2 = 30 → Go d mX8_run Q 320 ([some (.ref l0), some (.ref l1), some (.ref l2), some (.int l3), none, some (.int l5), some (.int l6), some (.int v2), none], [], c, s) M3))))))))))))))))))))))))))))))))))))))))))))))))))))))))))))))) : Go d mX8_run Q 11 ([some (.ref l0), some (.ref l1), some (.ref l2), some (.int l3), none, some (.int l5), some (.int l6), none, none], [], c, s) M := by
  refine st_iload oX8_run_11 rfl ?_
  refine st_iload oX8_run_13 rfl ?_
  refine st_icmp oX8_run_15 (fun g => ?_) (fun g => ?_)
  · have h := h.1 g
    refine st_aload oX8_run_352 rfl ?_
    obtain ⟨hK, b1, hP, h⟩ := h
    refine st_getP oX8_run_353 hK hP ?_
    obtain ⟨hK, h⟩ := h
    refine st_callV0_i [] oX8_run_356 rfl rfl hK (ps8 rfl) (pCall_i.mono h (fun v1 M1 h => ?_))
    exact st_iret oX8_run_359 h
  · have h := h.2 g
    refine st_aload oX8_run_18 rfl ?_
    obtain ⟨hK, b2, hP, h⟩ := h
    refine st_getP oX8_run_19 hK hP ?_
    obtain ⟨hK, b3, hP, h⟩ := h
    refine st_getP oX8_run_22 hK hP ?_
    refine st_iload oX8_run_25 rfl ?_
    obtain ⟨hK, h⟩ := h
    refine st_callV0_i [.int l6] oX8_run_27 rfl rfl hK (ps8 rfl) (pCall_i.mono h (fun v2 M2 h => ?_))
    refine st_istore (L2 := [some (.ref l0), some (.ref l1), some (.ref l2), some (.int l3), none, some (.int l5), some (.int l6), some (.int v2), none]) oX8_run_30 (by decide) rfl rfl ?_
    refine st_aload oX8_run_32 rfl ?_
    obtain ⟨hK, b4, hP, h⟩ := h
    refine st_getP oX8_run_33 hK hP ?_
    obtain ⟨hK, b5, hP, h⟩ := h
    refine st_getP oX8_run_36 hK hP ?_
    refine st_iload oX8_run_39 rfl ?_
    obtain ⟨hK, h⟩ := h
    refine st_callV0_i [.int l6] oX8_run_41 rfl rfl hK (ps8 rfl) (pCall_i.mono h (fun v3 M3 h => ?_))
    refine st_istore (L2 := [some (.ref l0), some (.ref l1), some (.ref l2), some (.int l3), none, some (.int l5), some (.int l6), some (.int v2), some (.int v3)]) oX8_run_44 (by decide) rfl rfl ?_
    refine st_iload oX8_run_46 rfl ?_
    refine st_sw oX8_run_48 ?_
    refine And.intro (fun g => ?_) (fun g => ?_)
    · have h := h.1 g
      refine st_aload oX8_run_203 rfl ?_
      obtain ⟨hK, b6, hP, h⟩ := h
      refine st_getP oX8_run_204 hK hP ?_
      refine st_aload oX8_run_207 rfl ?_
      obtain ⟨hK, b7, hP, h⟩ := h
      refine st_getP oX8_run_208 hK hP ?_
      refine st_iload oX8_run_211 rfl ?_
      obtain ⟨hK, h⟩ := h
      refine st_callV0_i [.int v3] oX8_run_213 rfl rfl hK (ps8 rfl) (pCall_i.mono h (fun v4 M4 h => ?_))
      obtain ⟨hK, h⟩ := h
      refine st_callV0_v [.int v4] oX8_run_216 rfl rfl hK (ps8 rfl) (pCall_v.mono h (fun M5 h => ?_))
      refine st_goto oX8_run_219 ?_
      exact Go.wk (L := [some (.ref l0), some (.ref l1), some (.ref l2), some (.int l3), none, some (.int l5), some (.int l6), none, none]) (And.intro (Or.inr rfl) (And.intro (Or.inr rfl) (And.intro (Or.inr rfl) (And.intro (Or.inr rfl) (And.intro (Or.inr rfl) (And.intro (Or.inr rfl) (And.intro (Or.inr rfl) (And.intro (Or.inl rfl) (And.intro (Or.inl rfl) True.intro))))))))) h
    · have h := h.2 g
      refine And.intro (fun g => ?_) (fun g => ?_)
      · have h := h.1 g
        exact Go.wk (L := [some (.ref l0), some (.ref l1), some (.ref l2), some (.int l3), none, some (.int l5), some (.int l6), some (.int v2), none]) (And.intro (Or.inr rfl) (And.intro (Or.inr rfl) (And.intro (Or.inr rfl) (And.intro (Or.inr rfl) (And.intro (Or.inr rfl) (And.intro (Or.inr rfl) (And.intro (Or.inr rfl) (And.intro (Or.inr rfl) (And.intro (Or.inl rfl) True.intro))))))))) h
      · have h := h.2 g
        refine And.intro (fun g => ?_) (fun g => ?_)
        · have h := h.1 g
          exact Go.wk (L := [some (.ref l0), some (.ref l1), some (.ref l2), some (.int l3), none, some (.int l5), some (.int l6), some (.int v2), none]) (And.intro (Or.inr rfl) (And.intro (Or.inr rfl) (And.intro (Or.inr rfl) (And.intro (Or.inr rfl) (And.intro (Or.inr rfl) (And.intro (Or.inr rfl) (And.intro (Or.inr rfl) (And.intro (Or.inr rfl) (And.intro (Or.inl rfl) True.intro))))))))) h
        · have h := h.2 g
          refine And.intro (fun g => ?_) (fun g => ?_)
          · have h := h.1 g
            exact Go.wk (L := [some (.ref l0), some (.ref l1), some (.ref l2), some (.int l3), none, some (.int l5), some (.int l6), some (.int v2), none]) (And.intro (Or.inr rfl) (And.intro (Or.inr rfl) (And.intro (Or.inr rfl) (And.intro (Or.inr rfl) (And.intro (Or.inr rfl) (And.intro (Or.inr rfl) (And.intro (Or.inr rfl) (And.intro (Or.inr rfl) (And.intro (Or.inl rfl) True.intro))))))))) h
          · have h := h.2 g
            refine And.intro (fun g => ?_) (fun g => ?_)
            · have h := h.1 g
              exact Go.wk (L := [some (.ref l0), some (.ref l1), some (.ref l2), some (.int l3), none, some (.int l5), some (.int l6), some (.int v2), none]) (And.intro (Or.inr rfl) (And.intro (Or.inr rfl) (And.intro (Or.inr rfl) (And.intro (Or.inr rfl) (And.intro (Or.inr rfl) (And.intro (Or.inr rfl) (And.intro (Or.inr rfl) (And.intro (Or.inr rfl) (And.intro (Or.inl rfl) True.intro))))))))) h
            · have h := h.2 g
              refine And.intro (fun g => ?_) (fun g => ?_)
              · have h := h.1 g
                exact Go.wk (L := [some (.ref l0), some (.ref l1), some (.ref l2), some (.int l3), none, some (.int l5), some (.int l6), some (.int v2), none]) (And.intro (Or.inr rfl) (And.intro (Or.inr rfl) (And.intro (Or.inr rfl) (And.intro (Or.inr rfl) (And.intro (Or.inr rfl) (And.intro (Or.inr rfl) (And.intro (Or.inr rfl) (And.intro (Or.inr rfl) (And.intro (Or.inl rfl) True.intro))))))))) h
              · have h := h.2 g
                refine And.intro (fun g => ?_) (fun g => ?_)
                · have h := h.1 g
                  exact h
                · have h := h.2 g
                  refine And.intro (fun g => ?_) (fun g => ?_)
                  · have h := h.1 g
                    exact h
                  · have h := h.2 g
                    refine And.intro (fun g => ?_) (fun g => ?_)
                    · have h := h.1 g
                      exact h
                    · have h := h.2 g
                      refine And.intro (fun g => ?_) (fun g => ?_)
                      · have h := h.1 g
                        refine st_aload oX8_run_192 rfl ?_
                        obtain ⟨hK, b8, hP, h⟩ := h
                        refine st_getP oX8_run_193 hK hP ?_
                        refine st_iload oX8_run_196 rfl ?_
                        obtain ⟨hK, h⟩ := h
                        refine st_callV0_v [.int l3] oX8_run_197 rfl rfl hK (ps8 rfl) (pCall_v.mono h (fun M6 h => ?_))
                        refine st_goto oX8_run_200 ?_
                        exact Go.wk (L := [some (.ref l0), some (.ref l1), some (.ref l2), some (.int l3), none, some (.int l5), some (.int l6), none, none]) (And.intro (Or.inr rfl) (And.intro (Or.inr rfl) (And.intro (Or.inr rfl) (And.intro (Or.inr rfl) (And.intro (Or.inr rfl) (And.intro (Or.inr rfl) (And.intro (Or.inr rfl) (And.intro (Or.inl rfl) (And.intro (Or.inl rfl) True.intro))))))))) h
                      · have h := h.2 g
                        refine And.intro (fun g => ?_) (fun g => ?_)
                        · have h := h.1 g
                          exact h
                        · have h := h.2 g
                          refine And.intro (fun g => ?_) (fun g => ?_)
                          · have h := h.1 g
                            refine st_aload oX8_run_222 rfl ?_
                            obtain ⟨hK, b9, hP, h⟩ := h
                            refine st_getP oX8_run_223 hK hP ?_
                            refine st_aload oX8_run_226 rfl ?_
                            obtain ⟨hK, b10, hP, h⟩ := h
                            refine st_getP oX8_run_227 hK hP ?_
                            refine st_aload oX8_run_230 rfl ?_
                            obtain ⟨hK, b11, hP, h⟩ := h
                            refine st_getP oX8_run_231 hK hP ?_
                            obtain ⟨hK, b12, hP, h⟩ := h
                            refine st_getP oX8_run_234 hK hP ?_
                            refine st_iload oX8_run_237 rfl ?_
                            obtain ⟨hK, h⟩ := h
                            refine st_callV0_r [.int v3] oX8_run_239 rfl rfl hK (ps8 rfl) (pCall_r.mono h (fun v5 M7 h => ?_))
                            obtain ⟨hK, h⟩ := h
                            refine st_callV0_i [.ref v5] oX8_run_242 rfl rfl hK (ps8 rfl) (pCall_i.mono h (fun v6 M8 h => ?_))
                            refine st_if oX8_run_245 (fun g => ?_) (fun g => ?_)
                            · have h := h.1 g
                              refine st_const oX8_run_252 ?_
                              obtain ⟨hK, h⟩ := h
                              refine st_callV0_v [.int 0] oX8_run_253 rfl rfl hK (ps8 rfl) (pCall_v.mono h (fun M9 h => ?_))
                              refine st_goto oX8_run_256 ?_
                              exact Go.wk (L := [some (.ref l0), some (.ref l1), some (.ref l2), some (.int l3), none, some (.int l5), some (.int l6), none, none]) (And.intro (Or.inr rfl) (And.intro (Or.inr rfl) (And.intro (Or.inr rfl) (And.intro (Or.inr rfl) (And.intro (Or.inr rfl) (And.intro (Or.inr rfl) (And.intro (Or.inr rfl) (And.intro (Or.inl rfl) (And.intro (Or.inl rfl) True.intro))))))))) h
                            · have h := h.2 g
                              refine st_const oX8_run_248 ?_
                              refine st_goto oX8_run_249 ?_
                              obtain ⟨hK, h⟩ := h
                              refine st_callV0_v [.int 1] oX8_run_253 rfl rfl hK (ps8 rfl) (pCall_v.mono h (fun M10 h => ?_))
                              refine st_goto oX8_run_256 ?_
                              exact Go.wk (L := [some (.ref l0), some (.ref l1), some (.ref l2), some (.int l3), none, some (.int l5), some (.int l6), none, none]) (And.intro (Or.inr rfl) (And.intro (Or.inr rfl) (And.intro (Or.inr rfl) (And.intro (Or.inr rfl) (And.intro (Or.inr rfl) (And.intro (Or.inr rfl) (And.intro (Or.inr rfl) (And.intro (Or.inl rfl) (And.intro (Or.inl rfl) True.intro))))))))) h
                          · have h := h.2 g
                            refine And.intro (fun g => ?_) (fun g => ?_)
                            · have h := h.1 g
                              refine st_aload oX8_run_295 rfl ?_
                              obtain ⟨hK, b13, hP, h⟩ := h
                              refine st_getP oX8_run_296 hK hP ?_
                              refine st_aload oX8_run_299 rfl ?_
                              obtain ⟨hK, b14, hP, h⟩ := h
                              refine st_getP oX8_run_300 hK hP ?_
                              obtain ⟨hK, h⟩ := h
                              refine st_callV0_i [] oX8_run_303 rfl rfl hK (ps8 rfl) (pCall_i.mono h (fun v7 M11 h => ?_))
                              refine st_if oX8_run_306 (fun g => ?_) (fun g => ?_)
                              · have h := h.1 g
                                refine st_const oX8_run_309 ?_
                                refine st_goto oX8_run_310 ?_
                                obtain ⟨hK, h⟩ := h
                                refine st_callV0_v [.int 1] oX8_run_314 rfl rfl hK (ps8 rfl) (pCall_v.mono h (fun M12 h => ?_))
                                refine st_goto oX8_run_317 ?_
                                exact Go.wk (L := [some (.ref l0), some (.ref l1), some (.ref l2), some (.int l3), none, some (.int l5), some (.int l6), none, none]) (And.intro (Or.inr rfl) (And.intro (Or.inr rfl) (And.intro (Or.inr rfl) (And.intro (Or.inr rfl) (And.intro (Or.inr rfl) (And.intro (Or.inr rfl) (And.intro (Or.inr rfl) (And.intro (Or.inl rfl) (And.intro (Or.inl rfl) True.intro))))))))) h
                              · have h := h.2 g
                                refine st_const oX8_run_313 ?_
                                obtain ⟨hK, h⟩ := h
                                refine st_callV0_v [.int 0] oX8_run_314 rfl rfl hK (ps8 rfl) (pCall_v.mono h (fun M13 h => ?_))
                                refine st_goto oX8_run_317 ?_
                                exact Go.wk (L := [some (.ref l0), some (.ref l1), some (.ref l2), some (.int l3), none, some (.int l5), some (.int l6), none, none]) (And.intro (Or.inr rfl) (And.intro (Or.inr rfl) (And.intro (Or.inr rfl) (And.intro (Or.inr rfl) (And.intro (Or.inr rfl) (And.intro (Or.inr rfl) (And.intro (Or.inr rfl) (And.intro (Or.inl rfl) (And.intro (Or.inl rfl) True.intro))))))))) h
                            · have h := h.2 g
                              refine And.intro (fun g => ?_) (fun g => ?_)
                              · have h := h.1 g
                                exact Go.wk (L := [some (.ref l0), some (.ref l1), some (.ref l2), some (.int l3), none, some (.int l5), some (.int l6), some (.int v2), none]) (And.intro (Or.inr rfl) (And.intro (Or.inr rfl) (And.intro (Or.inr rfl) (And.intro (Or.inr rfl) (And.intro (Or.inr rfl) (And.intro (Or.inr rfl) (And.intro (Or.inr rfl) (And.intro (Or.inr rfl) (And.intro (Or.inl rfl) True.intro))))))))) h
                              · have h := h.2 g
                                refine And.intro (fun g => ?_) (fun g => ?_)
                                · have h := h.1 g
                                  exact Go.wk (L := [some (.ref l0), some (.ref l1), some (.ref l2), some (.int l3), none, some (.int l5), some (.int l6), some (.int v2), none]) (And.intro (Or.inr rfl) (And.intro (Or.inr rfl) (And.intro (Or.inr rfl) (And.intro (Or.inr rfl) (And.intro (Or.inr rfl) (And.intro (Or.inr rfl) (And.intro (Or.inr rfl) (And.intro (Or.inr rfl) (And.intro (Or.inl rfl) True.intro))))))))) h
                                · have h := h.2 g
                                  refine And.intro (fun g => ?_) (fun g => ?_)
                                  · have h := h.1 g
                                    exact Go.wk (L := [some (.ref l0), some (.ref l1), some (.ref l2), some (.int l3), none, some (.int l5), some (.int l6), some (.int v2), none]) (And.intro (Or.inr rfl) (And.intro (Or.inr rfl) (And.intro (Or.inr rfl) (And.intro (Or.inr rfl) (And.intro (Or.inr rfl) (And.intro (Or.inr rfl) (And.intro (Or.inr rfl) (And.intro (Or.inr rfl) (And.intro (Or.inl rfl) True.intro))))))))) h
                                  · have h := h.2 g
                                    refine And.intro (fun g => ?_) (fun g => ?_)
                                    · have h := h.1 g
                                      exact Go.wk (L := [some (.ref l0), some (.ref l1), some (.ref l2), some (.int l3), none, some (.int l5), some (.int l6), some (.int v2), none]) (And.intro (Or.inr rfl) (And.intro (Or.inr rfl) (And.intro (Or.inr rfl) (And.intro (Or.inr rfl) (And.intro (Or.inr rfl) (And.intro (Or.inr rfl) (And.intro (Or.inr rfl) (And.intro (Or.inr rfl) (And.intro (Or.inl rfl) True.intro))))))))) h
                                    · have h := h.2 g
                                      refine And.intro (fun g => ?_) (fun g => ?_)
                                      · have h := h.1 g
                                        exact Go.wk (L := [some (.ref l0), some (.ref l1), some (.ref l2), some (.int l3), none, some (.int l5), some (.int l6), some (.int v2), none]) (And.intro (Or.inr rfl) (And.intro (Or.inr rfl) (And.intro (Or.inr rfl) (And.intro (Or.inr rfl) (And.intro (Or.inr rfl) (And.intro (Or.inr rfl) (And.intro (Or.inr rfl) (And.intro (Or.inr rfl) (And.intro (Or.inl rfl) True.intro))))))))) h
                                      · have h := h.2 g
                                        refine And.intro (fun g => ?_) (fun g => ?_)
                                        · have h := h.1 g
                                          exact Go.wk (L := [some (.ref l0), some (.ref l1), some (.ref l2), some (.int l3), none, some (.int l5), some (.int l6), some (.int v2), none]) (And.intro (Or.inr rfl) (And.intro (Or.inr rfl) (And.intro (Or.inr rfl) (And.intro (Or.inr rfl) (And.intro (Or.inr rfl) (And.intro (Or.inr rfl) (And.intro (Or.inr rfl) (And.intro (Or.inr rfl) (And.intro (Or.inl rfl) True.intro))))))))) h
                                        · have h := h.2 g
                                          refine And.intro (fun g => ?_) (fun g => ?_)
                                          · have h := h.1 g
                                            refine st_aload oX8_run_180 rfl ?_
                                            obtain ⟨hK, b15, hP, h⟩ := h
                                            refine st_getP oX8_run_181 hK hP ?_
                                            refine st_iload oX8_run_184 rfl ?_
                                            obtain ⟨hK, h⟩ := h
                                            refine st_callV0_v [.int v3] oX8_run_186 rfl rfl hK (ps8 rfl) (pCall_v.mono h (fun M14 h => ?_))
                                            refine st_goto oX8_run_189 ?_
                                            exact Go.wk (L := [some (.ref l0), some (.ref l1), some (.ref l2), some (.int l3), none, some (.int l5), some (.int l6), none, none]) (And.intro (Or.inr rfl) (And.intro (Or.inr rfl) (And.intro (Or.inr rfl) (And.intro (Or.inr rfl) (And.intro (Or.inr rfl) (And.intro (Or.inr rfl) (And.intro (Or.inr rfl) (And.intro (Or.inl rfl) (And.intro (Or.inl rfl) True.intro))))))))) h
                                          · have h := h.2 g
                                            refine And.intro (fun g => ?_) (fun g => ?_)
                                            · have h := h.1 g
                                              exact Go.wk (L := [some (.ref l0), some (.ref l1), some (.ref l2), some (.int l3), none, some (.int l5), some (.int l6), some (.int v2), none]) (And.intro (Or.inr rfl) (And.intro (Or.inr rfl) (And.intro (Or.inr rfl) (And.intro (Or.inr rfl) (And.intro (Or.inr rfl) (And.intro (Or.inr rfl) (And.intro (Or.inr rfl) (And.intro (Or.inr rfl) (And.intro (Or.inl rfl) True.intro))))))))) h
                                            · have h := h.2 g
                                              refine And.intro (fun g => ?_) (fun g => ?_)
                                              · have h := h.1 g
                                                exact Go.wk (L := [some (.ref l0), some (.ref l1), some (.ref l2), some (.int l3), none, some (.int l5), some (.int l6), some (.int v2), none]) (And.intro (Or.inr rfl) (And.intro (Or.inr rfl) (And.intro (Or.inr rfl) (And.intro (Or.inr rfl) (And.intro (Or.inr rfl) (And.intro (Or.inr rfl) (And.intro (Or.inr rfl) (And.intro (Or.inr rfl) (And.intro (Or.inl rfl) True.intro))))))))) h
                                              · have h := h.2 g
                                                refine And.intro (fun g => ?_) (fun g => ?_)
                                                · have h := h.1 g
                                                  exact Go.wk (L := [some (.ref l0), some (.ref l1), some (.ref l2), some (.int l3), none, some (.int l5), some (.int l6), some (.int v2), none]) (And.intro (Or.inr rfl) (And.intro (Or.inr rfl) (And.intro (Or.inr rfl) (And.intro (Or.inr rfl) (And.intro (Or.inr rfl) (And.intro (Or.inr rfl) (And.intro (Or.inr rfl) (And.intro (Or.inr rfl) (And.intro (Or.inl rfl) True.intro))))))))) h
                                                · have h := h.2 g
                                                  refine And.intro (fun g => ?_) (fun g => ?_)
                                                  · have h := h.1 g
                                                    exact Go.wk (L := [some (.ref l0), some (.ref l1), some (.ref l2), some (.int l3), none, some (.int l5), some (.int l6), some (.int v2), none]) (And.intro (Or.inr rfl) (And.intro (Or.inr rfl) (And.intro (Or.inr rfl) (And.intro (Or.inr rfl) (And.intro (Or.inr rfl) (And.intro (Or.inr rfl) (And.intro (Or.inr rfl) (And.intro (Or.inr rfl) (And.intro (Or.inl rfl) True.intro))))))))) h
                                                  · have h := h.2 g
                                                    refine And.intro (fun g => ?_) (fun g => ?_)
                                                    · have h := h.1 g
                                                      exact Go.wk (L := [some (.ref l0), some (.ref l1), some (.ref l2), some (.int l3), none, some (.int l5), some (.int l6), some (.int v2), none]) (And.intro (Or.inr rfl) (And.intro (Or.inr rfl) (And.intro (Or.inr rfl) (And.intro (Or.inr rfl) (And.intro (Or.inr rfl) (And.intro (Or.inr rfl) (And.intro (Or.inr rfl) (And.intro (Or.inr rfl) (And.intro (Or.inl rfl) True.intro))))))))) h
                                                    · have h := h.2 g
                                                      refine And.intro (fun g => ?_) (fun g => ?_)
                                                      · have h := h.1 g
                                                        exact Go.wk (L := [some (.ref l0), some (.ref l1), some (.ref l2), some (.int l3), none, some (.int l5), some (.int l6), some (.int v2), none]) (And.intro (Or.inr rfl) (And.intro (Or.inr rfl) (And.intro (Or.inr rfl) (And.intro (Or.inr rfl) (And.intro (Or.inr rfl) (And.intro (Or.inr rfl) (And.intro (Or.inr rfl) (And.intro (Or.inr rfl) (And.intro (Or.inl rfl) True.intro))))))))) h
                                                      · have h := h.2 g
                                                        refine And.intro (fun g => ?_) (fun g => ?_)
                                                        · have h := h.1 g
                                                          exact Go.wk (L := [some (.ref l0), some (.ref l1), some (.ref l2), some (.int l3), none, some (.int l5), some (.int l6), some (.int v2), none]) (And.intro (Or.inr rfl) (And.intro (Or.inr rfl) (And.intro (Or.inr rfl) (And.intro (Or.inr rfl) (And.intro (Or.inr rfl) (And.intro (Or.inr rfl) (And.intro (Or.inr rfl) (And.intro (Or.inr rfl) (And.intro (Or.inl rfl) True.intro))))))))) h
                                                        · have h := h.2 g
                                                          refine And.intro (fun g => ?_) (fun g => ?_)
                                                          · have h := h.1 g
                                                            exact Go.wk (L := [some (.ref l0), some (.ref l1), some (.ref l2), some (.int l3), none, some (.int l5), some (.int l6), some (.int v2), none]) (And.intro (Or.inr rfl) (And.intro (Or.inr rfl) (And.intro (Or.inr rfl) (And.intro (Or.inr rfl) (And.intro (Or.inr rfl) (And.intro (Or.inr rfl) (And.intro (Or.inr rfl) (And.intro (Or.inr rfl) (And.intro (Or.inl rfl) True.intro))))))))) h
                                                          · have h := h.2 g
                                                            refine And.intro (fun g => ?_) (fun g => ?_)
                                                            · have h := h.1 g
                                                              refine st_aload oX8_run_277 rfl ?_
                                                              obtain ⟨hK, b16, hP, h⟩ := h
                                                              refine st_getP oX8_run_278 hK hP ?_
                                                              refine st_aload oX8_run_281 rfl ?_
                                                              obtain ⟨hK, b17, hP, h⟩ := h
                                                              refine st_getP oX8_run_282 hK hP ?_
                                                              obtain ⟨hK, h⟩ := h
                                                              refine st_callV0_i [] oX8_run_285 rfl rfl hK (ps8 rfl) (pCall_i.mono h (fun v8 M15 h => ?_))
                                                              refine st_iun oX8_run_288 ?_
                                                              obtain ⟨hK, h⟩ := h
                                                              refine st_callV0_v [.int (-v8)] oX8_run_289 rfl rfl hK (ps8 rfl) (pCall_v.mono h (fun M16 h => ?_))
                                                              refine st_goto oX8_run_292 ?_
                                                              exact Go.wk (L := [some (.ref l0), some (.ref l1), some (.ref l2), some (.int l3), none, some (.int l5), some (.int l6), none, none]) (And.intro (Or.inr rfl) (And.intro (Or.inr rfl) (And.intro (Or.inr rfl) (And.intro (Or.inr rfl) (And.intro (Or.inr rfl) (And.intro (Or.inr rfl) (And.intro (Or.inr rfl) (And.intro (Or.inl rfl) (And.intro (Or.inl rfl) True.intro))))))))) h
                                                            · have h := h.2 g
                                                              exact Go.wk (L := [some (.ref l0), some (.ref l1), some (.ref l2), some (.int l3), none, some (.int l5), some (.int l6), some (.int v2), none]) (And.intro (Or.inr rfl) (And.intro (Or.inr rfl) (And.intro (Or.inr rfl) (And.intro (Or.inr rfl) (And.intro (Or.inr rfl) (And.intro (Or.inr rfl) (And.intro (Or.inr rfl) (And.intro (Or.inr rfl) (And.intro (Or.inl rfl) True.intro))))))))) h
theorem bX8_run_259 {d : Nat} {Q : pR → pM → Prop} {c s : Nat} {M : pM} {l0 : Nat} {l1 : Nat} {l2 : Nat} {l3 : Int32} {l5 : Int32} {l6 : Int32} {l7 : Int32} {l8 : Int32} (h : pK M l0 = (1, 8) ∧ ∃ b1 : Nat, pP M l0 0 = b1 + 1 ∧ pCall_i d mX8_ofHand (0, 0) [.int l7, .int l8, .ref l2] M (fun v1 M1 => pK M1 b1 = (1, 9) ∧ pCall_v d mX9_add (0, 0) [.ref b1, .int v1] M1 (fun M2 => Go d mX8_run Q 346 ([some (.ref l0), some (.ref l1), some (.ref l2), some (.int l3), none, some (.int l5), some (.int l6), none, none], [], c, s) M2))) : Go d mX8_run Q 259 ([some (.ref l0), some (.ref l1), some (.ref l2), some (.int l3), none, some (.int l5), some (.int l6), some (.int l7), some (.int l8)], [], c, s) M := by
  refine st_aload oX8_run_259 rfl ?_
  obtain ⟨hK, b1, hP, h⟩ := h
  refine st_getP oX8_run_260 hK hP ?_
  refine st_iload oX8_run_263 rfl ?_
  refine st_iload oX8_run_265 rfl ?_
  refine st_aload oX8_run_267 rfl ?_
  refine st_callS0_i [.int l7, .int l8, .ref l2] oX8_run_268 rfl rfl (ps8 rfl) (pCall_i.mono h (fun v1 M1 h => ?_))
  obtain ⟨hK, h⟩ := h
  refine st_callV0_v [.int v1] oX8_run_271 rfl rfl hK (ps8 rfl) (pCall_v.mono h (fun M2 h => ?_))
  refine st_goto oX8_run_274 ?_
  exact Go.wk (L := [some (.ref l0), some (.ref l1), some (.ref l2), some (.int l3), none, some (.int l5), some (.int l6), none, none]) (And.intro (Or.inr rfl) (And.intro (Or.inr rfl) (And.intro (Or.inr rfl) (And.intro (Or.inr rfl) (And.intro (Or.inr rfl) (And.intro (Or.inr rfl) (And.intro (Or.inr rfl) (And.intro (Or.inl rfl) (And.intro (Or.inl rfl) True.intro))))))))) h
theorem bX8_run_320 {d : Nat} {Q : pR → pM → Prop} {c s : Nat} {M : pM} {l0 : Nat} {l1 : Nat} {l2 : Nat} {l3 : Int32} {l5 : Int32} {l6 : Int32} {l7 : Int32} (h : pK M l0 = (1, 8) ∧ ∃ b1 : Nat, pP M l0 0 = b1 + 1 ∧ pK M l0 = (1, 8) ∧ ∃ b2 : Nat, pP M l0 0 = b2 + 1 ∧ pK M b2 = (1, 9) ∧ pCall_i d mX9_removeLast (0, 0) [.ref b2] M (fun v1 M1 => pK M1 l0 = (1, 8) ∧ ∃ b3 : Nat, pP M1 l0 0 = b3 + 1 ∧ pK M1 b3 = (1, 9) ∧ pCall_i d mX9_removeLast (0, 0) [.ref b3] M1 (fun v2 M2 => pCall_i d mX8_ofTwo (0, 0) [.int l7, .int v1, .int v2] M2 (fun v3 M3 => pK M3 b1 = (1, 9) ∧ pCall_v d mX9_add (0, 0) [.ref b1, .int v3] M3 (fun M4 => Go d mX8_run Q 346 ([some (.ref l0), some (.ref l1), some (.ref l2), some (.int l3), none, some (.int l5), some (.int l6), none, none], [], c, s) M4))))) : Go d mX8_run Q 320 ([some (.ref l0), some (.ref l1), some (.ref l2), some (.int l3), none, some (.int l5), some (.int l6), some (.int l7), none], [], c, s) M := by
  refine st_aload oX8_run_320 rfl ?_
  obtain ⟨hK, b1, hP, h⟩ := h
  refine st_getP oX8_run_321 hK hP ?_
  refine st_iload oX8_run_324 rfl ?_
  refine st_aload oX8_run_326 rfl ?_
  obtain ⟨hK, b2, hP, h⟩ := h
  refine st_getP oX8_run_327 hK hP ?_
  obtain ⟨hK, h⟩ := h
  refine st_callV0_i [] oX8_run_330 rfl rfl hK (ps8 rfl) (pCall_i.mono h (fun v1 M1 h => ?_))
  refine st_aload oX8_run_333 rfl ?_
  obtain ⟨hK, b3, hP, h⟩ := h
  refine st_getP oX8_run_334 hK hP ?_
  obtain ⟨hK, h⟩ := h
  refine st_callV0_i [] oX8_run_337 rfl rfl hK (ps8 rfl) (pCall_i.mono h (fun v2 M2 h => ?_))
  refine st_callS0_i [.int l7, .int v1, .int v2] oX8_run_340 rfl rfl (ps8 rfl) (pCall_i.mono h (fun v3 M3 h => ?_))
  obtain ⟨hK, h⟩ := h
  refine st_callV0_v [.int v3] oX8_run_343 rfl rfl hK (ps8 rfl) (pCall_v.mono h (fun M4 h => ?_))
  exact Go.wk (L := [some (.ref l0), some (.ref l1), some (.ref l2), some (.int l3), none, some (.int l5), some (.int l6), none, none]) (And.intro (Or.inr rfl) (And.intro (Or.inr rfl) (And.intro (Or.inr rfl) (And.intro (Or.inr rfl) (And.intro (Or.inr rfl) (And.intro (Or.inr rfl) (And.intro (Or.inr rfl) (And.intro (Or.inl rfl) (And.intro (Or.inr rfl) True.intro))))))))) h
theorem bX8_run_346 {d : Nat} {Q : pR → pM → Prop} {c s : Nat} {M : pM} {l0 : Nat} {l1 : Nat} {l2 : Nat} {l3 : Int32} {l5 : Int32} {l6 : Int32} (h : Go d mX8_run Q 11 ([some (.ref l0), some (.ref l1), some (.ref l2), some (.int l3), none, some (.int l5), some (.int (l6 + 1)), none, none], [], c, s) M) : Go d mX8_run Q 346 ([some (.ref l0), some (.ref l1), some (.ref l2), some (.int l3), none, some (.int l5), some (.int l6), none, none], [], c, s) M := by
  refine st_iinc (L2 := [some (.ref l0), some (.ref l1), some (.ref l2), some (.int l3), none, some (.int l5), some (.int (l6 + 1)), none, none]) oX8_run_346 rfl (by decide) rfl rfl ?_
  refine st_goto oX8_run_349 ?_
  exact h
theorem bX8_ofHand_0 {d : Nat} {Q : pR → pM → Prop} {c s : Nat} {M : pM} {l0 : Int32} {l1 : Int32} {l2 : Nat} (h : ((l0 = 8 → pK M l2 = (1, 3) ∧ ∃ b1 : Nat, pP M l2 0 = b1 + 1 ∧ pK M b1 = (1, 9) ∧ pCall_i d mX9_size (0, 0) [.ref b1] M (fun v1 M1 => Q (.inl (some (.int v1))) M1)) ∧ (¬ l0 = 8 → ((l0 = 9 → pK M l2 = (1, 3) ∧ Q (.inl (some (.int (pI M l2 1)))) M) ∧ (¬ l0 = 9 → ((l0 = 10 → pK M l2 = (1, 3) ∧ Q (.inl (some (.int (pI M l2 3)))) M) ∧ (¬ l0 = 10 → pK M l2 = (1, 3) ∧ (((pI M l2 2) = l1 → Q (.inl (some (.int 1))) M) ∧ (¬ (pI M l2 2) = l1 → Q (.inl (some (.int 0))) M))))))))) : Go d mX8_ofHand Q 0 ([some (.int l0), some (.int l1), some (.ref l2)], [], c, s) M := by
  refine st_iload oX8_ofHand_0 rfl ?_
  refine st_sw oX8_ofHand_1 ?_
  refine And.intro (fun g => ?_) (fun g => ?_)
  · have h := h.1 g
    refine st_aload oX8_ofHand_28 rfl ?_
    obtain ⟨hK, b1, hP, h⟩ := h
    refine st_getP oX8_ofHand_29 hK hP ?_
    obtain ⟨hK, h⟩ := h
    refine st_callV0_i [] oX8_ofHand_32 rfl rfl hK (ps8 rfl) (pCall_i.mono h (fun v1 M1 h => ?_))
    exact st_iret oX8_ofHand_35 h
  · have h := h.2 g
    refine And.intro (fun g => ?_) (fun g => ?_)
    · have h := h.1 g
      refine st_aload oX8_ofHand_36 rfl ?_
      obtain ⟨hK, h⟩ := h
      refine st_getI oX8_ofHand_37 hK ?_
      exact st_iret oX8_ofHand_40 h
    · have h := h.2 g
      refine And.intro (fun g => ?_) (fun g => ?_)
      · have h := h.1 g
        refine st_aload oX8_ofHand_41 rfl ?_
        obtain ⟨hK, h⟩ := h
        refine st_getI oX8_ofHand_42 hK ?_
        exact st_iret oX8_ofHand_45 h
      · have h := h.2 g
        refine st_aload oX8_ofHand_46 rfl ?_
        obtain ⟨hK, h⟩ := h
        refine st_getI oX8_ofHand_47 hK ?_
        refine st_iload oX8_ofHand_50 rfl ?_
        refine st_icmp oX8_ofHand_51 (fun g => ?_) (fun g => ?_)
        · have h := h.1 g
          refine st_const oX8_ofHand_54 ?_
          refine st_goto oX8_ofHand_55 ?_
          exact st_iret oX8_ofHand_59 h
        · have h := h.2 g
          refine st_const oX8_ofHand_58 ?_
          exact st_iret oX8_ofHand_59 h
theorem bX8_ofTwo_0 {d : Nat} {Q : pR → pM → Prop} {c s : Nat} {M : pM} {l0 : Int32} {l1 : Int32} {l2 : Int32} (h : ((l0 = 17 → Q (.inl (some (.int (if l1 < l2 then l1 else l2)))) M) ∧ (¬ l0 = 17 → ((l0 = 18 → Q (.inl (some (.int (if l2 < l1 then l1 else l2)))) M) ∧ (¬ l0 = 18 → ((l0 = 42 → Q (.inl (some (.int (l2 * l1)))) M) ∧ (¬ l0 = 42 → ((l0 = 43 → Q (.inl (some (.int (l2 + l1)))) M) ∧ (¬ l0 = 43 → ((l0 = 45 → Q (.inl (some (.int (l2 - l1)))) M) ∧ (¬ l0 = 45 → ((l0 = 47 → ((l1 = 0 → Q (.inl (some (.int 0))) M) ∧ (¬ l1 = 0 → ¬ l1 = 0 ∧ Q (.inl (some (.int (l2 / l1)))) M))) ∧ (¬ l0 = 47 → pCall_i d mX8_holds (0, 0) [.int l0, .int l2, .int l1] M (fun v1 M1 => ((v1 = 0 → Q (.inl (some (.int 0))) M1) ∧ (¬ v1 = 0 → Q (.inl (some (.int 1))) M1)))))))))))))))) : Go d mX8_ofTwo Q 0 ([some (.int l0), some (.int l1), some (.int l2)], [], c, s) M := by
  refine st_iload oX8_ofTwo_0 rfl ?_
  refine st_sw oX8_ofTwo_1 ?_
  refine And.intro (fun g => ?_) (fun g => ?_)
  · have h := h.1 g
    refine st_iload oX8_ofTwo_84 rfl ?_
    refine st_iload oX8_ofTwo_85 rfl ?_
    refine st_min oX8_ofTwo_86 (ps8 rfl) ?_
    exact st_iret oX8_ofTwo_89 h
  · have h := h.2 g
    refine And.intro (fun g => ?_) (fun g => ?_)
    · have h := h.1 g
      refine st_iload oX8_ofTwo_90 rfl ?_
      refine st_iload oX8_ofTwo_91 rfl ?_
      refine st_max oX8_ofTwo_92 (ps8 rfl) ?_
      exact st_iret oX8_ofTwo_95 h
    · have h := h.2 g
      refine And.intro (fun g => ?_) (fun g => ?_)
      · have h := h.1 g
        refine st_iload oX8_ofTwo_68 rfl ?_
        refine st_iload oX8_ofTwo_69 rfl ?_
        refine st_ibin oX8_ofTwo_70 ?_
        exact st_iret oX8_ofTwo_71 h
      · have h := h.2 g
        refine And.intro (fun g => ?_) (fun g => ?_)
        · have h := h.1 g
          refine st_iload oX8_ofTwo_60 rfl ?_
          refine st_iload oX8_ofTwo_61 rfl ?_
          refine st_ibin oX8_ofTwo_62 ?_
          exact st_iret oX8_ofTwo_63 h
        · have h := h.2 g
          refine And.intro (fun g => ?_) (fun g => ?_)
          · have h := h.1 g
            refine st_iload oX8_ofTwo_64 rfl ?_
            refine st_iload oX8_ofTwo_65 rfl ?_
            refine st_ibin oX8_ofTwo_66 ?_
            exact st_iret oX8_ofTwo_67 h
          · have h := h.2 g
            refine And.intro (fun g => ?_) (fun g => ?_)
            · have h := h.1 g
              refine st_iload oX8_ofTwo_72 rfl ?_
              refine st_if oX8_ofTwo_73 (fun g => ?_) (fun g => ?_)
              · have h := h.1 g
                refine st_const oX8_ofTwo_76 ?_
                refine st_goto oX8_ofTwo_77 ?_
                exact st_iret oX8_ofTwo_83 h
              · have h := h.2 g
                refine st_iload oX8_ofTwo_80 rfl ?_
                refine st_iload oX8_ofTwo_81 rfl ?_
                obtain ⟨h0, h⟩ := h
                refine st_idiv oX8_ofTwo_82 h0 ?_
                exact st_iret oX8_ofTwo_83 h
            · have h := h.2 g
              refine st_iload oX8_ofTwo_96 rfl ?_
              refine st_iload oX8_ofTwo_97 rfl ?_
              refine st_iload oX8_ofTwo_98 rfl ?_
              refine st_callS0_i [.int l0, .int l2, .int l1] oX8_ofTwo_99 rfl rfl (ps8 rfl) (pCall_i.mono h (fun v1 M1 h => ?_))
              refine st_if oX8_ofTwo_102 (fun g => ?_) (fun g => ?_)
              · have h := h.1 g
                refine st_const oX8_ofTwo_109 ?_
                exact st_iret oX8_ofTwo_110 h
              · have h := h.2 g
                refine st_const oX8_ofTwo_105 ?_
                refine st_goto oX8_ofTwo_106 ?_
                exact st_iret oX8_ofTwo_110 h
theorem bX8_holds_0 {d : Nat} {Q : pR → pM → Prop} {c s : Nat} {M : pM} {l0 : Int32} {l1 : Int32} {l2 : Int32} (h : ((l0 = 15 → ((l1 = 0 → Q (.inl (some (.int 0))) M) ∧ (¬ l1 = 0 → ((l2 = 0 → Q (.inl (some (.int 0))) M) ∧ (¬ l2 = 0 → Q (.inl (some (.int 1))) M))))) ∧ (¬ l0 = 15 → ((l0 = 22 → ((l2 < l1 → Q (.inl (some (.int 0))) M) ∧ (¬ l2 < l1 → Q (.inl (some (.int 1))) M))) ∧ (¬ l0 = 22 → ((l0 = 23 → ((l1 < l2 → Q (.inl (some (.int 0))) M) ∧ (¬ l1 < l2 → Q (.inl (some (.int 1))) M))) ∧ (¬ l0 = 23 → ((l0 = 60 → ((l2 ≤ l1 → Q (.inl (some (.int 0))) M) ∧ (¬ l2 ≤ l1 → Q (.inl (some (.int 1))) M))) ∧ (¬ l0 = 60 → ((l0 = 61 → ((l1 = l2 → Q (.inl (some (.int 1))) M) ∧ (¬ l1 = l2 → Q (.inl (some (.int 0))) M))) ∧ (¬ l0 = 61 → ((l0 = 62 → ((l1 ≤ l2 → Q (.inl (some (.int 0))) M) ∧ (¬ l1 ≤ l2 → Q (.inl (some (.int 1))) M))) ∧ (¬ l0 = 62 → ((l1 = 0 → ((l2 = 0 → Q (.inl (some (.int 0))) M) ∧ (¬ l2 = 0 → Q (.inl (some (.int 1))) M))) ∧ (¬ l1 = 0 → Q (.inl (some (.int 1))) M))))))))))))))) : Go d mX8_holds Q 0 ([some (.int l0), some (.int l1), some (.int l2)], [], c, s) M := by
  refine st_iload oX8_holds_0 rfl ?_
  refine st_sw oX8_holds_1 ?_
  refine And.intro (fun g => ?_) (fun g => ?_)
  · have h := h.1 g
    refine st_iload oX8_holds_115 rfl ?_
    refine st_if oX8_holds_116 (fun g => ?_) (fun g => ?_)
    · have h := h.1 g
      refine st_const oX8_holds_127 ?_
      exact st_zret oX8_holds_128 (Or.inl rfl) h
    · have h := h.2 g
      refine st_iload oX8_holds_119 rfl ?_
      refine st_if oX8_holds_120 (fun g => ?_) (fun g => ?_)
      · have h := h.1 g
        refine st_const oX8_holds_127 ?_
        exact st_zret oX8_holds_128 (Or.inl rfl) h
      · have h := h.2 g
        refine st_const oX8_holds_123 ?_
        refine st_goto oX8_holds_124 ?_
        exact st_zret oX8_holds_128 (Or.inr rfl) h
  · have h := h.2 g
    refine And.intro (fun g => ?_) (fun g => ?_)
    · have h := h.1 g
      refine st_iload oX8_holds_93 rfl ?_
      refine st_iload oX8_holds_94 rfl ?_
      refine st_icmp oX8_holds_95 (fun g => ?_) (fun g => ?_)
      · have h := h.1 g
        refine st_const oX8_holds_102 ?_
        exact st_zret oX8_holds_103 (Or.inl rfl) h
      · have h := h.2 g
        refine st_const oX8_holds_98 ?_
        refine st_goto oX8_holds_99 ?_
        exact st_zret oX8_holds_103 (Or.inr rfl) h
    · have h := h.2 g
      refine And.intro (fun g => ?_) (fun g => ?_)
      · have h := h.1 g
        refine st_iload oX8_holds_104 rfl ?_
        refine st_iload oX8_holds_105 rfl ?_
        refine st_icmp oX8_holds_106 (fun g => ?_) (fun g => ?_)
        · have h := h.1 g
          refine st_const oX8_holds_113 ?_
          exact st_zret oX8_holds_114 (Or.inl rfl) h
        · have h := h.2 g
          refine st_const oX8_holds_109 ?_
          refine st_goto oX8_holds_110 ?_
          exact st_zret oX8_holds_114 (Or.inr rfl) h
      · have h := h.2 g
        refine And.intro (fun g => ?_) (fun g => ?_)
        · have h := h.1 g
          refine st_iload oX8_holds_60 rfl ?_
          refine st_iload oX8_holds_61 rfl ?_
          refine st_icmp oX8_holds_62 (fun g => ?_) (fun g => ?_)
          · have h := h.1 g
            refine st_const oX8_holds_69 ?_
            exact st_zret oX8_holds_70 (Or.inl rfl) h
          · have h := h.2 g
            refine st_const oX8_holds_65 ?_
            refine st_goto oX8_holds_66 ?_
            exact st_zret oX8_holds_70 (Or.inr rfl) h
        · have h := h.2 g
          refine And.intro (fun g => ?_) (fun g => ?_)
          · have h := h.1 g
            refine st_iload oX8_holds_82 rfl ?_
            refine st_iload oX8_holds_83 rfl ?_
            refine st_icmp oX8_holds_84 (fun g => ?_) (fun g => ?_)
            · have h := h.1 g
              refine st_const oX8_holds_87 ?_
              refine st_goto oX8_holds_88 ?_
              exact st_zret oX8_holds_92 (Or.inr rfl) h
            · have h := h.2 g
              refine st_const oX8_holds_91 ?_
              exact st_zret oX8_holds_92 (Or.inl rfl) h
          · have h := h.2 g
            refine And.intro (fun g => ?_) (fun g => ?_)
            · have h := h.1 g
              refine st_iload oX8_holds_71 rfl ?_
              refine st_iload oX8_holds_72 rfl ?_
              refine st_icmp oX8_holds_73 (fun g => ?_) (fun g => ?_)
              · have h := h.1 g
                refine st_const oX8_holds_80 ?_
                exact st_zret oX8_holds_81 (Or.inl rfl) h
              · have h := h.2 g
                refine st_const oX8_holds_76 ?_
                refine st_goto oX8_holds_77 ?_
                exact st_zret oX8_holds_81 (Or.inr rfl) h
            · have h := h.2 g
              refine st_iload oX8_holds_129 rfl ?_
              refine st_if oX8_holds_130 (fun g => ?_) (fun g => ?_)
              · have h := h.1 g
                refine st_iload oX8_holds_133 rfl ?_
                refine st_if oX8_holds_134 (fun g => ?_) (fun g => ?_)
                · have h := h.1 g
                  refine st_const oX8_holds_141 ?_
                  exact st_zret oX8_holds_142 (Or.inl rfl) h
                · have h := h.2 g
                  refine st_const oX8_holds_137 ?_
                  refine st_goto oX8_holds_138 ?_
                  exact st_zret oX8_holds_142 (Or.inr rfl) h
              · have h := h.2 g
                refine st_const oX8_holds_137 ?_
                refine st_goto oX8_holds_138 ?_
                exact st_zret oX8_holds_142 (Or.inr rfl) h
