theorem bL_below_0 {d : Nat} {Q : pR → pM → Prop} {c s : Nat} {M : pM} {l0 : Int32} {l1 : Int32} (h : ¬ l1 = 0 ∧ Q (.inl (some (.int ((l0 &&& 2147483647) - (l0 &&& 2147483647) / l1 * l1)))) M) : Go d mL_below Q 0 ([some (.int l0), some (.int l1)], [], c, s) M := by
  refine st_iload oL_below_0 rfl ?_
  refine st_const oL_below_1 ?_
  refine st_ibin oL_below_3 ?_
  refine st_iload oL_below_4 rfl ?_
  obtain ⟨h0, h⟩ := h
  refine st_irem oL_below_5 h0 ?_
  exact st_iret oL_below_6 h
theorem bL_cell_0 {d : Nat} {Q : pR → pM → Prop} {c s : Nat} {M : pM} {l0 : Nat} {l1 : Int32} (h : ∃ n1 : Nat, pK M l0 = (5, n1) ∧ (((Int32.ofNat n1) ≤ l1 → Q (.inl (some (.int (461243603 * (l1 + 3))))) M) ∧ (¬ (Int32.ofNat n1) ≤ l1 → ∃ n2 : Nat, pK M l0 = (5, n2) ∧ vp_in l1 n2 ∧ Q (.inl (some (.int (pI M l0 (Int32.toNatClampNeg l1))))) M))) : Go d mL_cell Q 0 ([some (.ref l0), some (.int l1)], [], c, s) M := by
  refine st_iload oL_cell_0 rfl ?_
  refine st_aload oL_cell_1 rfl ?_
  obtain ⟨n1, hK, h⟩ := h
  refine st_slen oL_cell_2 hK ?_
  refine st_icmp oL_cell_3 (fun g => ?_) (fun g => ?_)
  · have h := h.1 g
    refine st_const oL_cell_12 ?_
    refine st_iload oL_cell_14 rfl ?_
    refine st_const oL_cell_15 ?_
    refine st_ibin oL_cell_16 ?_
    refine st_ibin oL_cell_17 ?_
    exact st_iret oL_cell_18 h
  · have h := h.2 g
    refine st_aload oL_cell_6 rfl ?_
    refine st_iload oL_cell_7 rfl ?_
    obtain ⟨n2, hK, hi, h⟩ := h
    refine st_sald oL_cell_8 hK hi ?_
    refine st_goto oL_cell_9 ?_
    exact st_iret oL_cell_18 h
theorem bL_letter_0 {d : Nat} {Q : pR → pM → Prop} {c s : Nat} {M : pM} {l0 : Nat} {l1 : Int32} (h : ∃ i1 : Nat, l0 = pBIG + i1 ∧ i1 < 21 ∧ pCall_i d mJ0_length_8abf5 (0, 0) [.ref l0] M (fun v1 M1 => ((v1 ≤ l1 → Q (.inl (some (.int 32))) (keepM M M1)) ∧ (¬ v1 ≤ l1 → Go d mL_letter Q 8 ([some (.ref l0), some (.int l1)], [], c, s) (keepM M M1))))) : Go d mL_letter Q 0 ([some (.ref l0), some (.int l1)], [], c, s) M := by
  refine st_iload oL_letter_0 rfl ?_
  refine st_aload oL_letter_1 rfl ?_
  obtain ⟨i1, ea, hi, h⟩ := h
  refine st_callSt_iE [] oL_letter_2 rfl rfl ea hi (ps8 rfl) (pCall_i.mono h (fun v1 M1 h => ?_))
  refine st_icmp oL_letter_5 (fun g => ?_) (fun g => ?_)
  · have h := h.1 g
    refine st_const oL_letter_16 ?_
    exact st_iret oL_letter_18 h
  · have h := h.2 g
    exact h
theorem bL_letter_8 {d : Nat} {Q : pR → pM → Prop} {c s : Nat} {M : pM} {l0 : Nat} {l1 : Int32} (h : ∃ i1 : Nat, l0 = pBIG + i1 ∧ i1 < 21 ∧ pCall_i d mJ0_charAt_5068e (0, 0) [.ref l0, .int l1] M (fun v1 M1 => Q (.inl (some (.int v1))) (keepM M M1))) : Go d mL_letter Q 8 ([some (.ref l0), some (.int l1)], [], c, s) M := by
  refine st_aload oL_letter_8 rfl ?_
  refine st_iload oL_letter_9 rfl ?_
  obtain ⟨i1, ea, hi, h⟩ := h
  refine st_callSt_iE [.int l1] oL_letter_10 rfl rfl ea hi (ps8 rfl) (pCall_i.mono h (fun v1 M1 h => ?_))
  refine st_goto oL_letter_13 ?_
  exact st_iret oL_letter_18 h
theorem bL_four_0 {d : Nat} {Q : pR → pM → Prop} {c s : Nat} {M : pM} {l0 : Nat} {l1 : Int32} (h : pCall_i d mL_letter (0, 0) [.ref l0, .int l1] M (fun v1 M1 => pCall_i d mL_letter (0, 0) [.ref l0, .int (l1 + 1)] (keepM M M1) (fun v2 M2 => pCall_i d mL_letter (0, 0) [.ref l0, .int (l1 + 2)] (keepM (keepM M M1) M2) (fun v3 M3 => pCall_i d mL_letter (0, 0) [.ref l0, .int (l1 + 3)] (keepM (keepM (keepM M M1) M2) M3) (fun v4 M4 => Q (.inl (some (.int ((((v1 <<< (24 &&& 31)) ||| (v2 <<< (16 &&& 31))) ||| (v3 <<< (8 &&& 31))) ||| v4)))) (keepM (keepM (keepM (keepM M M1) M2) M3) M4)))))) : Go d mL_four Q 0 ([some (.ref l0), some (.int l1)], [], c, s) M := by
  refine st_aload oL_four_0 rfl ?_
  refine st_iload oL_four_1 rfl ?_
  refine st_callS0_iK [.ref l0, .int l1] oL_four_2 rfl rfl (ps8 rfl) (pCall_i.mono h (fun v1 M1 h => ?_))
  refine st_const oL_four_5 ?_
  refine st_ibin oL_four_7 ?_
  refine st_aload oL_four_8 rfl ?_
  refine st_iload oL_four_9 rfl ?_
  refine st_const oL_four_10 ?_
  refine st_ibin oL_four_11 ?_
  refine st_callS0_iK [.ref l0, .int (l1 + 1)] oL_four_12 rfl rfl (ps8 rfl) (pCall_i.mono h (fun v2 M2 h => ?_))
  refine st_const oL_four_15 ?_
  refine st_ibin oL_four_17 ?_
  refine st_ibin oL_four_18 ?_
  refine st_aload oL_four_19 rfl ?_
  refine st_iload oL_four_20 rfl ?_
  refine st_const oL_four_21 ?_
  refine st_ibin oL_four_22 ?_
  refine st_callS0_iK [.ref l0, .int (l1 + 2)] oL_four_23 rfl rfl (ps8 rfl) (pCall_i.mono h (fun v3 M3 h => ?_))
  refine st_const oL_four_26 ?_
  refine st_ibin oL_four_28 ?_
  refine st_ibin oL_four_29 ?_
  refine st_aload oL_four_30 rfl ?_
  refine st_iload oL_four_31 rfl ?_
  refine st_const oL_four_32 ?_
  refine st_ibin oL_four_33 ?_
  refine st_callS0_iK [.ref l0, .int (l1 + 3)] oL_four_34 rfl rfl (ps8 rfl) (pCall_i.mono h (fun v4 M4 h => ?_))
  refine st_ibin oL_four_37 ?_
  exact st_iret oL_four_38 h
theorem bL_say_0 {d : Nat} {Q : pR → pM → Prop} {c s : Nat} {M : pM} {l0 : Nat} {l1 : Nat} (h : pK M l0 = (1, 11) ∧ ∃ rs1 : Nat × Nat, rs1.1 ≤ c ∧ rs1.2 ≤ s ∧ pCall_i d mX11_count rs1 [.ref l0, .int 12] M (fun v1 M1 => Go d mL_say Q 9 ([some (.ref l0), some (.ref l1), some (.int v1), some (.int 0)], [], (c - rs1.1), (s - rs1.2)) (keepM M M1))) : Go d mL_say Q 0 ([some (.ref l0), some (.ref l1), none, none], [], c, s) M := by
  refine st_aload oL_say_0 rfl ?_
  refine st_const oL_say_1 ?_
  obtain ⟨hK, rs1, h1, h2, h⟩ := h
  refine st_callV_iK [.int 12] oL_say_3 rfl rfl hK (ps8 rfl) h1 h2 (pCall_i.mono h (fun v1 M1 h => ?_))
  refine st_istore (L2 := [some (.ref l0), some (.ref l1), some (.int v1), none]) oL_say_6 (by decide) rfl rfl ?_
  refine st_const oL_say_7 ?_
  refine st_istore (L2 := [some (.ref l0), some (.ref l1), some (.int v1), some (.int 0)]) oL_say_8 (by decide) rfl rfl ?_
  exact h
theorem bL_say_9 {d : Nat} {Q : pR → pM → Prop} {c s : Nat} {M : pM} {l0 : Nat} {l1 : Nat} {l2 : Int32} {l3 : Int32} (h : ∃ i1 : Nat, l1 = pBIG + i1 ∧ i1 < 21 ∧ pCall_i d mJ0_length_8abf5 (0, 0) [.ref l1] M (fun v1 M1 => ((v1 ≤ l3 → Go d mL_say Q 64 ([some (.ref l0), some (.ref l1), some (.int l2), none], [], c, s) (keepM M M1)) ∧ (¬ v1 ≤ l3 → pCall_i d mL_four (0, 0) [.ref l1, .int l3] (keepM M M1) (fun v2 M2 => pCall_i d mL_four (0, 0) [.ref l1, .int (l3 + 4)] (keepM (keepM M M1) M2) (fun v3 M3 => pCall_i d mL_four (0, 0) [.ref l1, .int (l3 + 8)] (keepM (keepM (keepM M M1) M2) M3) (fun v4 M4 => pCall_i d mL_four (0, 0) [.ref l1, .int (l3 + 12)] (keepM (keepM (keepM (keepM M M1) M2) M3) M4) (fun v5 M5 => pCall_i d mL_four (0, 0) [.ref l1, .int (l3 + 16)] (keepM (keepM (keepM (keepM (keepM M M1) M2) M3) M4) M5) (fun v6 M6 => pK (keepM (keepM (keepM (keepM (keepM (keepM M M1) M2) M3) M4) M5) M6) l0 = (1, 11) ∧ ∃ rs1 : Nat × Nat, rs1.1 ≤ c ∧ rs1.2 ≤ s ∧ pCall_i d mX11_feed rs1 [.ref l0, .int v2, .int v3, .int v4, .int v5, .int v6] (keepM (keepM (keepM (keepM (keepM (keepM M M1) M2) M3) M4) M5) M6) (fun v7 M7 => Go d mL_say Q 9 ([some (.ref l0), some (.ref l1), some (.int l2), some (.int (l3 + 20))], [], (c - rs1.1), (s - rs1.2)) (keepM (keepM (keepM (keepM (keepM (keepM (keepM M M1) M2) M3) M4) M5) M6) M7))))))))))) : Go d mL_say Q 9 ([some (.ref l0), some (.ref l1), some (.int l2), some (.int l3)], [], c, s) M := by
  refine st_iload oL_say_9 rfl ?_
  refine st_aload oL_say_10 rfl ?_
  obtain ⟨i1, ea, hi, h⟩ := h
  refine st_callSt_iE [] oL_say_11 rfl rfl ea hi (ps8 rfl) (pCall_i.mono h (fun v1 M1 h => ?_))
  refine st_icmp oL_say_14 (fun g => ?_) (fun g => ?_)
  · have h := h.1 g
    exact Go.wk (L := [some (.ref l0), some (.ref l1), some (.int l2), none]) (And.intro (Or.inr rfl) (And.intro (Or.inr rfl) (And.intro (Or.inr rfl) (And.intro (Or.inl rfl) True.intro)))) h
  · have h := h.2 g
    refine st_aload oL_say_17 rfl ?_
    refine st_aload oL_say_18 rfl ?_
    refine st_iload oL_say_19 rfl ?_
    refine st_callS0_iK [.ref l1, .int l3] oL_say_20 rfl rfl (ps8 rfl) (pCall_i.mono h (fun v2 M2 h => ?_))
    refine st_aload oL_say_23 rfl ?_
    refine st_iload oL_say_24 rfl ?_
    refine st_const oL_say_25 ?_
    refine st_ibin oL_say_26 ?_
    refine st_callS0_iK [.ref l1, .int (l3 + 4)] oL_say_27 rfl rfl (ps8 rfl) (pCall_i.mono h (fun v3 M3 h => ?_))
    refine st_aload oL_say_30 rfl ?_
    refine st_iload oL_say_31 rfl ?_
    refine st_const oL_say_32 ?_
    refine st_ibin oL_say_34 ?_
    refine st_callS0_iK [.ref l1, .int (l3 + 8)] oL_say_35 rfl rfl (ps8 rfl) (pCall_i.mono h (fun v4 M4 h => ?_))
    refine st_aload oL_say_38 rfl ?_
    refine st_iload oL_say_39 rfl ?_
    refine st_const oL_say_40 ?_
    refine st_ibin oL_say_42 ?_
    refine st_callS0_iK [.ref l1, .int (l3 + 12)] oL_say_43 rfl rfl (ps8 rfl) (pCall_i.mono h (fun v5 M5 h => ?_))
    refine st_aload oL_say_46 rfl ?_
    refine st_iload oL_say_47 rfl ?_
    refine st_const oL_say_48 ?_
    refine st_ibin oL_say_50 ?_
    refine st_callS0_iK [.ref l1, .int (l3 + 16)] oL_say_51 rfl rfl (ps8 rfl) (pCall_i.mono h (fun v6 M6 h => ?_))
    obtain ⟨hK, rs1, h1, h2, h⟩ := h
    refine st_callV_iK [.int v2, .int v3, .int v4, .int v5, .int v6] oL_say_54 rfl rfl hK (ps8 rfl) h1 h2 (pCall_i.mono h (fun v7 M7 h => ?_))
    refine st_pop oL_say_57 rfl ?_
    refine st_iinc (L2 := [some (.ref l0), some (.ref l1), some (.int l2), some (.int (l3 + 20))]) oL_say_58 rfl (by decide) rfl rfl ?_
    refine st_goto oL_say_61 ?_
    exact h
theorem bL_say_64 {d : Nat} {Q : pR → pM → Prop} {c s : Nat} {M : pM} {l0 : Nat} {l1 : Nat} {l2 : Int32} (h : ∃ i1 : Nat, l1 = pBIG + i1 ∧ i1 < 21 ∧ pCall_i d mJ0_length_8abf5 (0, 0) [.ref l1] M (fun v1 M1 => pK (keepM M M1) l0 = (1, 11) ∧ ∃ rs1 : Nat × Nat, rs1.1 ≤ c ∧ rs1.2 ≤ s ∧ pCall_i d mX11_trim rs1 [.ref l0, .int (l2 + v1)] (keepM M M1) (fun v2 M2 => Q (.inl none) (keepM (keepM M M1) M2)))) : Go d mL_say Q 64 ([some (.ref l0), some (.ref l1), some (.int l2), none], [], c, s) M := by
  refine st_aload oL_say_64 rfl ?_
  refine st_iload oL_say_65 rfl ?_
  refine st_aload oL_say_66 rfl ?_
  obtain ⟨i1, ea, hi, h⟩ := h
  refine st_callSt_iE [] oL_say_67 rfl rfl ea hi (ps8 rfl) (pCall_i.mono h (fun v1 M1 h => ?_))
  refine st_ibin oL_say_70 ?_
  obtain ⟨hK, rs1, h1, h2, h⟩ := h
  refine st_callV_iK [.int (l2 + v1)] oL_say_71 rfl rfl hK (ps8 rfl) h1 h2 (pCall_i.mono h (fun v2 M2 h => ?_))
  refine st_pop oL_say_74 rfl ?_
  exact st_vret oL_say_75 h
theorem bL_number_0 {d : Nat} {Q : pR → pM → Prop} {c s : Nat} {M : pM} {l0 : Nat} {l1 : Int32} (h : ∃ rs1 : Nat × Nat, rs1.1 ≤ c ∧ rs1.2 ≤ s ∧ pCall_v d mL_say rs1 [.ref l0, .ref (pBIG + 13)] M (fun M1 => pK (keepM M M1) l0 = (1, 11) ∧ ∃ rs2 : Nat × Nat, rs2.1 ≤ (c - rs1.1) ∧ rs2.2 ≤ (s - rs1.2) ∧ pCall_i d mX11_count rs2 [.ref l0, .int 12] (keepM M M1) (fun v1 M2 => Go d mL_number Q 21 ([some (.ref l0), none, some (.int v1), some (.int 0), some (.int 0), some (.int l1)], [], ((c - rs1.1) - rs2.1), ((s - rs1.2) - rs2.2)) (keepM (keepM M M1) M2)))) : Go d mL_number Q 0 ([some (.ref l0), some (.int l1), none, none, none, none], [], c, s) M := by
  refine st_aload oL_number_0 rfl ?_
  refine st_const oL_number_1 ?_
  obtain ⟨rs1, h1, h2, h⟩ := h
  refine st_callS_vK [.ref l0, .ref (pBIG + 13)] oL_number_3 rfl rfl (ps8 rfl) h1 h2 (pCall_v.mono h (fun M1 h => ?_))
  refine st_aload oL_number_6 rfl ?_
  refine st_const oL_number_7 ?_
  obtain ⟨hK, rs2, h1, h2, h⟩ := h
  refine st_callV_iK [.int 12] oL_number_9 rfl rfl hK (ps8 rfl) h1 h2 (pCall_i.mono h (fun v1 M2 h => ?_))
  refine st_istore (L2 := [some (.ref l0), some (.int l1), some (.int v1), none, none, none]) oL_number_12 (by decide) rfl rfl ?_
  refine st_const oL_number_13 ?_
  refine st_istore (L2 := [some (.ref l0), some (.int l1), some (.int v1), some (.int 0), none, none]) oL_number_14 (by decide) rfl rfl ?_
  refine st_const oL_number_15 ?_
  refine st_istore (L2 := [some (.ref l0), some (.int l1), some (.int v1), some (.int 0), some (.int 0), none]) oL_number_16 (by decide) rfl rfl ?_
  refine st_iload oL_number_18 rfl ?_
  refine st_istore (L2 := [some (.ref l0), some (.int l1), some (.int v1), some (.int 0), some (.int 0), some (.int l1)]) oL_number_19 (by decide) rfl rfl ?_
  exact Go.wk (L := [some (.ref l0), none, some (.int v1), some (.int 0), some (.int 0), some (.int l1)]) (And.intro (Or.inr rfl) (And.intro (Or.inl rfl) (And.intro (Or.inr rfl) (And.intro (Or.inr rfl) (And.intro (Or.inr rfl) (And.intro (Or.inr rfl) True.intro)))))) h
theorem bL_number_21 {d : Nat} {Q : pR → pM → Prop} {c s : Nat} {M : pM} {l0 : Nat} {l2 : Int32} {l3 : Int32} {l4 : Int32} {l5 : Int32} (h : ((l4 = 0 → Go d mL_number Q 31 ([some (.ref l0), none, some (.int l2), some (.int l3), some (.int l4), some (.int l5)], [], c, s) M) ∧ (¬ l4 = 0 → ((l5 ≤ 0 → pK M l0 = (1, 11) ∧ ∃ rs1 : Nat × Nat, rs1.1 ≤ c ∧ rs1.2 ≤ s ∧ pCall_i d mX11_feed rs1 [.ref l0, .int l3, .int 0, .int 0, .int 0, .int 0] M (fun v1 M1 => pK (keepM M M1) l0 = (1, 11) ∧ ∃ rs2 : Nat × Nat, rs2.1 ≤ (c - rs1.1) ∧ rs2.2 ≤ (s - rs1.2) ∧ pCall_i d mX11_trim rs2 [.ref l0, .int (l2 + l4)] (keepM M M1) (fun v2 M2 => Q (.inl none) (keepM (keepM M M1) M2)))) ∧ (¬ l5 ≤ 0 → Go d mL_number Q 31 ([some (.ref l0), none, some (.int l2), some (.int l3), some (.int l4), some (.int l5)], [], c, s) M))))) : Go d mL_number Q 21 ([some (.ref l0), none, some (.int l2), some (.int l3), some (.int l4), some (.int l5)], [], c, s) M := by
  refine st_iload oL_number_21 rfl ?_
  refine st_if oL_number_23 (fun g => ?_) (fun g => ?_)
  · have h := h.1 g
    exact h
  · have h := h.2 g
    refine st_iload oL_number_26 rfl ?_
    refine st_if oL_number_28 (fun g => ?_) (fun g => ?_)
    · have h := h.1 g
      refine st_aload oL_number_61 rfl ?_
      refine st_iload oL_number_62 rfl ?_
      refine st_const oL_number_63 ?_
      refine st_const oL_number_64 ?_
      refine st_const oL_number_65 ?_
      refine st_const oL_number_66 ?_
      obtain ⟨hK, rs1, h1, h2, h⟩ := h
      refine st_callV_iK [.int l3, .int 0, .int 0, .int 0, .int 0] oL_number_67 rfl rfl hK (ps8 rfl) h1 h2 (pCall_i.mono h (fun v1 M1 h => ?_))
      refine st_pop oL_number_70 rfl ?_
      refine st_aload oL_number_71 rfl ?_
      refine st_iload oL_number_72 rfl ?_
      refine st_iload oL_number_73 rfl ?_
      refine st_ibin oL_number_75 ?_
      obtain ⟨hK, rs2, h1, h2, h⟩ := h
      refine st_callV_iK [.int (l2 + l4)] oL_number_76 rfl rfl hK (ps8 rfl) h1 h2 (pCall_i.mono h (fun v2 M2 h => ?_))
      refine st_pop oL_number_79 rfl ?_
      exact st_vret oL_number_80 h
    · have h := h.2 g
      exact h
theorem bL_number_31 {d : Nat} {Q : pR → pM → Prop} {c s : Nat} {M : pM} {l0 : Nat} {l2 : Int32} {l3 : Int32} {l4 : Int32} {l5 : Int32} (h : Go d mL_number Q 21 ([some (.ref l0), none, some (.int l2), some (.int ((Int32.toUInt32 l3 >>> (Int32.toUInt32 8 &&& Int32.toUInt32 31)).toInt32 ||| ((48 + (l5 - l5 / 10 * 10)) <<< (24 &&& 31)))), some (.int (l4 + 1)), some (.int (l5 / 10))], [], c, s) M) : Go d mL_number Q 31 ([some (.ref l0), none, some (.int l2), some (.int l3), some (.int l4), some (.int l5)], [], c, s) M := by
  refine st_iload oL_number_31 rfl ?_
  refine st_const oL_number_32 ?_
  refine st_ibin oL_number_34 ?_
  refine st_const oL_number_35 ?_
  refine st_iload oL_number_37 rfl ?_
  refine st_const oL_number_39 ?_
  refine st_irem oL_number_41 (by decide) ?_
  refine st_ibin oL_number_42 ?_
  refine st_const oL_number_43 ?_
  refine st_ibin oL_number_45 ?_
  refine st_ibin oL_number_46 ?_
  refine st_istore (L2 := [some (.ref l0), none, some (.int l2), some (.int ((Int32.toUInt32 l3 >>> (Int32.toUInt32 8 &&& Int32.toUInt32 31)).toInt32 ||| ((48 + (l5 - l5 / 10 * 10)) <<< (24 &&& 31)))), some (.int l4), some (.int l5)]) oL_number_47 (by decide) rfl rfl ?_
  refine st_iinc (L2 := [some (.ref l0), none, some (.int l2), some (.int ((Int32.toUInt32 l3 >>> (Int32.toUInt32 8 &&& Int32.toUInt32 31)).toInt32 ||| ((48 + (l5 - l5 / 10 * 10)) <<< (24 &&& 31)))), some (.int (l4 + 1)), some (.int l5)]) oL_number_48 rfl (by decide) rfl rfl ?_
  refine st_iload oL_number_51 rfl ?_
  refine st_const oL_number_53 ?_
  refine st_idiv oL_number_55 (by decide) ?_
  refine st_istore (L2 := [some (.ref l0), none, some (.int l2), some (.int ((Int32.toUInt32 l3 >>> (Int32.toUInt32 8 &&& Int32.toUInt32 31)).toInt32 ||| ((48 + (l5 - l5 / 10 * 10)) <<< (24 &&& 31)))), some (.int (l4 + 1)), some (.int (l5 / 10))]) oL_number_56 (by decide) rfl rfl ?_
  refine st_goto oL_number_58 ?_
  exact h
theorem bL_put_0 {d : Nat} {Q : pR → pM → Prop} {c s : Nat} {M : pM} {l0 : Nat} {l1 : Int32} (h : pK M l0 = (1, 11) ∧ ∃ rs1 : Nat × Nat, rs1.1 ≤ c ∧ rs1.2 ≤ s ∧ pCall_i d mX11_count rs1 [.ref l0, .int 12] M (fun v1 M1 => pK (keepM M M1) l0 = (1, 11) ∧ ∃ rs2 : Nat × Nat, rs2.1 ≤ (c - rs1.1) ∧ rs2.2 ≤ (s - rs1.2) ∧ pCall_i d mX11_feed rs2 [.ref l0, .int (l1 <<< (24 &&& 31)), .int 0, .int 0, .int 0, .int 0] (keepM M M1) (fun v2 M2 => pK (keepM (keepM M M1) M2) l0 = (1, 11) ∧ ∃ rs3 : Nat × Nat, rs3.1 ≤ ((c - rs1.1) - rs2.1) ∧ rs3.2 ≤ ((s - rs1.2) - rs2.2) ∧ pCall_i d mX11_trim rs3 [.ref l0, .int (v1 + 1)] (keepM (keepM M M1) M2) (fun v3 M3 => Q (.inl none) (keepM (keepM (keepM M M1) M2) M3))))) : Go d mL_put Q 0 ([some (.ref l0), some (.int l1), none], [], c, s) M := by
  refine st_aload oL_put_0 rfl ?_
  refine st_const oL_put_1 ?_
  obtain ⟨hK, rs1, h1, h2, h⟩ := h
  refine st_callV_iK [.int 12] oL_put_3 rfl rfl hK (ps8 rfl) h1 h2 (pCall_i.mono h (fun v1 M1 h => ?_))
  refine st_istore (L2 := [some (.ref l0), some (.int l1), some (.int v1)]) oL_put_6 (by decide) rfl rfl ?_
  refine st_aload oL_put_7 rfl ?_
  refine st_iload oL_put_8 rfl ?_
  refine st_const oL_put_9 ?_
  refine st_ibin oL_put_11 ?_
  refine st_const oL_put_12 ?_
  refine st_const oL_put_13 ?_
  refine st_const oL_put_14 ?_
  refine st_const oL_put_15 ?_
  obtain ⟨hK, rs2, h1, h2, h⟩ := h
  refine st_callV_iK [.int (l1 <<< (24 &&& 31)), .int 0, .int 0, .int 0, .int 0] oL_put_16 rfl rfl hK (ps8 rfl) h1 h2 (pCall_i.mono h (fun v2 M2 h => ?_))
  refine st_pop oL_put_19 rfl ?_
  refine st_aload oL_put_20 rfl ?_
  refine st_iload oL_put_21 rfl ?_
  refine st_const oL_put_22 ?_
  refine st_ibin oL_put_23 ?_
  obtain ⟨hK, rs3, h1, h2, h⟩ := h
  refine st_callV_iK [.int (v1 + 1)] oL_put_24 rfl rfl hK (ps8 rfl) h1 h2 (pCall_i.mono h (fun v3 M3 h => ?_))
  refine st_pop oL_put_27 rfl ?_
  exact st_vret oL_put_28 h
theorem bL_size_0 {d : Nat} {Q : pR → pM → Prop} {c s : Nat} {M : pM} {l0 : Nat} {l1 : Int32} (h : pCall_i d mL_cell (0, 0) [.ref l0, .int l1] M (fun v1 M1 => pCall_i d mL_below (0, 0) [.int (v1 >>> (3 &&& 31)), .int 5] (keepM M M1) (fun v2 M2 => Q (.inl (some (.int (1 + v2)))) (keepM (keepM M M1) M2)))) : Go d mL_size Q 0 ([some (.ref l0), some (.int l1)], [], c, s) M := by
  refine st_const oL_size_0 ?_
  refine st_aload oL_size_1 rfl ?_
  refine st_iload oL_size_2 rfl ?_
  refine st_callS0_iK [.ref l0, .int l1] oL_size_3 rfl rfl (ps8 rfl) (pCall_i.mono h (fun v1 M1 h => ?_))
  refine st_const oL_size_6 ?_
  refine st_ibin oL_size_7 ?_
  refine st_const oL_size_8 ?_
  refine st_callS0_iK [.int (v1 >>> (3 &&& 31)), .int 5] oL_size_9 rfl rfl (ps8 rfl) (pCall_i.mono h (fun v2 M2 h => ?_))
  refine st_ibin oL_size_12 ?_
  exact st_iret oL_size_13 h
theorem bL_letter__0 {d : Nat} {Q : pR → pM → Prop} {c s : Nat} {M : pM} {l0 : Nat} {l1 : Int32} {l2 : Int32} (h : pCall_i d mL_size (0, 0) [.ref l0, .int l1] M (fun v1 M1 => ((l2 = v1 → Q (.inl (some (.int (48 + l1)))) (keepM M M1)) ∧ (¬ l2 = v1 → pCall_i d mL_cell (0, 0) [.ref l0, .int l1] (keepM M M1) (fun v2 M2 => pCall_i d mL_below (0, 0) [.int (v2 >>> (((2 * l2) + 5) &&& 31)), .int 5] (keepM (keepM M M1) M2) (fun v3 M3 => Q (.inl (some (.int (97 + v3)))) (keepM (keepM (keepM M M1) M2) M3))))))) : Go d mL_letter_ Q 0 ([some (.ref l0), some (.int l1), some (.int l2)], [], c, s) M := by
  refine st_iload oL_letter__0 rfl ?_
  refine st_aload oL_letter__1 rfl ?_
  refine st_iload oL_letter__2 rfl ?_
  refine st_callS0_iK [.ref l0, .int l1] oL_letter__3 rfl rfl (ps8 rfl) (pCall_i.mono h (fun v1 M1 h => ?_))
  refine st_icmp oL_letter__6 (fun g => ?_) (fun g => ?_)
  · have h := h.1 g
    refine st_const oL_letter__9 ?_
    refine st_iload oL_letter__11 rfl ?_
    refine st_ibin oL_letter__12 ?_
    refine st_goto oL_letter__13 ?_
    exact st_iret oL_letter__34 h
  · have h := h.2 g
    refine st_const oL_letter__16 ?_
    refine st_aload oL_letter__18 rfl ?_
    refine st_iload oL_letter__19 rfl ?_
    refine st_callS0_iK [.ref l0, .int l1] oL_letter__20 rfl rfl (ps8 rfl) (pCall_i.mono h (fun v2 M2 h => ?_))
    refine st_const oL_letter__23 ?_
    refine st_iload oL_letter__24 rfl ?_
    refine st_ibin oL_letter__25 ?_
    refine st_const oL_letter__26 ?_
    refine st_ibin oL_letter__27 ?_
    refine st_ibin oL_letter__28 ?_
    refine st_const oL_letter__29 ?_
    refine st_callS0_iK [.int (v2 >>> (((2 * l2) + 5) &&& 31)), .int 5] oL_letter__30 rfl rfl (ps8 rfl) (pCall_i.mono h (fun v3 M3 h => ?_))
    refine st_ibin oL_letter__33 ?_
    exact st_iret oL_letter__34 h
theorem bL_weight_0 {d : Nat} {Q : pR → pM → Prop} {c s : Nat} {M : pM} {l0 : Nat} {l1 : Int32} (h : pCall_i d mL_cell (0, 0) [.ref l0, .int (7 + (l1 - l1 / 3 * 3))] M (fun v1 M1 => pCall_i d mL_below (0, 0) [.int (v1 >>> (l1 &&& 31)), .int 90] (keepM M M1) (fun v2 M2 => Q (.inl (some (.int v2))) (keepM (keepM M M1) M2)))) : Go d mL_weight Q 0 ([some (.ref l0), some (.int l1)], [], c, s) M := by
  refine st_aload oL_weight_0 rfl ?_
  refine st_const oL_weight_1 ?_
  refine st_iload oL_weight_3 rfl ?_
  refine st_const oL_weight_4 ?_
  refine st_irem oL_weight_5 (by decide) ?_
  refine st_ibin oL_weight_6 ?_
  refine st_callS0_iK [.ref l0, .int (7 + (l1 - l1 / 3 * 3))] oL_weight_7 rfl rfl (ps8 rfl) (pCall_i.mono h (fun v1 M1 h => ?_))
  refine st_iload oL_weight_10 rfl ?_
  refine st_ibin oL_weight_11 ?_
  refine st_const oL_weight_12 ?_
  refine st_callS0_iK [.int (v1 >>> (l1 &&& 31)), .int 90] oL_weight_14 rfl rfl (ps8 rfl) (pCall_i.mono h (fun v2 M2 h => ?_))
  exact st_iret oL_weight_17 h
theorem bL_pad_0 {d : Nat} {Q : pR → pM → Prop} {c s : Nat} {M : pM} {l0 : Nat} (h : 1 ≤ c ∧ 10 ≤ s ∧ pN M < pBIG ∧ ∃ rs1 : Nat × Nat, rs1.1 ≤ (c - 1) ∧ rs1.2 ≤ (s - 10) ∧ pCall_v d mX11_init rs1 [.ref (pN M)] (pnew M (1, 11)) (fun M1 => ∃ rs2 : Nat × Nat, rs2.1 ≤ ((c - 1) - rs1.1) ∧ rs2.2 ≤ ((s - 10) - rs1.2) ∧ pCall_v d mL_say rs2 [.ref (pN M), .ref (pBIG + 14)] (keepM (pnew M (1, 11)) M1) (fun M2 => Go d mL_pad Q 16 ([some (.ref l0), some (.ref (pN M)), some (.int 0), none], [], (((c - 1) - rs1.1) - rs2.1), (((s - 10) - rs1.2) - rs2.2)) (keepM (keepM (pnew M (1, 11)) M1) M2)))) : Go d mL_pad Q 0 ([some (.ref l0), none, none, none], [], c, s) M := by
  obtain ⟨h1, h2, h3, h⟩ := h
  refine st_new oL_pad_0 h1 h2 h3 ?_
  refine st_dup oL_pad_3 rfl ?_
  obtain ⟨rs1, h1, h2, h⟩ := h
  refine st_callI_vK [] oL_pad_4 rfl rfl (ps8 rfl) h1 h2 (pCall_v.mono h (fun M1 h => ?_))
  refine st_astore (L2 := [some (.ref l0), some (.ref (pN M)), none, none]) oL_pad_7 (by decide) rfl rfl ?_
  refine st_aload oL_pad_8 rfl ?_
  refine st_const oL_pad_9 ?_
  obtain ⟨rs2, h1, h2, h⟩ := h
  refine st_callS_vK [.ref (pN M), .ref (pBIG + 14)] oL_pad_11 rfl rfl (ps8 rfl) h1 h2 (pCall_v.mono h (fun M2 h => ?_))
  refine st_const oL_pad_14 ?_
  refine st_istore (L2 := [some (.ref l0), some (.ref (pN M)), some (.int 0), none]) oL_pad_15 (by decide) rfl rfl ?_
  exact h
theorem bL_pad_16 {d : Nat} {Q : pR → pM → Prop} {c s : Nat} {M : pM} {l0 : Nat} {l1 : Nat} {l2 : Int32} (h : ((6 ≤ l2 → ∃ rs1 : Nat × Nat, rs1.1 ≤ c ∧ rs1.2 ≤ s ∧ pCall_v d mL_say rs1 [.ref l1, .ref (pBIG + 20)] M (fun M1 => pK (keepM M M1) l1 = (1, 11) ∧ ∃ rs2 : Nat × Nat, rs2.1 ≤ (c - rs1.1) ∧ rs2.2 ≤ (s - rs1.2) ∧ pCall_i d mX11_teach rs2 [.ref l1] (keepM M M1) (fun v1 M2 => ((v1 = 0 → Q (.inl (some (.ref l1))) (keepM (keepM M M1) M2)) ∧ (¬ v1 = 0 → False))))) ∧ (¬ 6 ≤ l2 → ∃ rs3 : Nat × Nat, rs3.1 ≤ c ∧ rs3.2 ≤ s ∧ pCall_v d mL_say rs3 [.ref l1, .ref (pBIG + 15)] M (fun M3 => Go d mL_pad Q 30 ([some (.ref l0), some (.ref l1), some (.int l2), some (.int 0)], [], (c - rs3.1), (s - rs3.2)) (keepM M M3))))) : Go d mL_pad Q 16 ([some (.ref l0), some (.ref l1), some (.int l2), none], [], c, s) M := by
  refine st_iload oL_pad_16 rfl ?_
  refine st_const oL_pad_17 ?_
  refine st_icmp oL_pad_19 (fun g => ?_) (fun g => ?_)
  · have h := h.1 g
    refine st_aload oL_pad_105 rfl ?_
    refine st_const oL_pad_106 ?_
    obtain ⟨rs1, h1, h2, h⟩ := h
    refine st_callS_vK [.ref l1, .ref (pBIG + 20)] oL_pad_108 rfl rfl (ps8 rfl) h1 h2 (pCall_v.mono h (fun M1 h => ?_))
    refine st_aload oL_pad_111 rfl ?_
    obtain ⟨hK, rs2, h1, h2, h⟩ := h
    refine st_callV_iK [] oL_pad_112 rfl rfl hK (ps8 rfl) h1 h2 (pCall_i.mono h (fun v1 M2 h => ?_))
    refine st_if oL_pad_115 (fun g => ?_) (fun g => ?_)
    · have h := h.1 g
      refine st_aload oL_pad_118 rfl ?_
      refine st_goto oL_pad_119 ?_
      exact st_aret oL_pad_123 h
    · have h := h.2 g
      exact h.elim
  · have h := h.2 g
    refine st_aload oL_pad_22 rfl ?_
    refine st_const oL_pad_23 ?_
    obtain ⟨rs3, h1, h2, h⟩ := h
    refine st_callS_vK [.ref l1, .ref (pBIG + 15)] oL_pad_25 rfl rfl (ps8 rfl) h1 h2 (pCall_v.mono h (fun M3 h => ?_))
    refine st_const oL_pad_28 ?_
    refine st_istore (L2 := [some (.ref l0), some (.ref l1), some (.int l2), some (.int 0)]) oL_pad_29 (by decide) rfl rfl ?_
    exact h
theorem bL_pad_30 {d : Nat} {Q : pR → pM → Prop} {c s : Nat} {M : pM} {l0 : Nat} {l1 : Nat} {l2 : Int32} {l3 : Int32} (h : pCall_i d mL_size (0, 0) [.ref l0, .int l2] M (fun v1 M1 => ((v1 < l3 → ∃ rs1 : Nat × Nat, rs1.1 ≤ c ∧ rs1.2 ≤ s ∧ pCall_v d mL_say rs1 [.ref l1, .ref (pBIG + 16)] (keepM M M1) (fun M2 => pCall_i d mL_weight (0, 0) [.ref l0, .int l2] (keepM (keepM M M1) M2) (fun v2 M3 => ∃ rs2 : Nat × Nat, rs2.1 ≤ (c - rs1.1) ∧ rs2.2 ≤ (s - rs1.2) ∧ pCall_v d mL_number rs2 [.ref l1, .int v2] (keepM (keepM (keepM M M1) M2) M3) (fun M4 => (((l2 - l2 / 3 * 3) = 2 → ∃ rs3 : Nat × Nat, rs3.1 ≤ ((c - rs1.1) - rs2.1) ∧ rs3.2 ≤ ((s - rs1.2) - rs2.2) ∧ pCall_v d mL_say rs3 [.ref l1, .ref (pBIG + 17)] (keepM (keepM (keepM (keepM M M1) M2) M3) M4) (fun M5 => Go d mL_pad Q 16 ([some (.ref l0), some (.ref l1), some (.int (l2 + 1)), none], [], (((c - rs1.1) - rs2.1) - rs3.1), (((s - rs1.2) - rs2.2) - rs3.2)) (keepM (keepM (keepM (keepM (keepM M M1) M2) M3) M4) M5))) ∧ (¬ (l2 - l2 / 3 * 3) = 2 → (((l2 - l2 / 3 * 3) = 0 → ∃ rs4 : Nat × Nat, rs4.1 ≤ ((c - rs1.1) - rs2.1) ∧ rs4.2 ≤ ((s - rs1.2) - rs2.2) ∧ pCall_v d mL_say rs4 [.ref l1, .ref (pBIG + 18)] (keepM (keepM (keepM (keepM M M1) M2) M3) M4) (fun M6 => Go d mL_pad Q 16 ([some (.ref l0), some (.ref l1), some (.int (l2 + 1)), none], [], (((c - rs1.1) - rs2.1) - rs4.1), (((s - rs1.2) - rs2.2) - rs4.2)) (keepM (keepM (keepM (keepM (keepM M M1) M2) M3) M4) M6))) ∧ (¬ (l2 - l2 / 3 * 3) = 0 → ∃ rs5 : Nat × Nat, rs5.1 ≤ ((c - rs1.1) - rs2.1) ∧ rs5.2 ≤ ((s - rs1.2) - rs2.2) ∧ pCall_v d mL_say rs5 [.ref l1, .ref (pBIG + 19)] (keepM (keepM (keepM (keepM M M1) M2) M3) M4) (fun M7 => Go d mL_pad Q 16 ([some (.ref l0), some (.ref l1), some (.int (l2 + 1)), none], [], (((c - rs1.1) - rs2.1) - rs5.1), (((s - rs1.2) - rs2.2) - rs5.2)) (keepM (keepM (keepM (keepM (keepM M M1) M2) M3) M4) M7)))))))))) ∧ (¬ v1 < l3 → pCall_i d mL_letter_ (0, 0) [.ref l0, .int l2, .int l3] (keepM M M1) (fun v3 M8 => ∃ rs6 : Nat × Nat, rs6.1 ≤ c ∧ rs6.2 ≤ s ∧ pCall_v d mL_put rs6 [.ref l1, .int v3] (keepM (keepM M M1) M8) (fun M9 => Go d mL_pad Q 30 ([some (.ref l0), some (.ref l1), some (.int l2), some (.int (l3 + 1))], [], (c - rs6.1), (s - rs6.2)) (keepM (keepM (keepM M M1) M8) M9))))))) : Go d mL_pad Q 30 ([some (.ref l0), some (.ref l1), some (.int l2), some (.int l3)], [], c, s) M := by
  refine st_iload oL_pad_30 rfl ?_
  refine st_aload oL_pad_31 rfl ?_
  refine st_iload oL_pad_32 rfl ?_
  refine st_callS0_iK [.ref l0, .int l2] oL_pad_33 rfl rfl (ps8 rfl) (pCall_i.mono h (fun v1 M1 h => ?_))
  refine st_icmp oL_pad_36 (fun g => ?_) (fun g => ?_)
  · have h := h.1 g
    refine st_aload oL_pad_55 rfl ?_
    refine st_const oL_pad_56 ?_
    obtain ⟨rs1, h1, h2, h⟩ := h
    refine st_callS_vK [.ref l1, .ref (pBIG + 16)] oL_pad_58 rfl rfl (ps8 rfl) h1 h2 (pCall_v.mono h (fun M2 h => ?_))
    refine st_aload oL_pad_61 rfl ?_
    refine st_aload oL_pad_62 rfl ?_
    refine st_iload oL_pad_63 rfl ?_
    refine st_callS0_iK [.ref l0, .int l2] oL_pad_64 rfl rfl (ps8 rfl) (pCall_i.mono h (fun v2 M3 h => ?_))
    obtain ⟨rs2, h1, h2, h⟩ := h
    refine st_callS_vK [.ref l1, .int v2] oL_pad_67 rfl rfl (ps8 rfl) h1 h2 (pCall_v.mono h (fun M4 h => ?_))
    refine st_aload oL_pad_70 rfl ?_
    refine st_iload oL_pad_71 rfl ?_
    refine st_const oL_pad_72 ?_
    refine st_irem oL_pad_73 (by decide) ?_
    refine st_const oL_pad_74 ?_
    refine st_icmp oL_pad_75 (fun g => ?_) (fun g => ?_)
    · have h := h.1 g
      refine st_const oL_pad_78 ?_
      refine st_goto oL_pad_80 ?_
      obtain ⟨rs3, h1, h2, h⟩ := h
      refine st_callS_vK [.ref l1, .ref (pBIG + 17)] oL_pad_96 rfl rfl (ps8 rfl) h1 h2 (pCall_v.mono h (fun M5 h => ?_))
      refine st_iinc (L2 := [some (.ref l0), some (.ref l1), some (.int (l2 + 1)), some (.int l3)]) oL_pad_99 rfl (by decide) rfl rfl ?_
      refine st_goto oL_pad_102 ?_
      exact Go.wk (L := [some (.ref l0), some (.ref l1), some (.int (l2 + 1)), none]) (And.intro (Or.inr rfl) (And.intro (Or.inr rfl) (And.intro (Or.inr rfl) (And.intro (Or.inl rfl) True.intro)))) h
    · have h := h.2 g
      refine st_iload oL_pad_83 rfl ?_
      refine st_const oL_pad_84 ?_
      refine st_irem oL_pad_85 (by decide) ?_
      refine st_if oL_pad_86 (fun g => ?_) (fun g => ?_)
      · have h := h.1 g
        refine st_const oL_pad_89 ?_
        refine st_goto oL_pad_91 ?_
        obtain ⟨rs4, h1, h2, h⟩ := h
        refine st_callS_vK [.ref l1, .ref (pBIG + 18)] oL_pad_96 rfl rfl (ps8 rfl) h1 h2 (pCall_v.mono h (fun M6 h => ?_))
        refine st_iinc (L2 := [some (.ref l0), some (.ref l1), some (.int (l2 + 1)), some (.int l3)]) oL_pad_99 rfl (by decide) rfl rfl ?_
        refine st_goto oL_pad_102 ?_
        exact Go.wk (L := [some (.ref l0), some (.ref l1), some (.int (l2 + 1)), none]) (And.intro (Or.inr rfl) (And.intro (Or.inr rfl) (And.intro (Or.inr rfl) (And.intro (Or.inl rfl) True.intro)))) h
      · have h := h.2 g
        refine st_const oL_pad_94 ?_
        obtain ⟨rs5, h1, h2, h⟩ := h
        refine st_callS_vK [.ref l1, .ref (pBIG + 19)] oL_pad_96 rfl rfl (ps8 rfl) h1 h2 (pCall_v.mono h (fun M7 h => ?_))
        refine st_iinc (L2 := [some (.ref l0), some (.ref l1), some (.int (l2 + 1)), some (.int l3)]) oL_pad_99 rfl (by decide) rfl rfl ?_
        refine st_goto oL_pad_102 ?_
        exact Go.wk (L := [some (.ref l0), some (.ref l1), some (.int (l2 + 1)), none]) (And.intro (Or.inr rfl) (And.intro (Or.inr rfl) (And.intro (Or.inr rfl) (And.intro (Or.inl rfl) True.intro)))) h
  · have h := h.2 g
    refine st_aload oL_pad_39 rfl ?_
    refine st_aload oL_pad_40 rfl ?_
    refine st_iload oL_pad_41 rfl ?_
    refine st_iload oL_pad_42 rfl ?_
    refine st_callS0_iK [.ref l0, .int l2, .int l3] oL_pad_43 rfl rfl (ps8 rfl) (pCall_i.mono h (fun v3 M8 h => ?_))
    obtain ⟨rs6, h1, h2, h⟩ := h
    refine st_callS_vK [.ref l1, .int v3] oL_pad_46 rfl rfl (ps8 rfl) h1 h2 (pCall_v.mono h (fun M9 h => ?_))
    refine st_iinc (L2 := [some (.ref l0), some (.ref l1), some (.int l2), some (.int (l3 + 1))]) oL_pad_49 rfl (by decide) rfl rfl ?_
    refine st_goto oL_pad_52 ?_
    exact h
theorem bL_law_0 {d : Nat} {Q : pR → pM → Prop} {c s : Nat} {M : pM} {l0 : Nat} (h : ∃ rs1 : Nat × Nat, rs1.1 ≤ c ∧ rs1.2 ≤ s ∧ pCall_r d mL_pad rs1 [.ref l0] M (fun v1 M1 => Go d mL_law Q 11 ([some (.ref l0), some (.ref v1), none, none, none, none, none, none, none, none, none], [], (c - rs1.1), (s - rs1.2)) (keepM M M1))) : Go d mL_law Q 0 ([some (.ref l0), none, none, none, none, none, none, none, none, none, none], [], c, s) M := by
  refine st_aload oL_law_0 rfl ?_
  obtain ⟨rs1, h1, h2, h⟩ := h
  refine st_callS_rK [.ref l0] oL_law_1 rfl rfl (ps8 rfl) h1 h2 (pCall_r.mono h (fun v1 M1 h => ?_))
  refine st_astore (L2 := [some (.ref l0), some (.ref v1), none, none, none, none, none, none, none, none, none]) oL_law_4 (by decide) rfl rfl ?_
  refine st_aload oL_law_5 rfl ?_
  refine st_ifnn oL_law_6 ?_
  exact h
theorem bL_law_11 {d : Nat} {Q : pR → pM → Prop} {c s : Nat} {M : pM} {l0 : Nat} {l1 : Nat} (h : Go d mL_law Q 13 ([some (.ref l0), some (.ref l1), some (.int 0), none, none, none, none, none, none, none, none], [], c, s) M) : Go d mL_law Q 11 ([some (.ref l0), some (.ref l1), none, none, none, none, none, none, none, none, none], [], c, s) M := by
  refine st_const oL_law_11 ?_
  refine st_istore (L2 := [some (.ref l0), some (.ref l1), some (.int 0), none, none, none, none, none, none, none, none]) oL_law_12 (by decide) rfl rfl ?_
  exact h
theorem bL_law_13 {d : Nat} {Q : pR → pM → Prop} {c s : Nat} {M : pM} {l0 : Nat} {l1 : Nat} {l2 : Int32} (h : ((18 ≤ l2 → Q (.inl (some (.int 1))) M) ∧ (¬ 18 ≤ l2 → pCall_i d mL_cell (0, 0) [.ref l0, .int (7 + (l2 - l2 / 5 * 5))] M (fun v1 M1 => Go d mL_law Q 32 ([some (.ref l0), some (.ref l1), some (.int l2), some (.int (v1 >>> (l2 &&& 31))), none, none, none, none, none, none, none], [], c, s) (keepM M M1))))) : Go d mL_law Q 13 ([some (.ref l0), some (.ref l1), some (.int l2), none, none, none, none, none, none, none, none], [], c, s) M := by
  refine st_iload oL_law_13 rfl ?_
  refine st_const oL_law_14 ?_
  refine st_icmp oL_law_16 (fun g => ?_) (fun g => ?_)
  · have h := h.1 g
    refine st_const oL_law_551 ?_
    exact st_zret oL_law_552 (Or.inr rfl) h
  · have h := h.2 g
    refine st_aload oL_law_19 rfl ?_
    refine st_const oL_law_20 ?_
    refine st_iload oL_law_22 rfl ?_
    refine st_const oL_law_23 ?_
    refine st_irem oL_law_24 (by decide) ?_
    refine st_ibin oL_law_25 ?_
    refine st_callS0_iK [.ref l0, .int (7 + (l2 - l2 / 5 * 5))] oL_law_26 rfl rfl (ps8 rfl) (pCall_i.mono h (fun v1 M1 h => ?_))
    refine st_iload oL_law_29 rfl ?_
    refine st_ibin oL_law_30 ?_
    refine st_istore (L2 := [some (.ref l0), some (.ref l1), some (.int l2), some (.int (v1 >>> (l2 &&& 31))), none, none, none, none, none, none, none]) oL_law_31 (by decide) rfl rfl ?_
    exact h
theorem bL_law_32 {d : Nat} {Q : pR → pM → Prop} {c s : Nat} {M : pM} {l0 : Nat} {l1 : Nat} {l2 : Int32} {l3 : Int32} (h : pCall_i d mL_below (0, 0) [.int l3, .int 5] M (fun v1 M1 => ((3 ≤ v1 → Go d mL_law Q 70 ([some (.ref l0), some (.ref l1), some (.int l2), some (.int l3), none, none, none, none, none, none, none], [], c, s) (keepM M M1)) ∧ (¬ 3 ≤ v1 → pK (keepM M M1) l1 = (1, 11) ∧ ∃ rs1 : Nat × Nat, rs1.1 ≤ c ∧ rs1.2 ≤ s ∧ pCall_i d mX11_count rs1 [.ref l1, .int 4] (keepM M M1) (fun v2 M2 => ((20 ≤ v2 → Go d mL_law Q 70 ([some (.ref l0), some (.ref l1), some (.int l2), some (.int l3), none, none, none, none, none, none, none], [], (c - rs1.1), (s - rs1.2)) (keepM (keepM M M1) M2)) ∧ (¬ 20 ≤ v2 → pCall_i d mL_below (0, 0) [.int (l3 >>> (2 &&& 31)), .int 6] (keepM (keepM M M1) M2) (fun v3 M3 => pK (keepM (keepM (keepM M M1) M2) M3) l1 = (1, 11) ∧ ∃ rs2 : Nat × Nat, rs2.1 ≤ (c - rs1.1) ∧ rs2.2 ≤ (s - rs1.2) ∧ pCall_i d mX11_type rs2 [.ref l1, .int (97 + v3)] (keepM (keepM (keepM M M1) M2) M3) (fun v4 M4 => Go d mL_law Q 125 ([some (.ref l0), some (.ref l1), some (.int l2), some (.int l3), none, none, none, none, none, none, none], [], ((c - rs1.1) - rs2.1), ((s - rs1.2) - rs2.2)) (keepM (keepM (keepM (keepM M M1) M2) M3) M4)))))))))) : Go d mL_law Q 32 ([some (.ref l0), some (.ref l1), some (.int l2), some (.int l3), none, none, none, none, none, none, none], [], c, s) M := by
  refine st_iload oL_law_32 rfl ?_
  refine st_const oL_law_33 ?_
  refine st_callS0_iK [.int l3, .int 5] oL_law_34 rfl rfl (ps8 rfl) (pCall_i.mono h (fun v1 M1 h => ?_))
  refine st_const oL_law_37 ?_
  refine st_icmp oL_law_38 (fun g => ?_) (fun g => ?_)
  · have h := h.1 g
    exact h
  · have h := h.2 g
    refine st_aload oL_law_41 rfl ?_
    refine st_const oL_law_42 ?_
    obtain ⟨hK, rs1, h1, h2, h⟩ := h
    refine st_callV_iK [.int 4] oL_law_43 rfl rfl hK (ps8 rfl) h1 h2 (pCall_i.mono h (fun v2 M2 h => ?_))
    refine st_const oL_law_46 ?_
    refine st_icmp oL_law_48 (fun g => ?_) (fun g => ?_)
    · have h := h.1 g
      exact h
    · have h := h.2 g
      refine st_aload oL_law_51 rfl ?_
      refine st_const oL_law_52 ?_
      refine st_iload oL_law_54 rfl ?_
      refine st_const oL_law_55 ?_
      refine st_ibin oL_law_56 ?_
      refine st_const oL_law_57 ?_
      refine st_callS0_iK [.int (l3 >>> (2 &&& 31)), .int 6] oL_law_59 rfl rfl (ps8 rfl) (pCall_i.mono h (fun v3 M3 h => ?_))
      refine st_ibin oL_law_62 ?_
      obtain ⟨hK, rs2, h1, h2, h⟩ := h
      refine st_callV_iK [.int (97 + v3)] oL_law_63 rfl rfl hK (ps8 rfl) h1 h2 (pCall_i.mono h (fun v4 M4 h => ?_))
      refine st_pop oL_law_66 rfl ?_
      refine st_goto oL_law_67 ?_
      exact h
theorem bL_law_70 {d : Nat} {Q : pR → pM → Prop} {c s : Nat} {M : pM} {l0 : Nat} {l1 : Nat} {l2 : Int32} {l3 : Int32} (h : pCall_i d mL_below (0, 0) [.int l3, .int 5] M (fun v1 M1 => ((v1 = 3 → pK (keepM M M1) l1 = (1, 11) ∧ ∃ rs1 : Nat × Nat, rs1.1 ≤ c ∧ rs1.2 ≤ s ∧ pCall_i d mX11_count rs1 [.ref l1, .int 4] (keepM M M1) (fun v2 M2 => ((v2 ≤ 0 → Go d mL_law Q 95 ([some (.ref l0), some (.ref l1), some (.int l2), some (.int l3), none, none, none, none, none, none, none], [], (c - rs1.1), (s - rs1.2)) (keepM (keepM M M1) M2)) ∧ (¬ v2 ≤ 0 → pK (keepM (keepM M M1) M2) l1 = (1, 11) ∧ ∃ rs2 : Nat × Nat, rs2.1 ≤ (c - rs1.1) ∧ rs2.2 ≤ (s - rs1.2) ∧ pCall_i d mX11_back rs2 [.ref l1] (keepM (keepM M M1) M2) (fun v3 M3 => Go d mL_law Q 125 ([some (.ref l0), some (.ref l1), some (.int l2), some (.int l3), none, none, none, none, none, none, none], [], ((c - rs1.1) - rs2.1), ((s - rs1.2) - rs2.2)) (keepM (keepM (keepM M M1) M2) M3)))))) ∧ (¬ v1 = 3 → Go d mL_law Q 95 ([some (.ref l0), some (.ref l1), some (.int l2), some (.int l3), none, none, none, none, none, none, none], [], c, s) (keepM M M1))))) : Go d mL_law Q 70 ([some (.ref l0), some (.ref l1), some (.int l2), some (.int l3), none, none, none, none, none, none, none], [], c, s) M := by
  refine st_iload oL_law_70 rfl ?_
  refine st_const oL_law_71 ?_
  refine st_callS0_iK [.int l3, .int 5] oL_law_72 rfl rfl (ps8 rfl) (pCall_i.mono h (fun v1 M1 h => ?_))
  refine st_const oL_law_75 ?_
  refine st_icmp oL_law_76 (fun g => ?_) (fun g => ?_)
  · have h := h.1 g
    refine st_aload oL_law_79 rfl ?_
    refine st_const oL_law_80 ?_
    obtain ⟨hK, rs1, h1, h2, h⟩ := h
    refine st_callV_iK [.int 4] oL_law_81 rfl rfl hK (ps8 rfl) h1 h2 (pCall_i.mono h (fun v2 M2 h => ?_))
    refine st_if oL_law_84 (fun g => ?_) (fun g => ?_)
    · have h := h.1 g
      exact h
    · have h := h.2 g
      refine st_aload oL_law_87 rfl ?_
      obtain ⟨hK, rs2, h1, h2, h⟩ := h
      refine st_callV_iK [] oL_law_88 rfl rfl hK (ps8 rfl) h1 h2 (pCall_i.mono h (fun v3 M3 h => ?_))
      refine st_pop oL_law_91 rfl ?_
      refine st_goto oL_law_92 ?_
      exact h
  · have h := h.2 g
    exact h
theorem bL_law_95 {d : Nat} {Q : pR → pM → Prop} {c s : Nat} {M : pM} {l0 : Nat} {l1 : Nat} {l2 : Int32} {l3 : Int32} (h : pK M l1 = (1, 11) ∧ ∃ rs1 : Nat × Nat, rs1.1 ≤ c ∧ rs1.2 ≤ s ∧ pCall_i d mX11_count rs1 [.ref l1, .int 8] M (fun v1 M1 => ((v1 ≤ 0 → Go d mL_law Q 125 ([some (.ref l0), some (.ref l1), some (.int l2), some (.int l3), none, none, none, none, none, none, none], [], (c - rs1.1), (s - rs1.2)) (keepM M M1)) ∧ (¬ v1 ≤ 0 → pK (keepM M M1) l1 = (1, 11) ∧ ∃ rs2 : Nat × Nat, rs2.1 ≤ (c - rs1.1) ∧ rs2.2 ≤ (s - rs1.2) ∧ pCall_i d mX11_count rs2 [.ref l1, .int 8] (keepM M M1) (fun v2 M2 => pCall_i d mL_below (0, 0) [.int (l3 >>> (3 &&& 31)), .int (if v2 < 5 then v2 else 5)] (keepM (keepM M M1) M2) (fun v3 M3 => pK (keepM (keepM (keepM M M1) M2) M3) l1 = (1, 11) ∧ ∃ rs3 : Nat × Nat, rs3.1 ≤ ((c - rs1.1) - rs2.1) ∧ rs3.2 ≤ ((s - rs1.2) - rs2.2) ∧ pCall_i d mX11_take rs3 [.ref l1, .int v3] (keepM (keepM (keepM M M1) M2) M3) (fun v4 M4 => Go d mL_law Q 125 ([some (.ref l0), some (.ref l1), some (.int l2), some (.int l3), none, none, none, none, none, none, none], [], (((c - rs1.1) - rs2.1) - rs3.1), (((s - rs1.2) - rs2.2) - rs3.2)) (keepM (keepM (keepM (keepM M M1) M2) M3) M4)))))))) : Go d mL_law Q 95 ([some (.ref l0), some (.ref l1), some (.int l2), some (.int l3), none, none, none, none, none, none, none], [], c, s) M := by
  refine st_aload oL_law_95 rfl ?_
  refine st_const oL_law_96 ?_
  obtain ⟨hK, rs1, h1, h2, h⟩ := h
  refine st_callV_iK [.int 8] oL_law_98 rfl rfl hK (ps8 rfl) h1 h2 (pCall_i.mono h (fun v1 M1 h => ?_))
  refine st_if oL_law_101 (fun g => ?_) (fun g => ?_)
  · have h := h.1 g
    exact h
  · have h := h.2 g
    refine st_aload oL_law_104 rfl ?_
    refine st_iload oL_law_105 rfl ?_
    refine st_const oL_law_106 ?_
    refine st_ibin oL_law_107 ?_
    refine st_const oL_law_108 ?_
    refine st_aload oL_law_109 rfl ?_
    refine st_const oL_law_110 ?_
    obtain ⟨hK, rs2, h1, h2, h⟩ := h
    refine st_callV_iK [.int 8] oL_law_112 rfl rfl hK (ps8 rfl) h1 h2 (pCall_i.mono h (fun v2 M2 h => ?_))
    refine st_min oL_law_115 (ps8 rfl) ?_
    refine st_callS0_iK [.int (l3 >>> (3 &&& 31)), .int (if v2 < 5 then v2 else 5)] oL_law_118 rfl rfl (ps8 rfl) (pCall_i.mono h (fun v3 M3 h => ?_))
    obtain ⟨hK, rs3, h1, h2, h⟩ := h
    refine st_callV_iK [.int v3] oL_law_121 rfl rfl hK (ps8 rfl) h1 h2 (pCall_i.mono h (fun v4 M4 h => ?_))
    refine st_pop oL_law_124 rfl ?_
    exact h
theorem bL_law_125 {d : Nat} {Q : pR → pM → Prop} {c s : Nat} {M : pM} {l0 : Nat} {l1 : Nat} {l2 : Int32} {l3 : Int32} (h : pCall_i d mL_below (0, 0) [.int (l3 >>> (4 &&& 31)), .int 6] M (fun v1 M1 => ((v1 = 0 → pCall_i d mL_below (0, 0) [.int (l3 >>> (5 &&& 31)), .int 10] (keepM M M1) (fun v2 M2 => pK (keepM (keepM M M1) M2) l1 = (1, 11) ∧ ∃ rs1 : Nat × Nat, rs1.1 ≤ c ∧ rs1.2 ≤ s ∧ pCall_i d mX11_setLimit rs1 [.ref l1, .int v2] (keepM (keepM M M1) M2) (fun v3 M3 => Go d mL_law Q 149 ([some (.ref l0), some (.ref l1), some (.int l2), none, none, none, none, none, none, none, none], [], (c - rs1.1), (s - rs1.2)) (keepM (keepM (keepM M M1) M2) M3)))) ∧ (¬ v1 = 0 → Go d mL_law Q 149 ([some (.ref l0), some (.ref l1), some (.int l2), none, none, none, none, none, none, none, none], [], c, s) (keepM M M1))))) : Go d mL_law Q 125 ([some (.ref l0), some (.ref l1), some (.int l2), some (.int l3), none, none, none, none, none, none, none], [], c, s) M := by
  refine st_iload oL_law_125 rfl ?_
  refine st_const oL_law_126 ?_
  refine st_ibin oL_law_127 ?_
  refine st_const oL_law_128 ?_
  refine st_callS0_iK [.int (l3 >>> (4 &&& 31)), .int 6] oL_law_130 rfl rfl (ps8 rfl) (pCall_i.mono h (fun v1 M1 h => ?_))
  refine st_if oL_law_133 (fun g => ?_) (fun g => ?_)
  · have h := h.1 g
    refine st_aload oL_law_136 rfl ?_
    refine st_iload oL_law_137 rfl ?_
    refine st_const oL_law_138 ?_
    refine st_ibin oL_law_139 ?_
    refine st_const oL_law_140 ?_
    refine st_callS0_iK [.int (l3 >>> (5 &&& 31)), .int 10] oL_law_142 rfl rfl (ps8 rfl) (pCall_i.mono h (fun v2 M2 h => ?_))
    obtain ⟨hK, rs1, h1, h2, h⟩ := h
    refine st_callV_iK [.int v2] oL_law_145 rfl rfl hK (ps8 rfl) h1 h2 (pCall_i.mono h (fun v3 M3 h => ?_))
    refine st_pop oL_law_148 rfl ?_
    exact Go.wk (L := [some (.ref l0), some (.ref l1), some (.int l2), none, none, none, none, none, none, none, none]) (And.intro (Or.inr rfl) (And.intro (Or.inr rfl) (And.intro (Or.inr rfl) (And.intro (Or.inl rfl) (And.intro (Or.inr rfl) (And.intro (Or.inr rfl) (And.intro (Or.inr rfl) (And.intro (Or.inr rfl) (And.intro (Or.inr rfl) (And.intro (Or.inr rfl) (And.intro (Or.inr rfl) True.intro))))))))))) h
  · have h := h.2 g
    exact Go.wk (L := [some (.ref l0), some (.ref l1), some (.int l2), none, none, none, none, none, none, none, none]) (And.intro (Or.inr rfl) (And.intro (Or.inr rfl) (And.intro (Or.inr rfl) (And.intro (Or.inl rfl) (And.intro (Or.inr rfl) (And.intro (Or.inr rfl) (And.intro (Or.inr rfl) (And.intro (Or.inr rfl) (And.intro (Or.inr rfl) (And.intro (Or.inr rfl) (And.intro (Or.inr rfl) True.intro))))))))))) h
theorem bL_law_149 {d : Nat} {Q : pR → pM → Prop} {c s : Nat} {M : pM} {l0 : Nat} {l1 : Nat} {l2 : Int32} (h : pK M l1 = (1, 11) ∧ pCall_l d mX11_digest (0, 0) [.ref l1] M (fun v1 M1 => Go d mL_law Q 155 ([some (.ref l0), some (.ref l1), some (.int l2), none, some (.long v1), none, none, none, none, none, none], [], c, s) (keepM M M1))) : Go d mL_law Q 149 ([some (.ref l0), some (.ref l1), some (.int l2), none, none, none, none, none, none, none, none], [], c, s) M := by
  refine st_aload oL_law_149 rfl ?_
  obtain ⟨hK, h⟩ := h
  refine st_callV0_lK [] oL_law_150 rfl rfl hK (ps8 rfl) (pCall_l.mono h (fun v1 M1 h => ?_))
  refine st_lstore (L2 := [some (.ref l0), some (.ref l1), some (.int l2), none, some (.long v1), none, none, none, none, none, none]) oL_law_153 (by decide) rfl rfl ?_
  exact h
theorem bL_law_155 {d : Nat} {Q : pR → pM → Prop} {c s : Nat} {M : pM} {l0 : Nat} {l1 : Nat} {l2 : Int32} {l4 : Int64} (h : Go d mL_law Q 164 ([some (.ref l0), some (.ref l1), some (.int l2), none, some (.long l4), none, some (.int 0), some (.int 0), some (.int 0), none, none], [], c, s) M) : Go d mL_law Q 155 ([some (.ref l0), some (.ref l1), some (.int l2), none, some (.long l4), none, none, none, none, none, none], [], c, s) M := by
  refine st_const oL_law_155 ?_
  refine st_istore (L2 := [some (.ref l0), some (.ref l1), some (.int l2), none, some (.long l4), none, some (.int 0), none, none, none, none]) oL_law_156 (by decide) rfl rfl ?_
  refine st_const oL_law_158 ?_
  refine st_istore (L2 := [some (.ref l0), some (.ref l1), some (.int l2), none, some (.long l4), none, some (.int 0), some (.int 0), none, none, none]) oL_law_159 (by decide) rfl rfl ?_
  refine st_const oL_law_161 ?_
  refine st_istore (L2 := [some (.ref l0), some (.ref l1), some (.int l2), none, some (.long l4), none, some (.int 0), some (.int 0), some (.int 0), none, none]) oL_law_162 (by decide) rfl rfl ?_
  exact h
theorem bL_law_164 {d : Nat} {Q : pR → pM → Prop} {c s : Nat} {M : pM} {l0 : Nat} {l1 : Nat} {l2 : Int32} {l4 : Int64} {l6 : Int32} {l7 : Int32} {l8 : Int32} (h : pK M l1 = (1, 11) ∧ ∃ rs1 : Nat × Nat, rs1.1 ≤ c ∧ rs1.2 ≤ s ∧ pCall_i d mX11_count rs1 [.ref l1, .int 0] M (fun v1 M1 => ((v1 ≤ l8 → Go d mL_law Q 438 ([some (.ref l0), some (.ref l1), some (.int l2), none, some (.long l4), none, some (.int l6), some (.int l7), none, none, none], [], (c - rs1.1), (s - rs1.2)) (keepM M M1)) ∧ (¬ v1 ≤ l8 → pK (keepM M M1) l1 = (1, 11) ∧ ∃ rs2 : Nat × Nat, rs2.1 ≤ (c - rs1.1) ∧ rs2.2 ≤ (s - rs1.2) ∧ pCall_i d mX11_word rs2 [.ref l1, .int l8, .int 5] (keepM M M1) (fun v2 M2 => Go d mL_law Q 183 ([some (.ref l0), some (.ref l1), some (.int l2), none, some (.long l4), none, some (.int l6), some (.int l7), some (.int l8), some (.int v2), none], [], ((c - rs1.1) - rs2.1), ((s - rs1.2) - rs2.2)) (keepM (keepM M M1) M2)))))) : Go d mL_law Q 164 ([some (.ref l0), some (.ref l1), some (.int l2), none, some (.long l4), none, some (.int l6), some (.int l7), some (.int l8), none, none], [], c, s) M := by
  refine st_iload oL_law_164 rfl ?_
  refine st_aload oL_law_166 rfl ?_
  refine st_const oL_law_167 ?_
  obtain ⟨hK, rs1, h1, h2, h⟩ := h
  refine st_callV_iK [.int 0] oL_law_168 rfl rfl hK (ps8 rfl) h1 h2 (pCall_i.mono h (fun v1 M1 h => ?_))
  refine st_icmp oL_law_171 (fun g => ?_) (fun g => ?_)
  · have h := h.1 g
    exact Go.wk (L := [some (.ref l0), some (.ref l1), some (.int l2), none, some (.long l4), none, some (.int l6), some (.int l7), none, none, none]) (And.intro (Or.inr rfl) (And.intro (Or.inr rfl) (And.intro (Or.inr rfl) (And.intro (Or.inr rfl) (And.intro (Or.inr rfl) (And.intro (Or.inr rfl) (And.intro (Or.inr rfl) (And.intro (Or.inr rfl) (And.intro (Or.inl rfl) (And.intro (Or.inr rfl) (And.intro (Or.inr rfl) True.intro))))))))))) h
  · have h := h.2 g
    refine st_aload oL_law_174 rfl ?_
    refine st_iload oL_law_175 rfl ?_
    refine st_const oL_law_177 ?_
    obtain ⟨hK, rs2, h1, h2, h⟩ := h
    refine st_callV_iK [.int l8, .int 5] oL_law_178 rfl rfl hK (ps8 rfl) h1 h2 (pCall_i.mono h (fun v2 M2 h => ?_))
    refine st_istore (L2 := [some (.ref l0), some (.ref l1), some (.int l2), none, some (.long l4), none, some (.int l6), some (.int l7), some (.int l8), some (.int v2), none]) oL_law_181 (by decide) rfl rfl ?_
    exact h
theorem bL_law_183 {d : Nat} {Q : pR → pM → Prop} {c s : Nat} {M : pM} {l0 : Nat} {l1 : Nat} {l2 : Int32} {l4 : Int64} {l6 : Int32} {l7 : Int32} {l8 : Int32} {l9 : Int32} (h : pK M l1 = (1, 11) ∧ ∃ rs1 : Nat × Nat, rs1.1 ≤ c ∧ rs1.2 ≤ s ∧ pCall_i d mX11_count rs1 [.ref l1, .int 4] M (fun v1 M1 => pK (keepM M M1) l1 = (1, 11) ∧ ∃ rs2 : Nat × Nat, rs2.1 ≤ (c - rs1.1) ∧ rs2.2 ≤ (s - rs1.2) ∧ pCall_i d mX11_word rs2 [.ref l1, .int l8, .int 2] (keepM M M1) (fun v2 M2 => ((v2 < v1 → Go d mL_law Q 205 ([some (.ref l0), some (.ref l1), some (.int l2), none, some (.long l4), none, some (.int l6), some (.int l7), some (.int l8), some (.int l9), some (.int 0)], [], ((c - rs1.1) - rs2.1), ((s - rs1.2) - rs2.2)) (keepM (keepM M M1) M2)) ∧ (¬ v2 < v1 → Go d mL_law Q 205 ([some (.ref l0), some (.ref l1), some (.int l2), none, some (.long l4), none, some (.int l6), some (.int l7), some (.int l8), some (.int l9), some (.int 1)], [], ((c - rs1.1) - rs2.1), ((s - rs1.2) - rs2.2)) (keepM (keepM M M1) M2)))))) : Go d mL_law Q 183 ([some (.ref l0), some (.ref l1), some (.int l2), none, some (.long l4), none, some (.int l6), some (.int l7), some (.int l8), some (.int l9), none], [], c, s) M := by
  refine st_aload oL_law_183 rfl ?_
  refine st_const oL_law_184 ?_
  obtain ⟨hK, rs1, h1, h2, h⟩ := h
  refine st_callV_iK [.int 4] oL_law_185 rfl rfl hK (ps8 rfl) h1 h2 (pCall_i.mono h (fun v1 M1 h => ?_))
  refine st_aload oL_law_188 rfl ?_
  refine st_iload oL_law_189 rfl ?_
  refine st_const oL_law_191 ?_
  obtain ⟨hK, rs2, h1, h2, h⟩ := h
  refine st_callV_iK [.int l8, .int 2] oL_law_192 rfl rfl hK (ps8 rfl) h1 h2 (pCall_i.mono h (fun v2 M2 h => ?_))
  refine st_icmp oL_law_195 (fun g => ?_) (fun g => ?_)
  · have h := h.1 g
    refine st_const oL_law_202 ?_
    refine st_istore (L2 := [some (.ref l0), some (.ref l1), some (.int l2), none, some (.long l4), none, some (.int l6), some (.int l7), some (.int l8), some (.int l9), some (.int 0)]) oL_law_203 (by decide) rfl rfl ?_
    exact h
  · have h := h.2 g
    refine st_const oL_law_198 ?_
    refine st_goto oL_law_199 ?_
    refine st_istore (L2 := [some (.ref l0), some (.ref l1), some (.int l2), none, some (.long l4), none, some (.int l6), some (.int l7), some (.int l8), some (.int l9), some (.int 1)]) oL_law_203 (by decide) rfl rfl ?_
    exact h
theorem bL_law_205 {d : Nat} {Q : pR → pM → Prop} {c s : Nat} {M : pM} {l0 : Nat} {l1 : Nat} {l2 : Int32} {l4 : Int64} {l6 : Int32} {l7 : Int32} {l8 : Int32} {l9 : Int32} {l10 : Int32} (h : ((l9 < 0 → Go d mL_law Q 220 ([some (.ref l0), some (.ref l1), some (.int l2), none, some (.long l4), none, some (.int (l6 + 0)), some (.int l7), some (.int l8), some (.int l9), some (.int l10)], [], c, s) M) ∧ (¬ l9 < 0 → Go d mL_law Q 220 ([some (.ref l0), some (.ref l1), some (.int l2), none, some (.long l4), none, some (.int (l6 + 1)), some (.int l7), some (.int l8), some (.int l9), some (.int l10)], [], c, s) M))) : Go d mL_law Q 205 ([some (.ref l0), some (.ref l1), some (.int l2), none, some (.long l4), none, some (.int l6), some (.int l7), some (.int l8), some (.int l9), some (.int l10)], [], c, s) M := by
  refine st_iload oL_law_205 rfl ?_
  refine st_iload oL_law_207 rfl ?_
  refine st_if oL_law_209 (fun g => ?_) (fun g => ?_)
  · have h := h.1 g
    refine st_const oL_law_216 ?_
    refine st_ibin oL_law_217 ?_
    refine st_istore (L2 := [some (.ref l0), some (.ref l1), some (.int l2), none, some (.long l4), none, some (.int (l6 + 0)), some (.int l7), some (.int l8), some (.int l9), some (.int l10)]) oL_law_218 (by decide) rfl rfl ?_
    exact h
  · have h := h.2 g
    refine st_const oL_law_212 ?_
    refine st_goto oL_law_213 ?_
    refine st_ibin oL_law_217 ?_
    refine st_istore (L2 := [some (.ref l0), some (.ref l1), some (.int l2), none, some (.long l4), none, some (.int (l6 + 1)), some (.int l7), some (.int l8), some (.int l9), some (.int l10)]) oL_law_218 (by decide) rfl rfl ?_
    exact h
theorem bL_law_220 {d : Nat} {Q : pR → pM → Prop} {c s : Nat} {M : pM} {l0 : Nat} {l1 : Nat} {l2 : Int32} {l4 : Int64} {l6 : Int32} {l7 : Int32} {l8 : Int32} {l9 : Int32} {l10 : Int32} (h : ((l9 < 0 → pK M l1 = (1, 11) ∧ ∃ rs1 : Nat × Nat, rs1.1 ≤ c ∧ rs1.2 ≤ s ∧ pCall_i d mX11_word rs1 [.ref l1, .int l8, .int 3] M (fun v1 M1 => pK (keepM M M1) l1 = (1, 11) ∧ ∃ rs2 : Nat × Nat, rs2.1 ≤ (c - rs1.1) ∧ rs2.2 ≤ (s - rs1.2) ∧ pCall_i d mX11_count rs2 [.ref l1, .int 6] (keepM M M1) (fun v2 M2 => ((v2 < v1 → (((0 : Int32) = (0 : Int32) → Go d mL_law Q 254 ([some (.ref l0), some (.ref l1), some (.int l2), none, some (.long l4), none, some (.int l6), some (.int l7), some (.int l8), some (.int l9), some (.int l10)], [], ((c - rs1.1) - rs2.1), ((s - rs1.2) - rs2.2)) (keepM (keepM M M1) M2)) ∧ (¬ (0 : Int32) = (0 : Int32) → Q (.inl (some (.int 0))) (keepM (keepM M M1) M2)))) ∧ (¬ v2 < v1 → (((0 : Int32) = (1 : Int32) → Go d mL_law Q 254 ([some (.ref l0), some (.ref l1), some (.int l2), none, some (.long l4), none, some (.int l6), some (.int l7), some (.int l8), some (.int l9), some (.int l10)], [], ((c - rs1.1) - rs2.1), ((s - rs1.2) - rs2.2)) (keepM (keepM M M1) M2)) ∧ (¬ (0 : Int32) = (1 : Int32) → Q (.inl (some (.int 0))) (keepM (keepM M M1) M2)))))))) ∧ (¬ l9 < 0 → pK M l1 = (1, 11) ∧ ∃ rs3 : Nat × Nat, rs3.1 ≤ c ∧ rs3.2 ≤ s ∧ pCall_i d mX11_word rs3 [.ref l1, .int l8, .int 3] M (fun v3 M3 => pK (keepM M M3) l1 = (1, 11) ∧ ∃ rs4 : Nat × Nat, rs4.1 ≤ (c - rs3.1) ∧ rs4.2 ≤ (s - rs3.2) ∧ pCall_i d mX11_count rs4 [.ref l1, .int 6] (keepM M M3) (fun v4 M4 => ((v4 < v3 → (((1 : Int32) = (0 : Int32) → Go d mL_law Q 254 ([some (.ref l0), some (.ref l1), some (.int l2), none, some (.long l4), none, some (.int l6), some (.int l7), some (.int l8), some (.int l9), some (.int l10)], [], ((c - rs3.1) - rs4.1), ((s - rs3.2) - rs4.2)) (keepM (keepM M M3) M4)) ∧ (¬ (1 : Int32) = (0 : Int32) → Q (.inl (some (.int 0))) (keepM (keepM M M3) M4)))) ∧ (¬ v4 < v3 → (((1 : Int32) = (1 : Int32) → Go d mL_law Q 254 ([some (.ref l0), some (.ref l1), some (.int l2), none, some (.long l4), none, some (.int l6), some (.int l7), some (.int l8), some (.int l9), some (.int l10)], [], ((c - rs3.1) - rs4.1), ((s - rs3.2) - rs4.2)) (keepM (keepM M M3) M4)) ∧ (¬ (1 : Int32) = (1 : Int32) → Q (.inl (some (.int 0))) (keepM (keepM M M3) M4)))))))))) : Go d mL_law Q 220 ([some (.ref l0), some (.ref l1), some (.int l2), none, some (.long l4), none, some (.int l6), some (.int l7), some (.int l8), some (.int l9), some (.int l10)], [], c, s) M := by
  refine st_iload oL_law_220 rfl ?_
  refine st_if oL_law_222 (fun g => ?_) (fun g => ?_)
  · have h := h.1 g
    refine st_const oL_law_229 ?_
    refine st_aload oL_law_230 rfl ?_
    refine st_iload oL_law_231 rfl ?_
    refine st_const oL_law_233 ?_
    obtain ⟨hK, rs1, h1, h2, h⟩ := h
    refine st_callV_iK [.int l8, .int 3] oL_law_234 rfl rfl hK (ps8 rfl) h1 h2 (pCall_i.mono h (fun v1 M1 h => ?_))
    refine st_aload oL_law_237 rfl ?_
    refine st_const oL_law_238 ?_
    obtain ⟨hK, rs2, h1, h2, h⟩ := h
    refine st_callV_iK [.int 6] oL_law_240 rfl rfl hK (ps8 rfl) h1 h2 (pCall_i.mono h (fun v2 M2 h => ?_))
    refine st_icmp oL_law_243 (fun g => ?_) (fun g => ?_)
    · have h := h.1 g
      refine st_const oL_law_250 ?_
      refine st_icmp oL_law_251 (fun g => ?_) (fun g => ?_)
      · have h := h.1 g
        exact h
      · have h := h.2 g
        refine st_const oL_law_326 ?_
        exact st_zret oL_law_327 (Or.inl rfl) h
    · have h := h.2 g
      refine st_const oL_law_246 ?_
      refine st_goto oL_law_247 ?_
      refine st_icmp oL_law_251 (fun g => ?_) (fun g => ?_)
      · have h := h.1 g
        exact h
      · have h := h.2 g
        refine st_const oL_law_326 ?_
        exact st_zret oL_law_327 (Or.inl rfl) h
  · have h := h.2 g
    refine st_const oL_law_225 ?_
    refine st_goto oL_law_226 ?_
    refine st_aload oL_law_230 rfl ?_
    refine st_iload oL_law_231 rfl ?_
    refine st_const oL_law_233 ?_
    obtain ⟨hK, rs3, h1, h2, h⟩ := h
    refine st_callV_iK [.int l8, .int 3] oL_law_234 rfl rfl hK (ps8 rfl) h1 h2 (pCall_i.mono h (fun v3 M3 h => ?_))
    refine st_aload oL_law_237 rfl ?_
    refine st_const oL_law_238 ?_
    obtain ⟨hK, rs4, h1, h2, h⟩ := h
    refine st_callV_iK [.int 6] oL_law_240 rfl rfl hK (ps8 rfl) h1 h2 (pCall_i.mono h (fun v4 M4 h => ?_))
    refine st_icmp oL_law_243 (fun g => ?_) (fun g => ?_)
    · have h := h.1 g
      refine st_const oL_law_250 ?_
      refine st_icmp oL_law_251 (fun g => ?_) (fun g => ?_)
      · have h := h.1 g
        exact h
      · have h := h.2 g
        refine st_const oL_law_326 ?_
        exact st_zret oL_law_327 (Or.inl rfl) h
    · have h := h.2 g
      refine st_const oL_law_246 ?_
      refine st_goto oL_law_247 ?_
      refine st_icmp oL_law_251 (fun g => ?_) (fun g => ?_)
      · have h := h.1 g
        exact h
      · have h := h.2 g
        refine st_const oL_law_326 ?_
        exact st_zret oL_law_327 (Or.inl rfl) h
theorem bL_law_254 {d : Nat} {Q : pR → pM → Prop} {c s : Nat} {M : pM} {l0 : Nat} {l1 : Nat} {l2 : Int32} {l4 : Int64} {l6 : Int32} {l7 : Int32} {l8 : Int32} {l9 : Int32} {l10 : Int32} (h : ((l9 < 0 → Go d mL_law Q 276 ([some (.ref l0), some (.ref l1), some (.int l2), none, some (.long l4), none, some (.int l6), some (.int l7), some (.int l8), some (.int l9), some (.int l10)], [], c, s) M) ∧ (¬ l9 < 0 → ((5 ≤ l9 → Go d mL_law Q 276 ([some (.ref l0), some (.ref l1), some (.int l2), none, some (.long l4), none, some (.int l6), some (.int l7), some (.int l8), some (.int l9), some (.int l10)], [], c, s) M) ∧ (¬ 5 ≤ l9 → pK M l1 = (1, 11) ∧ ∃ rs1 : Nat × Nat, rs1.1 ≤ c ∧ rs1.2 ≤ s ∧ pCall_i d mX11_offer rs1 [.ref l1, .int l9] M (fun v1 M1 => ((v1 = l8 → Go d mL_law Q 276 ([some (.ref l0), some (.ref l1), some (.int l2), none, some (.long l4), none, some (.int l6), some (.int l7), some (.int l8), some (.int l9), some (.int l10)], [], (c - rs1.1), (s - rs1.2)) (keepM M M1)) ∧ (¬ v1 = l8 → Q (.inl (some (.int 0))) (keepM M M1))))))))) : Go d mL_law Q 254 ([some (.ref l0), some (.ref l1), some (.int l2), none, some (.long l4), none, some (.int l6), some (.int l7), some (.int l8), some (.int l9), some (.int l10)], [], c, s) M := by
  refine st_iload oL_law_254 rfl ?_
  refine st_if oL_law_256 (fun g => ?_) (fun g => ?_)
  · have h := h.1 g
    exact h
  · have h := h.2 g
    refine st_iload oL_law_259 rfl ?_
    refine st_const oL_law_261 ?_
    refine st_icmp oL_law_262 (fun g => ?_) (fun g => ?_)
    · have h := h.1 g
      exact h
    · have h := h.2 g
      refine st_aload oL_law_265 rfl ?_
      refine st_iload oL_law_266 rfl ?_
      obtain ⟨hK, rs1, h1, h2, h⟩ := h
      refine st_callV_iK [.int l9] oL_law_268 rfl rfl hK (ps8 rfl) h1 h2 (pCall_i.mono h (fun v1 M1 h => ?_))
      refine st_iload oL_law_271 rfl ?_
      refine st_icmp oL_law_273 (fun g => ?_) (fun g => ?_)
      · have h := h.1 g
        exact h
      · have h := h.2 g
        refine st_const oL_law_326 ?_
        exact st_zret oL_law_327 (Or.inl rfl) h
theorem bL_law_276 {d : Nat} {Q : pR → pM → Prop} {c s : Nat} {M : pM} {l0 : Nat} {l1 : Nat} {l2 : Int32} {l4 : Int64} {l6 : Int32} {l7 : Int32} {l8 : Int32} {l9 : Int32} {l10 : Int32} (h : pK M l1 = (1, 11) ∧ ∃ rs1 : Nat × Nat, rs1.1 ≤ c ∧ rs1.2 ≤ s ∧ pCall_i d mX11_word rs1 [.ref l1, .int l8, .int 0] M (fun v1 M1 => ((v1 < 0 → Q (.inl (some (.int 0))) (keepM M M1)) ∧ (¬ v1 < 0 → Go d mL_law Q 286 ([some (.ref l0), some (.ref l1), some (.int l2), none, some (.long l4), none, some (.int l6), some (.int l7), some (.int l8), some (.int l9), some (.int l10)], [], (c - rs1.1), (s - rs1.2)) (keepM M M1))))) : Go d mL_law Q 276 ([some (.ref l0), some (.ref l1), some (.int l2), none, some (.long l4), none, some (.int l6), some (.int l7), some (.int l8), some (.int l9), some (.int l10)], [], c, s) M := by
  refine st_aload oL_law_276 rfl ?_
  refine st_iload oL_law_277 rfl ?_
  refine st_const oL_law_279 ?_
  obtain ⟨hK, rs1, h1, h2, h⟩ := h
  refine st_callV_iK [.int l8, .int 0] oL_law_280 rfl rfl hK (ps8 rfl) h1 h2 (pCall_i.mono h (fun v1 M1 h => ?_))
  refine st_if oL_law_283 (fun g => ?_) (fun g => ?_)
  · have h := h.1 g
    refine st_const oL_law_326 ?_
    exact st_zret oL_law_327 (Or.inl rfl) h
  · have h := h.2 g
    exact h
theorem bL_law_286 {d : Nat} {Q : pR → pM → Prop} {c s : Nat} {M : pM} {l0 : Nat} {l1 : Nat} {l2 : Int32} {l4 : Int64} {l6 : Int32} {l7 : Int32} {l8 : Int32} {l9 : Int32} {l10 : Int32} (h : pK M l1 = (1, 11) ∧ ∃ rs1 : Nat × Nat, rs1.1 ≤ c ∧ rs1.2 ≤ s ∧ pCall_i d mX11_word rs1 [.ref l1, .int l8, .int 0] M (fun v1 M1 => ((9999 < v1 → Q (.inl (some (.int 0))) (keepM M M1)) ∧ (¬ 9999 < v1 → Go d mL_law Q 299 ([some (.ref l0), some (.ref l1), some (.int l2), none, some (.long l4), none, some (.int l6), some (.int l7), some (.int l8), some (.int l9), some (.int l10)], [], (c - rs1.1), (s - rs1.2)) (keepM M M1))))) : Go d mL_law Q 286 ([some (.ref l0), some (.ref l1), some (.int l2), none, some (.long l4), none, some (.int l6), some (.int l7), some (.int l8), some (.int l9), some (.int l10)], [], c, s) M := by
  refine st_aload oL_law_286 rfl ?_
  refine st_iload oL_law_287 rfl ?_
  refine st_const oL_law_289 ?_
  obtain ⟨hK, rs1, h1, h2, h⟩ := h
  refine st_callV_iK [.int l8, .int 0] oL_law_290 rfl rfl hK (ps8 rfl) h1 h2 (pCall_i.mono h (fun v1 M1 h => ?_))
  refine st_const oL_law_293 ?_
  refine st_icmp oL_law_296 (fun g => ?_) (fun g => ?_)
  · have h := h.1 g
    refine st_const oL_law_326 ?_
    exact st_zret oL_law_327 (Or.inl rfl) h
  · have h := h.2 g
    exact h
theorem bL_law_299 {d : Nat} {Q : pR → pM → Prop} {c s : Nat} {M : pM} {l0 : Nat} {l1 : Nat} {l2 : Int32} {l4 : Int64} {l6 : Int32} {l7 : Int32} {l8 : Int32} {l9 : Int32} {l10 : Int32} (h : pK M l1 = (1, 11) ∧ ∃ rs1 : Nat × Nat, rs1.1 ≤ c ∧ rs1.2 ≤ s ∧ pCall_i d mX11_word rs1 [.ref l1, .int l8, .int 3] M (fun v1 M1 => pK (keepM M M1) l1 = (1, 11) ∧ ∃ rs2 : Nat × Nat, rs2.1 ≤ (c - rs1.1) ∧ rs2.2 ≤ (s - rs1.2) ∧ pCall_i d mX11_count rs2 [.ref l1, .int 4] (keepM M M1) (fun v2 M2 => (((3 * v2) < v1 → Q (.inl (some (.int 0))) (keepM (keepM M M1) M2)) ∧ (¬ (3 * v2) < v1 → pK (keepM (keepM M M1) M2) l1 = (1, 11) ∧ ∃ rs3 : Nat × Nat, rs3.1 ≤ ((c - rs1.1) - rs2.1) ∧ rs3.2 ≤ ((s - rs1.2) - rs2.2) ∧ pCall_i d mX11_word rs3 [.ref l1, .int l8, .int 3] (keepM (keepM M M1) M2) (fun v3 M3 => ((0 ≤ v3 → Go d mL_law Q 328 ([some (.ref l0), some (.ref l1), some (.int l2), none, some (.long l4), none, some (.int l6), some (.int l7), some (.int l8), some (.int l9), some (.int l10)], [], (((c - rs1.1) - rs2.1) - rs3.1), (((s - rs1.2) - rs2.2) - rs3.2)) (keepM (keepM (keepM M M1) M2) M3)) ∧ (¬ 0 ≤ v3 → Q (.inl (some (.int 0))) (keepM (keepM (keepM M M1) M2) M3))))))))) : Go d mL_law Q 299 ([some (.ref l0), some (.ref l1), some (.int l2), none, some (.long l4), none, some (.int l6), some (.int l7), some (.int l8), some (.int l9), some (.int l10)], [], c, s) M := by
  refine st_aload oL_law_299 rfl ?_
  refine st_iload oL_law_300 rfl ?_
  refine st_const oL_law_302 ?_
  obtain ⟨hK, rs1, h1, h2, h⟩ := h
  refine st_callV_iK [.int l8, .int 3] oL_law_303 rfl rfl hK (ps8 rfl) h1 h2 (pCall_i.mono h (fun v1 M1 h => ?_))
  refine st_const oL_law_306 ?_
  refine st_aload oL_law_307 rfl ?_
  refine st_const oL_law_308 ?_
  obtain ⟨hK, rs2, h1, h2, h⟩ := h
  refine st_callV_iK [.int 4] oL_law_309 rfl rfl hK (ps8 rfl) h1 h2 (pCall_i.mono h (fun v2 M2 h => ?_))
  refine st_ibin oL_law_312 ?_
  refine st_icmp oL_law_313 (fun g => ?_) (fun g => ?_)
  · have h := h.1 g
    refine st_const oL_law_326 ?_
    exact st_zret oL_law_327 (Or.inl rfl) h
  · have h := h.2 g
    refine st_aload oL_law_316 rfl ?_
    refine st_iload oL_law_317 rfl ?_
    refine st_const oL_law_319 ?_
    obtain ⟨hK, rs3, h1, h2, h⟩ := h
    refine st_callV_iK [.int l8, .int 3] oL_law_320 rfl rfl hK (ps8 rfl) h1 h2 (pCall_i.mono h (fun v3 M3 h => ?_))
    refine st_if oL_law_323 (fun g => ?_) (fun g => ?_)
    · have h := h.1 g
      exact h
    · have h := h.2 g
      refine st_const oL_law_326 ?_
      exact st_zret oL_law_327 (Or.inl rfl) h
theorem bL_law_328 {d : Nat} {Q : pR → pM → Prop} {c s : Nat} {M : pM} {l0 : Nat} {l1 : Nat} {l2 : Int32} {l4 : Int64} {l6 : Int32} {l7 : Int32} {l8 : Int32} {l9 : Int32} {l10 : Int32} (h : pK M l1 = (1, 11) ∧ ∃ rs1 : Nat × Nat, rs1.1 ≤ c ∧ rs1.2 ≤ s ∧ pCall_i d mX11_needs rs1 [.ref l1, .int l8] M (fun v1 M1 => ((0 ≤ v1 → ((0 ≤ l9 → (((0 : Int32) = (0 : Int32) → Go d mL_law Q 355 ([some (.ref l0), some (.ref l1), some (.int l2), none, some (.long l4), none, some (.int l6), some (.int l7), some (.int l8), some (.int l9), some (.int l10)], [], (c - rs1.1), (s - rs1.2)) (keepM M M1)) ∧ (¬ (0 : Int32) = (0 : Int32) → Q (.inl (some (.int 0))) (keepM M M1)))) ∧ (¬ 0 ≤ l9 → (((0 : Int32) = (1 : Int32) → Go d mL_law Q 355 ([some (.ref l0), some (.ref l1), some (.int l2), none, some (.long l4), none, some (.int l6), some (.int l7), some (.int l8), some (.int l9), some (.int l10)], [], (c - rs1.1), (s - rs1.2)) (keepM M M1)) ∧ (¬ (0 : Int32) = (1 : Int32) → Q (.inl (some (.int 0))) (keepM M M1)))))) ∧ (¬ 0 ≤ v1 → ((0 ≤ l9 → (((1 : Int32) = (0 : Int32) → Go d mL_law Q 355 ([some (.ref l0), some (.ref l1), some (.int l2), none, some (.long l4), none, some (.int l6), some (.int l7), some (.int l8), some (.int l9), some (.int l10)], [], (c - rs1.1), (s - rs1.2)) (keepM M M1)) ∧ (¬ (1 : Int32) = (0 : Int32) → Q (.inl (some (.int 0))) (keepM M M1)))) ∧ (¬ 0 ≤ l9 → (((1 : Int32) = (1 : Int32) → Go d mL_law Q 355 ([some (.ref l0), some (.ref l1), some (.int l2), none, some (.long l4), none, some (.int l6), some (.int l7), some (.int l8), some (.int l9), some (.int l10)], [], (c - rs1.1), (s - rs1.2)) (keepM M M1)) ∧ (¬ (1 : Int32) = (1 : Int32) → Q (.inl (some (.int 0))) (keepM M M1))))))))) : Go d mL_law Q 328 ([some (.ref l0), some (.ref l1), some (.int l2), none, some (.long l4), none, some (.int l6), some (.int l7), some (.int l8), some (.int l9), some (.int l10)], [], c, s) M := by
  refine st_aload oL_law_328 rfl ?_
  refine st_iload oL_law_329 rfl ?_
  obtain ⟨hK, rs1, h1, h2, h⟩ := h
  refine st_callV_iK [.int l8] oL_law_331 rfl rfl hK (ps8 rfl) h1 h2 (pCall_i.mono h (fun v1 M1 h => ?_))
  refine st_if oL_law_334 (fun g => ?_) (fun g => ?_)
  · have h := h.1 g
    refine st_const oL_law_341 ?_
    refine st_iload oL_law_342 rfl ?_
    refine st_if oL_law_344 (fun g => ?_) (fun g => ?_)
    · have h := h.1 g
      refine st_const oL_law_351 ?_
      refine st_icmp oL_law_352 (fun g => ?_) (fun g => ?_)
      · have h := h.1 g
        exact h
      · have h := h.2 g
        refine st_const oL_law_410 ?_
        exact st_zret oL_law_411 (Or.inl rfl) h
    · have h := h.2 g
      refine st_const oL_law_347 ?_
      refine st_goto oL_law_348 ?_
      refine st_icmp oL_law_352 (fun g => ?_) (fun g => ?_)
      · have h := h.1 g
        exact h
      · have h := h.2 g
        refine st_const oL_law_410 ?_
        exact st_zret oL_law_411 (Or.inl rfl) h
  · have h := h.2 g
    refine st_const oL_law_337 ?_
    refine st_goto oL_law_338 ?_
    refine st_iload oL_law_342 rfl ?_
    refine st_if oL_law_344 (fun g => ?_) (fun g => ?_)
    · have h := h.1 g
      refine st_const oL_law_351 ?_
      refine st_icmp oL_law_352 (fun g => ?_) (fun g => ?_)
      · have h := h.1 g
        exact h
      · have h := h.2 g
        refine st_const oL_law_410 ?_
        exact st_zret oL_law_411 (Or.inl rfl) h
    · have h := h.2 g
      refine st_const oL_law_347 ?_
      refine st_goto oL_law_348 ?_
      refine st_icmp oL_law_352 (fun g => ?_) (fun g => ?_)
      · have h := h.1 g
        exact h
      · have h := h.2 g
        refine st_const oL_law_410 ?_
        exact st_zret oL_law_411 (Or.inl rfl) h
theorem bL_law_355 {d : Nat} {Q : pR → pM → Prop} {c s : Nat} {M : pM} {l0 : Nat} {l1 : Nat} {l2 : Int32} {l4 : Int64} {l6 : Int32} {l7 : Int32} {l8 : Int32} {l9 : Int32} {l10 : Int32} (h : pK M l1 = (1, 11) ∧ ∃ rs1 : Nat × Nat, rs1.1 ≤ c ∧ rs1.2 ≤ s ∧ pCall_i d mX11_strokes rs1 [.ref l1, .int l8] M (fun v1 M1 => pK (keepM M M1) l1 = (1, 11) ∧ ∃ rs2 : Nat × Nat, rs2.1 ≤ (c - rs1.1) ∧ rs2.2 ≤ (s - rs1.2) ∧ pCall_i d mX11_word rs2 [.ref l1, .int l8, .int 2] (keepM M M1) (fun v2 M2 => (((v2 + 1) < v1 → Q (.inl (some (.int 0))) (keepM (keepM M M1) M2)) ∧ (¬ (v2 + 1) < v1 → pK (keepM (keepM M M1) M2) l1 = (1, 11) ∧ ∃ rs3 : Nat × Nat, rs3.1 ≤ ((c - rs1.1) - rs2.1) ∧ rs3.2 ≤ ((s - rs1.2) - rs2.2) ∧ pCall_i d mX11_closest rs3 [.ref l1, .int l8] (keepM (keepM M M1) M2) (fun v3 M3 => ((v3 < 0 → Q (.inl (some (.int 0))) (keepM (keepM (keepM M M1) M2) M3)) ∧ (¬ v3 < 0 → Go d mL_law Q 382 ([some (.ref l0), some (.ref l1), some (.int l2), none, some (.long l4), none, some (.int l6), some (.int l7), some (.int l8), some (.int l9), some (.int l10)], [], (((c - rs1.1) - rs2.1) - rs3.1), (((s - rs1.2) - rs2.2) - rs3.2)) (keepM (keepM (keepM M M1) M2) M3))))))))) : Go d mL_law Q 355 ([some (.ref l0), some (.ref l1), some (.int l2), none, some (.long l4), none, some (.int l6), some (.int l7), some (.int l8), some (.int l9), some (.int l10)], [], c, s) M := by
  refine st_aload oL_law_355 rfl ?_
  refine st_iload oL_law_356 rfl ?_
  obtain ⟨hK, rs1, h1, h2, h⟩ := h
  refine st_callV_iK [.int l8] oL_law_358 rfl rfl hK (ps8 rfl) h1 h2 (pCall_i.mono h (fun v1 M1 h => ?_))
  refine st_aload oL_law_361 rfl ?_
  refine st_iload oL_law_362 rfl ?_
  refine st_const oL_law_364 ?_
  obtain ⟨hK, rs2, h1, h2, h⟩ := h
  refine st_callV_iK [.int l8, .int 2] oL_law_365 rfl rfl hK (ps8 rfl) h1 h2 (pCall_i.mono h (fun v2 M2 h => ?_))
  refine st_const oL_law_368 ?_
  refine st_ibin oL_law_369 ?_
  refine st_icmp oL_law_370 (fun g => ?_) (fun g => ?_)
  · have h := h.1 g
    refine st_const oL_law_410 ?_
    exact st_zret oL_law_411 (Or.inl rfl) h
  · have h := h.2 g
    refine st_aload oL_law_373 rfl ?_
    refine st_iload oL_law_374 rfl ?_
    obtain ⟨hK, rs3, h1, h2, h⟩ := h
    refine st_callV_iK [.int l8] oL_law_376 rfl rfl hK (ps8 rfl) h1 h2 (pCall_i.mono h (fun v3 M3 h => ?_))
    refine st_if oL_law_379 (fun g => ?_) (fun g => ?_)
    · have h := h.1 g
      refine st_const oL_law_410 ?_
      exact st_zret oL_law_411 (Or.inl rfl) h
    · have h := h.2 g
      exact h
theorem bL_law_382 {d : Nat} {Q : pR → pM → Prop} {c s : Nat} {M : pM} {l0 : Nat} {l1 : Nat} {l2 : Int32} {l4 : Int64} {l6 : Int32} {l7 : Int32} {l8 : Int32} {l9 : Int32} {l10 : Int32} (h : ((l10 = 0 → Go d mL_law Q 412 ([some (.ref l0), some (.ref l1), some (.int l2), none, some (.long l4), none, some (.int l6), some (.int l7), some (.int l8), none, none], [], c, s) M) ∧ (¬ l10 = 0 → pK M l1 = (1, 11) ∧ ∃ rs1 : Nat × Nat, rs1.1 ≤ c ∧ rs1.2 ≤ s ∧ pCall_i d mX11_word rs1 [.ref l1, .int l8, .int 3] M (fun v1 M1 => ((v1 = 0 → pK (keepM M M1) l1 = (1, 11) ∧ ∃ rs2 : Nat × Nat, rs2.1 ≤ (c - rs1.1) ∧ rs2.2 ≤ (s - rs1.2) ∧ pCall_i d mX11_count rs2 [.ref l1, .int 4] (keepM M M1) (fun v2 M2 => ((v2 = 0 → ((0 ≤ l9 → Go d mL_law Q 412 ([some (.ref l0), some (.ref l1), some (.int l2), none, some (.long l4), none, some (.int l6), some (.int l7), some (.int l8), none, none], [], ((c - rs1.1) - rs2.1), ((s - rs1.2) - rs2.2)) (keepM (keepM M M1) M2)) ∧ (¬ 0 ≤ l9 → Q (.inl (some (.int 0))) (keepM (keepM M M1) M2)))) ∧ (¬ v2 = 0 → Go d mL_law Q 412 ([some (.ref l0), some (.ref l1), some (.int l2), none, some (.long l4), none, some (.int l6), some (.int l7), some (.int l8), none, none], [], ((c - rs1.1) - rs2.1), ((s - rs1.2) - rs2.2)) (keepM (keepM M M1) M2))))) ∧ (¬ v1 = 0 → Go d mL_law Q 412 ([some (.ref l0), some (.ref l1), some (.int l2), none, some (.long l4), none, some (.int l6), some (.int l7), some (.int l8), none, none], [], (c - rs1.1), (s - rs1.2)) (keepM M M1))))))) : Go d mL_law Q 382 ([some (.ref l0), some (.ref l1), some (.int l2), none, some (.long l4), none, some (.int l6), some (.int l7), some (.int l8), some (.int l9), some (.int l10)], [], c, s) M := by
  refine st_iload oL_law_382 rfl ?_
  refine st_if oL_law_384 (fun g => ?_) (fun g => ?_)
  · have h := h.1 g
    exact Go.wk (L := [some (.ref l0), some (.ref l1), some (.int l2), none, some (.long l4), none, some (.int l6), some (.int l7), some (.int l8), none, none]) (And.intro (Or.inr rfl) (And.intro (Or.inr rfl) (And.intro (Or.inr rfl) (And.intro (Or.inr rfl) (And.intro (Or.inr rfl) (And.intro (Or.inr rfl) (And.intro (Or.inr rfl) (And.intro (Or.inr rfl) (And.intro (Or.inr rfl) (And.intro (Or.inl rfl) (And.intro (Or.inl rfl) True.intro))))))))))) h
  · have h := h.2 g
    refine st_aload oL_law_387 rfl ?_
    refine st_iload oL_law_388 rfl ?_
    refine st_const oL_law_390 ?_
    obtain ⟨hK, rs1, h1, h2, h⟩ := h
    refine st_callV_iK [.int l8, .int 3] oL_law_391 rfl rfl hK (ps8 rfl) h1 h2 (pCall_i.mono h (fun v1 M1 h => ?_))
    refine st_if oL_law_394 (fun g => ?_) (fun g => ?_)
    · have h := h.1 g
      refine st_aload oL_law_397 rfl ?_
      refine st_const oL_law_398 ?_
      obtain ⟨hK, rs2, h1, h2, h⟩ := h
      refine st_callV_iK [.int 4] oL_law_399 rfl rfl hK (ps8 rfl) h1 h2 (pCall_i.mono h (fun v2 M2 h => ?_))
      refine st_if oL_law_402 (fun g => ?_) (fun g => ?_)
      · have h := h.1 g
        refine st_iload oL_law_405 rfl ?_
        refine st_if oL_law_407 (fun g => ?_) (fun g => ?_)
        · have h := h.1 g
          exact Go.wk (L := [some (.ref l0), some (.ref l1), some (.int l2), none, some (.long l4), none, some (.int l6), some (.int l7), some (.int l8), none, none]) (And.intro (Or.inr rfl) (And.intro (Or.inr rfl) (And.intro (Or.inr rfl) (And.intro (Or.inr rfl) (And.intro (Or.inr rfl) (And.intro (Or.inr rfl) (And.intro (Or.inr rfl) (And.intro (Or.inr rfl) (And.intro (Or.inr rfl) (And.intro (Or.inl rfl) (And.intro (Or.inl rfl) True.intro))))))))))) h
        · have h := h.2 g
          refine st_const oL_law_410 ?_
          exact st_zret oL_law_411 (Or.inl rfl) h
      · have h := h.2 g
        exact Go.wk (L := [some (.ref l0), some (.ref l1), some (.int l2), none, some (.long l4), none, some (.int l6), some (.int l7), some (.int l8), none, none]) (And.intro (Or.inr rfl) (And.intro (Or.inr rfl) (And.intro (Or.inr rfl) (And.intro (Or.inr rfl) (And.intro (Or.inr rfl) (And.intro (Or.inr rfl) (And.intro (Or.inr rfl) (And.intro (Or.inr rfl) (And.intro (Or.inr rfl) (And.intro (Or.inl rfl) (And.intro (Or.inl rfl) True.intro))))))))))) h
    · have h := h.2 g
      exact Go.wk (L := [some (.ref l0), some (.ref l1), some (.int l2), none, some (.long l4), none, some (.int l6), some (.int l7), some (.int l8), none, none]) (And.intro (Or.inr rfl) (And.intro (Or.inr rfl) (And.intro (Or.inr rfl) (And.intro (Or.inr rfl) (And.intro (Or.inr rfl) (And.intro (Or.inr rfl) (And.intro (Or.inr rfl) (And.intro (Or.inr rfl) (And.intro (Or.inr rfl) (And.intro (Or.inl rfl) (And.intro (Or.inl rfl) True.intro))))))))))) h
theorem bL_law_412 {d : Nat} {Q : pR → pM → Prop} {c s : Nat} {M : pM} {l0 : Nat} {l1 : Nat} {l2 : Int32} {l4 : Int64} {l6 : Int32} {l7 : Int32} {l8 : Int32} (h : pK M l1 = (1, 11) ∧ ∃ rs1 : Nat × Nat, rs1.1 ≤ c ∧ rs1.2 ≤ s ∧ pCall_i d mX11_word rs1 [.ref l1, .int l8, .int 3] M (fun v1 M1 => ((v1 = 0 → Go d mL_law Q 432 ([some (.ref l0), some (.ref l1), some (.int l2), none, some (.long l4), none, some (.int l6), some (.int (l7 + 1)), some (.int l8), none, none], [], (c - rs1.1), (s - rs1.2)) (keepM M M1)) ∧ (¬ v1 = 0 → Go d mL_law Q 432 ([some (.ref l0), some (.ref l1), some (.int l2), none, some (.long l4), none, some (.int l6), some (.int (l7 + 0)), some (.int l8), none, none], [], (c - rs1.1), (s - rs1.2)) (keepM M M1))))) : Go d mL_law Q 412 ([some (.ref l0), some (.ref l1), some (.int l2), none, some (.long l4), none, some (.int l6), some (.int l7), some (.int l8), none, none], [], c, s) M := by
  refine st_iload oL_law_412 rfl ?_
  refine st_aload oL_law_414 rfl ?_
  refine st_iload oL_law_415 rfl ?_
  refine st_const oL_law_417 ?_
  obtain ⟨hK, rs1, h1, h2, h⟩ := h
  refine st_callV_iK [.int l8, .int 3] oL_law_418 rfl rfl hK (ps8 rfl) h1 h2 (pCall_i.mono h (fun v1 M1 h => ?_))
  refine st_if oL_law_421 (fun g => ?_) (fun g => ?_)
  · have h := h.1 g
    refine st_const oL_law_424 ?_
    refine st_goto oL_law_425 ?_
    refine st_ibin oL_law_429 ?_
    refine st_istore (L2 := [some (.ref l0), some (.ref l1), some (.int l2), none, some (.long l4), none, some (.int l6), some (.int (l7 + 1)), some (.int l8), none, none]) oL_law_430 (by decide) rfl rfl ?_
    exact h
  · have h := h.2 g
    refine st_const oL_law_428 ?_
    refine st_ibin oL_law_429 ?_
    refine st_istore (L2 := [some (.ref l0), some (.ref l1), some (.int l2), none, some (.long l4), none, some (.int l6), some (.int (l7 + 0)), some (.int l8), none, none]) oL_law_430 (by decide) rfl rfl ?_
    exact h
theorem bL_law_432 {d : Nat} {Q : pR → pM → Prop} {c s : Nat} {M : pM} {l0 : Nat} {l1 : Nat} {l2 : Int32} {l4 : Int64} {l6 : Int32} {l7 : Int32} {l8 : Int32} (h : Go d mL_law Q 164 ([some (.ref l0), some (.ref l1), some (.int l2), none, some (.long l4), none, some (.int l6), some (.int l7), some (.int (l8 + 1)), none, none], [], c, s) M) : Go d mL_law Q 432 ([some (.ref l0), some (.ref l1), some (.int l2), none, some (.long l4), none, some (.int l6), some (.int l7), some (.int l8), none, none], [], c, s) M := by
  refine st_iinc (L2 := [some (.ref l0), some (.ref l1), some (.int l2), none, some (.long l4), none, some (.int l6), some (.int l7), some (.int (l8 + 1)), none, none]) oL_law_432 rfl (by decide) rfl rfl ?_
  refine st_goto oL_law_435 ?_
  exact h
theorem bL_law_438 {d : Nat} {Q : pR → pM → Prop} {c s : Nat} {M : pM} {l0 : Nat} {l1 : Nat} {l2 : Int32} {l4 : Int64} {l6 : Int32} {l7 : Int32} (h : pK M l1 = (1, 11) ∧ ∃ rs1 : Nat × Nat, rs1.1 ≤ c ∧ rs1.2 ≤ s ∧ pCall_i d mX11_count rs1 [.ref l1, .int 8] M (fun v1 M1 => ((l6 = v1 → Go d mL_law Q 449 ([some (.ref l0), some (.ref l1), some (.int l2), none, some (.long l4), none, none, some (.int l7), none, none, none], [], (c - rs1.1), (s - rs1.2)) (keepM M M1)) ∧ (¬ l6 = v1 → Q (.inl (some (.int 0))) (keepM M M1))))) : Go d mL_law Q 438 ([some (.ref l0), some (.ref l1), some (.int l2), none, some (.long l4), none, some (.int l6), some (.int l7), none, none, none], [], c, s) M := by
  refine st_iload oL_law_438 rfl ?_
  refine st_aload oL_law_440 rfl ?_
  refine st_const oL_law_441 ?_
  obtain ⟨hK, rs1, h1, h2, h⟩ := h
  refine st_callV_iK [.int 8] oL_law_443 rfl rfl hK (ps8 rfl) h1 h2 (pCall_i.mono h (fun v1 M1 h => ?_))
  refine st_icmp oL_law_446 (fun g => ?_) (fun g => ?_)
  · have h := h.1 g
    exact Go.wk (L := [some (.ref l0), some (.ref l1), some (.int l2), none, some (.long l4), none, none, some (.int l7), none, none, none]) (And.intro (Or.inr rfl) (And.intro (Or.inr rfl) (And.intro (Or.inr rfl) (And.intro (Or.inr rfl) (And.intro (Or.inr rfl) (And.intro (Or.inr rfl) (And.intro (Or.inl rfl) (And.intro (Or.inr rfl) (And.intro (Or.inr rfl) (And.intro (Or.inr rfl) (And.intro (Or.inr rfl) True.intro))))))))))) h
  · have h := h.2 g
    refine st_const oL_law_479 ?_
    exact st_zret oL_law_480 (Or.inl rfl) h
theorem bL_law_449 {d : Nat} {Q : pR → pM → Prop} {c s : Nat} {M : pM} {l0 : Nat} {l1 : Nat} {l2 : Int32} {l4 : Int64} {l7 : Int32} (h : pK M l1 = (1, 11) ∧ ∃ rs1 : Nat × Nat, rs1.1 ≤ c ∧ rs1.2 ≤ s ∧ pCall_i d mX11_count rs1 [.ref l1, .int 9] M (fun v1 M1 => ((l7 = v1 → Go d mL_law Q 460 ([some (.ref l0), some (.ref l1), some (.int l2), none, some (.long l4), none, none, none, none, none, none], [], (c - rs1.1), (s - rs1.2)) (keepM M M1)) ∧ (¬ l7 = v1 → Q (.inl (some (.int 0))) (keepM M M1))))) : Go d mL_law Q 449 ([some (.ref l0), some (.ref l1), some (.int l2), none, some (.long l4), none, none, some (.int l7), none, none, none], [], c, s) M := by
  refine st_iload oL_law_449 rfl ?_
  refine st_aload oL_law_451 rfl ?_
  refine st_const oL_law_452 ?_
  obtain ⟨hK, rs1, h1, h2, h⟩ := h
  refine st_callV_iK [.int 9] oL_law_454 rfl rfl hK (ps8 rfl) h1 h2 (pCall_i.mono h (fun v1 M1 h => ?_))
  refine st_icmp oL_law_457 (fun g => ?_) (fun g => ?_)
  · have h := h.1 g
    exact Go.wk (L := [some (.ref l0), some (.ref l1), some (.int l2), none, some (.long l4), none, none, none, none, none, none]) (And.intro (Or.inr rfl) (And.intro (Or.inr rfl) (And.intro (Or.inr rfl) (And.intro (Or.inr rfl) (And.intro (Or.inr rfl) (And.intro (Or.inr rfl) (And.intro (Or.inr rfl) (And.intro (Or.inl rfl) (And.intro (Or.inr rfl) (And.intro (Or.inr rfl) (And.intro (Or.inr rfl) True.intro))))))))))) h
  · have h := h.2 g
    refine st_const oL_law_479 ?_
    exact st_zret oL_law_480 (Or.inl rfl) h
theorem bL_law_460 {d : Nat} {Q : pR → pM → Prop} {c s : Nat} {M : pM} {l0 : Nat} {l1 : Nat} {l2 : Int32} {l4 : Int64} (h : pK M l1 = (1, 11) ∧ pCall_i d mX11_best (0, 0) [.ref l1] M (fun v1 M1 => ((122 < v1 → Q (.inl (some (.int 0))) (keepM M M1)) ∧ (¬ 122 < v1 → pK (keepM M M1) l1 = (1, 11) ∧ pCall_l d mX11_digest (0, 0) [.ref l1] (keepM M M1) (fun v2 M2 => (((lg_cmp v2 l4) = 0 → Go d mL_law Q 481 ([some (.ref l0), some (.ref l1), some (.int l2), none, none, none, none, none, none, none, none], [], c, s) (keepM (keepM M M1) M2)) ∧ (¬ (lg_cmp v2 l4) = 0 → Q (.inl (some (.int 0))) (keepM (keepM M M1) M2)))))))) : Go d mL_law Q 460 ([some (.ref l0), some (.ref l1), some (.int l2), none, some (.long l4), none, none, none, none, none, none], [], c, s) M := by
  refine st_aload oL_law_460 rfl ?_
  obtain ⟨hK, h⟩ := h
  refine st_callV0_iK [] oL_law_461 rfl rfl hK (ps8 rfl) (pCall_i.mono h (fun v1 M1 h => ?_))
  refine st_const oL_law_464 ?_
  refine st_icmp oL_law_466 (fun g => ?_) (fun g => ?_)
  · have h := h.1 g
    refine st_const oL_law_479 ?_
    exact st_zret oL_law_480 (Or.inl rfl) h
  · have h := h.2 g
    refine st_aload oL_law_469 rfl ?_
    obtain ⟨hK, h⟩ := h
    refine st_callV0_lK [] oL_law_470 rfl rfl hK (ps8 rfl) (pCall_l.mono h (fun v2 M2 h => ?_))
    refine st_lload oL_law_473 rfl ?_
    refine st_lcmp oL_law_475 ?_
    refine st_if oL_law_476 (fun g => ?_) (fun g => ?_)
    · have h := h.1 g
      exact Go.wk (L := [some (.ref l0), some (.ref l1), some (.int l2), none, none, none, none, none, none, none, none]) (And.intro (Or.inr rfl) (And.intro (Or.inr rfl) (And.intro (Or.inr rfl) (And.intro (Or.inr rfl) (And.intro (Or.inl rfl) (And.intro (Or.inr rfl) (And.intro (Or.inr rfl) (And.intro (Or.inr rfl) (And.intro (Or.inr rfl) (And.intro (Or.inr rfl) (And.intro (Or.inr rfl) True.intro))))))))))) h
    · have h := h.2 g
      refine st_const oL_law_479 ?_
      exact st_zret oL_law_480 (Or.inl rfl) h
theorem bL_law_481 {d : Nat} {Q : pR → pM → Prop} {c s : Nat} {M : pM} {l0 : Nat} {l1 : Nat} {l2 : Int32} (h : Go d mL_law Q 484 ([some (.ref l0), some (.ref l1), some (.int l2), none, none, none, none, none, some (.int 1), none, none], [], c, s) M) : Go d mL_law Q 481 ([some (.ref l0), some (.ref l1), some (.int l2), none, none, none, none, none, none, none, none], [], c, s) M := by
  refine st_const oL_law_481 ?_
  refine st_istore (L2 := [some (.ref l0), some (.ref l1), some (.int l2), none, none, none, none, none, some (.int 1), none, none]) oL_law_482 (by decide) rfl rfl ?_
  exact h
theorem bL_law_484 {d : Nat} {Q : pR → pM → Prop} {c s : Nat} {M : pM} {l0 : Nat} {l1 : Nat} {l2 : Int32} {l8 : Int32} (h : ((5 ≤ l8 → Go d mL_law Q 545 ([some (.ref l0), some (.ref l1), some (.int l2), none, none, none, none, none, none, none, none], [], c, s) M) ∧ (¬ 5 ≤ l8 → pK M l1 = (1, 11) ∧ ∃ rs1 : Nat × Nat, rs1.1 ≤ c ∧ rs1.2 ≤ s ∧ pCall_i d mX11_offer rs1 [.ref l1, .int l8] M (fun v1 M1 => ((v1 < 0 → Go d mL_law Q 539 ([some (.ref l0), some (.ref l1), some (.int l2), none, none, none, none, none, some (.int l8), none, none], [], (c - rs1.1), (s - rs1.2)) (keepM M M1)) ∧ (¬ v1 < 0 → Go d mL_law Q 499 ([some (.ref l0), some (.ref l1), some (.int l2), none, none, none, none, none, some (.int l8), none, none], [], (c - rs1.1), (s - rs1.2)) (keepM M M1))))))) : Go d mL_law Q 484 ([some (.ref l0), some (.ref l1), some (.int l2), none, none, none, none, none, some (.int l8), none, none], [], c, s) M := by
  refine st_iload oL_law_484 rfl ?_
  refine st_const oL_law_486 ?_
  refine st_icmp oL_law_487 (fun g => ?_) (fun g => ?_)
  · have h := h.1 g
    exact Go.wk (L := [some (.ref l0), some (.ref l1), some (.int l2), none, none, none, none, none, none, none, none]) (And.intro (Or.inr rfl) (And.intro (Or.inr rfl) (And.intro (Or.inr rfl) (And.intro (Or.inr rfl) (And.intro (Or.inr rfl) (And.intro (Or.inr rfl) (And.intro (Or.inr rfl) (And.intro (Or.inr rfl) (And.intro (Or.inl rfl) (And.intro (Or.inr rfl) (And.intro (Or.inr rfl) True.intro))))))))))) h
  · have h := h.2 g
    refine st_aload oL_law_490 rfl ?_
    refine st_iload oL_law_491 rfl ?_
    obtain ⟨hK, rs1, h1, h2, h⟩ := h
    refine st_callV_iK [.int l8] oL_law_493 rfl rfl hK (ps8 rfl) h1 h2 (pCall_i.mono h (fun v1 M1 h => ?_))
    refine st_if oL_law_496 (fun g => ?_) (fun g => ?_)
    · have h := h.1 g
      exact h
    · have h := h.2 g
      exact h
theorem bL_law_499 {d : Nat} {Q : pR → pM → Prop} {c s : Nat} {M : pM} {l0 : Nat} {l1 : Nat} {l2 : Int32} {l8 : Int32} (h : pK M l1 = (1, 11) ∧ ∃ rs1 : Nat × Nat, rs1.1 ≤ c ∧ rs1.2 ≤ s ∧ pCall_i d mX11_offer rs1 [.ref l1, .int (l8 - 1)] M (fun v1 M1 => ((v1 < 0 → Q (.inl (some (.int 0))) (keepM M M1)) ∧ (¬ v1 < 0 → Go d mL_law Q 510 ([some (.ref l0), some (.ref l1), some (.int l2), none, none, none, none, none, some (.int l8), none, none], [], (c - rs1.1), (s - rs1.2)) (keepM M M1))))) : Go d mL_law Q 499 ([some (.ref l0), some (.ref l1), some (.int l2), none, none, none, none, none, some (.int l8), none, none], [], c, s) M := by
  refine st_aload oL_law_499 rfl ?_
  refine st_iload oL_law_500 rfl ?_
  refine st_const oL_law_502 ?_
  refine st_ibin oL_law_503 ?_
  obtain ⟨hK, rs1, h1, h2, h⟩ := h
  refine st_callV_iK [.int (l8 - 1)] oL_law_504 rfl rfl hK (ps8 rfl) h1 h2 (pCall_i.mono h (fun v1 M1 h => ?_))
  refine st_if oL_law_507 (fun g => ?_) (fun g => ?_)
  · have h := h.1 g
    refine st_const oL_law_537 ?_
    exact st_zret oL_law_538 (Or.inl rfl) h
  · have h := h.2 g
    exact h
theorem bL_law_510 {d : Nat} {Q : pR → pM → Prop} {c s : Nat} {M : pM} {l0 : Nat} {l1 : Nat} {l2 : Int32} {l8 : Int32} (h : pK M l1 = (1, 11) ∧ ∃ rs1 : Nat × Nat, rs1.1 ≤ c ∧ rs1.2 ≤ s ∧ pCall_i d mX11_offer rs1 [.ref l1, .int (l8 - 1)] M (fun v1 M1 => pK (keepM M M1) l1 = (1, 11) ∧ ∃ rs2 : Nat × Nat, rs2.1 ≤ (c - rs1.1) ∧ rs2.2 ≤ (s - rs1.2) ∧ pCall_i d mX11_word rs2 [.ref l1, .int v1, .int 4] (keepM M M1) (fun v2 M2 => pK (keepM (keepM M M1) M2) l1 = (1, 11) ∧ ∃ rs3 : Nat × Nat, rs3.1 ≤ ((c - rs1.1) - rs2.1) ∧ rs3.2 ≤ ((s - rs1.2) - rs2.2) ∧ pCall_i d mX11_offer rs3 [.ref l1, .int l8] (keepM (keepM M M1) M2) (fun v3 M3 => pK (keepM (keepM (keepM M M1) M2) M3) l1 = (1, 11) ∧ ∃ rs4 : Nat × Nat, rs4.1 ≤ (((c - rs1.1) - rs2.1) - rs3.1) ∧ rs4.2 ≤ (((s - rs1.2) - rs2.2) - rs3.2) ∧ pCall_i d mX11_word rs4 [.ref l1, .int v3, .int 4] (keepM (keepM (keepM M M1) M2) M3) (fun v4 M4 => ((v4 ≤ v2 → Go d mL_law Q 539 ([some (.ref l0), some (.ref l1), some (.int l2), none, none, none, none, none, some (.int l8), none, none], [], ((((c - rs1.1) - rs2.1) - rs3.1) - rs4.1), ((((s - rs1.2) - rs2.2) - rs3.2) - rs4.2)) (keepM (keepM (keepM (keepM M M1) M2) M3) M4)) ∧ (¬ v4 ≤ v2 → Q (.inl (some (.int 0))) (keepM (keepM (keepM (keepM M M1) M2) M3) M4)))))))) : Go d mL_law Q 510 ([some (.ref l0), some (.ref l1), some (.int l2), none, none, none, none, none, some (.int l8), none, none], [], c, s) M := by
  refine st_aload oL_law_510 rfl ?_
  refine st_aload oL_law_511 rfl ?_
  refine st_iload oL_law_512 rfl ?_
  refine st_const oL_law_514 ?_
  refine st_ibin oL_law_515 ?_
  obtain ⟨hK, rs1, h1, h2, h⟩ := h
  refine st_callV_iK [.int (l8 - 1)] oL_law_516 rfl rfl hK (ps8 rfl) h1 h2 (pCall_i.mono h (fun v1 M1 h => ?_))
  refine st_const oL_law_519 ?_
  obtain ⟨hK, rs2, h1, h2, h⟩ := h
  refine st_callV_iK [.int v1, .int 4] oL_law_520 rfl rfl hK (ps8 rfl) h1 h2 (pCall_i.mono h (fun v2 M2 h => ?_))
  refine st_aload oL_law_523 rfl ?_
  refine st_aload oL_law_524 rfl ?_
  refine st_iload oL_law_525 rfl ?_
  obtain ⟨hK, rs3, h1, h2, h⟩ := h
  refine st_callV_iK [.int l8] oL_law_527 rfl rfl hK (ps8 rfl) h1 h2 (pCall_i.mono h (fun v3 M3 h => ?_))
  refine st_const oL_law_530 ?_
  obtain ⟨hK, rs4, h1, h2, h⟩ := h
  refine st_callV_iK [.int v3, .int 4] oL_law_531 rfl rfl hK (ps8 rfl) h1 h2 (pCall_i.mono h (fun v4 M4 h => ?_))
  refine st_icmp oL_law_534 (fun g => ?_) (fun g => ?_)
  · have h := h.1 g
    exact h
  · have h := h.2 g
    refine st_const oL_law_537 ?_
    exact st_zret oL_law_538 (Or.inl rfl) h
theorem bL_law_539 {d : Nat} {Q : pR → pM → Prop} {c s : Nat} {M : pM} {l0 : Nat} {l1 : Nat} {l2 : Int32} {l8 : Int32} (h : Go d mL_law Q 484 ([some (.ref l0), some (.ref l1), some (.int l2), none, none, none, none, none, some (.int (l8 + 1)), none, none], [], c, s) M) : Go d mL_law Q 539 ([some (.ref l0), some (.ref l1), some (.int l2), none, none, none, none, none, some (.int l8), none, none], [], c, s) M := by
  refine st_iinc (L2 := [some (.ref l0), some (.ref l1), some (.int l2), none, none, none, none, none, some (.int (l8 + 1)), none, none]) oL_law_539 rfl (by decide) rfl rfl ?_
  refine st_goto oL_law_542 ?_
  exact h
theorem bL_law_545 {d : Nat} {Q : pR → pM → Prop} {c s : Nat} {M : pM} {l0 : Nat} {l1 : Nat} {l2 : Int32} (h : Go d mL_law Q 13 ([some (.ref l0), some (.ref l1), some (.int (l2 + 1)), none, none, none, none, none, none, none, none], [], c, s) M) : Go d mL_law Q 545 ([some (.ref l0), some (.ref l1), some (.int l2), none, none, none, none, none, none, none, none], [], c, s) M := by
  refine st_iinc (L2 := [some (.ref l0), some (.ref l1), some (.int (l2 + 1)), none, none, none, none, none, none, none, none]) oL_law_545 rfl (by decide) rfl rfl ?_
  refine st_goto oL_law_548 ?_
  exact h
