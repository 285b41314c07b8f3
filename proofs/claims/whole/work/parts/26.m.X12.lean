theorem bX12_init_0 {d : Nat} {Q : pR → pM → Prop} {c s : Nat} {M : pM} {l0 : Nat} (h : ¬ (400 : Int32) < 0 ∧ (Int32.toNatClampNeg (400 : Int32)) ≤ 1000000 ∧ 1 ≤ c ∧ (Int32.toNatClampNeg (400 : Int32)) ≤ s ∧ pN M < pBIG ∧ ∀ N1 : pM, N1 = (pnew M (2, (Int32.toNatClampNeg (400 : Int32)))) → (pK N1 l0 = (1, 12) ∧ ∀ N2 : pM, N2 = (psP N1 l0 4 ((pN M) + 1)) → (¬ (40 : Int32) < 0 ∧ (Int32.toNatClampNeg (40 : Int32)) ≤ 1000000 ∧ 1 ≤ (c - 1) ∧ (Int32.toNatClampNeg (40 : Int32)) ≤ (s - (Int32.toNatClampNeg (400 : Int32))) ∧ pN N2 < pBIG ∧ ∀ N3 : pM, N3 = (pnew N2 (2, (Int32.toNatClampNeg (40 : Int32)))) → (pK N3 l0 = (1, 12) ∧ ∀ N4 : pM, N4 = (psP N3 l0 5 ((pN N2) + 1)) → (¬ (40 : Int32) < 0 ∧ (Int32.toNatClampNeg (40 : Int32)) ≤ 1000000 ∧ 1 ≤ ((c - 1) - 1) ∧ (Int32.toNatClampNeg (40 : Int32)) ≤ ((s - (Int32.toNatClampNeg (400 : Int32))) - (Int32.toNatClampNeg (40 : Int32))) ∧ pN N4 < pBIG ∧ ∀ N5 : pM, N5 = (pnew N4 (2, (Int32.toNatClampNeg (40 : Int32)))) → (pK N5 l0 = (1, 12) ∧ ∀ N6 : pM, N6 = (psP N5 l0 6 ((pN N4) + 1)) → (¬ (40 : Int32) < 0 ∧ (Int32.toNatClampNeg (40 : Int32)) ≤ 1000000 ∧ 1 ≤ (((c - 1) - 1) - 1) ∧ (Int32.toNatClampNeg (40 : Int32)) ≤ (((s - (Int32.toNatClampNeg (400 : Int32))) - (Int32.toNatClampNeg (40 : Int32))) - (Int32.toNatClampNeg (40 : Int32))) ∧ pN N6 < pBIG ∧ ∀ N7 : pM, N7 = (pnew N6 (2, (Int32.toNatClampNeg (40 : Int32)))) → (pK N7 l0 = (1, 12) ∧ ∀ N8 : pM, N8 = (psP N7 l0 7 ((pN N6) + 1)) → (¬ (128 : Int32) < 0 ∧ (Int32.toNatClampNeg (128 : Int32)) ≤ 1000000 ∧ 1 ≤ ((((c - 1) - 1) - 1) - 1) ∧ (Int32.toNatClampNeg (128 : Int32)) ≤ ((((s - (Int32.toNatClampNeg (400 : Int32))) - (Int32.toNatClampNeg (40 : Int32))) - (Int32.toNatClampNeg (40 : Int32))) - (Int32.toNatClampNeg (40 : Int32))) ∧ pN N8 < pBIG ∧ ∀ N9 : pM, N9 = (pnew N8 (2, (Int32.toNatClampNeg (128 : Int32)))) → (pK N9 l0 = (1, 12) ∧ ∀ N10 : pM, N10 = (psP N9 l0 8 ((pN N8) + 1)) → (¬ (36 : Int32) < 0 ∧ (Int32.toNatClampNeg (36 : Int32)) ≤ 1000000 ∧ 1 ≤ (((((c - 1) - 1) - 1) - 1) - 1) ∧ (Int32.toNatClampNeg (36 : Int32)) ≤ (((((s - (Int32.toNatClampNeg (400 : Int32))) - (Int32.toNatClampNeg (40 : Int32))) - (Int32.toNatClampNeg (40 : Int32))) - (Int32.toNatClampNeg (40 : Int32))) - (Int32.toNatClampNeg (128 : Int32))) ∧ pN N10 < pBIG ∧ ∀ N11 : pM, N11 = (pnew N10 (2, (Int32.toNatClampNeg (36 : Int32)))) → (pK N11 l0 = (1, 12) ∧ ∀ N12 : pM, N12 = (psP N11 l0 9 ((pN N10) + 1)) → (¬ (401 : Int32) < 0 ∧ (Int32.toNatClampNeg (401 : Int32)) ≤ 1000000 ∧ 1 ≤ ((((((c - 1) - 1) - 1) - 1) - 1) - 1) ∧ (Int32.toNatClampNeg (401 : Int32)) ≤ ((((((s - (Int32.toNatClampNeg (400 : Int32))) - (Int32.toNatClampNeg (40 : Int32))) - (Int32.toNatClampNeg (40 : Int32))) - (Int32.toNatClampNeg (40 : Int32))) - (Int32.toNatClampNeg (128 : Int32))) - (Int32.toNatClampNeg (36 : Int32))) ∧ pN N12 < pBIG ∧ ∀ N13 : pM, N13 = (pnew N12 (2, (Int32.toNatClampNeg (401 : Int32)))) → (pK N13 l0 = (1, 12) ∧ ∀ N14 : pM, N14 = (psP N13 l0 11 ((pN N12) + 1)) → (¬ (401 : Int32) < 0 ∧ (Int32.toNatClampNeg (401 : Int32)) ≤ 1000000 ∧ 1 ≤ (((((((c - 1) - 1) - 1) - 1) - 1) - 1) - 1) ∧ (Int32.toNatClampNeg (401 : Int32)) ≤ (((((((s - (Int32.toNatClampNeg (400 : Int32))) - (Int32.toNatClampNeg (40 : Int32))) - (Int32.toNatClampNeg (40 : Int32))) - (Int32.toNatClampNeg (40 : Int32))) - (Int32.toNatClampNeg (128 : Int32))) - (Int32.toNatClampNeg (36 : Int32))) - (Int32.toNatClampNeg (401 : Int32))) ∧ pN N14 < pBIG ∧ ∀ N15 : pM, N15 = (pnew N14 (2, (Int32.toNatClampNeg (401 : Int32)))) → (pK N15 l0 = (1, 12) ∧ ∀ N16 : pM, N16 = (psP N15 l0 12 ((pN N14) + 1)) → (¬ (401 : Int32) < 0 ∧ (Int32.toNatClampNeg (401 : Int32)) ≤ 1000000 ∧ 1 ≤ ((((((((c - 1) - 1) - 1) - 1) - 1) - 1) - 1) - 1) ∧ (Int32.toNatClampNeg (401 : Int32)) ≤ ((((((((s - (Int32.toNatClampNeg (400 : Int32))) - (Int32.toNatClampNeg (40 : Int32))) - (Int32.toNatClampNeg (40 : Int32))) - (Int32.toNatClampNeg (40 : Int32))) - (Int32.toNatClampNeg (128 : Int32))) - (Int32.toNatClampNeg (36 : Int32))) - (Int32.toNatClampNeg (401 : Int32))) - (Int32.toNatClampNeg (401 : Int32))) ∧ pN N16 < pBIG ∧ ∀ N17 : pM, N17 = (pnew N16 (2, (Int32.toNatClampNeg (401 : Int32)))) → (pK N17 l0 = (1, 12) ∧ ∀ N18 : pM, N18 = (psP N17 l0 13 ((pN N16) + 1)) → (¬ (2000 : Int32) < 0 ∧ (Int32.toNatClampNeg (2000 : Int32)) ≤ 1000000 ∧ 1 ≤ (((((((((c - 1) - 1) - 1) - 1) - 1) - 1) - 1) - 1) - 1) ∧ (Int32.toNatClampNeg (2000 : Int32)) ≤ (((((((((s - (Int32.toNatClampNeg (400 : Int32))) - (Int32.toNatClampNeg (40 : Int32))) - (Int32.toNatClampNeg (40 : Int32))) - (Int32.toNatClampNeg (40 : Int32))) - (Int32.toNatClampNeg (128 : Int32))) - (Int32.toNatClampNeg (36 : Int32))) - (Int32.toNatClampNeg (401 : Int32))) - (Int32.toNatClampNeg (401 : Int32))) - (Int32.toNatClampNeg (401 : Int32))) ∧ pN N18 < pBIG ∧ ∀ N19 : pM, N19 = (pnew N18 (2, (Int32.toNatClampNeg (2000 : Int32)))) → (pK N19 l0 = (1, 12) ∧ ∀ N20 : pM, N20 = (psP N19 l0 15 ((pN N18) + 1)) → (Q (.inl none) N20))))))))))))))))))))) : Go d mX12_init Q 0 ([some (.ref l0)], [], c, s) M := by
  refine st_aload oX12_init_0 rfl ?_
  refine st_objinit oX12_init_1 (ps8 rfl) ?_
  refine st_aload oX12_init_4 rfl ?_
  refine st_const oX12_init_5 ?_
  obtain ⟨h0, hm, h1, h2, h3, h⟩ := h
  refine st_newa oX12_init_8 h0 hm h1 h2 h3 ?_
  refine st_nm (fun N1 eN1 => ?_)
  have h := h N1 eN1
  obtain ⟨hK, h⟩ := h
  refine st_putP oX12_init_10 hK ?_
  refine st_nm (fun N2 eN2 => ?_)
  have h := h N2 eN2
  refine st_aload oX12_init_13 rfl ?_
  refine st_const oX12_init_14 ?_
  obtain ⟨h0, hm, h1, h2, h3, h⟩ := h
  refine st_newa oX12_init_16 h0 hm h1 h2 h3 ?_
  refine st_nm (fun N3 eN3 => ?_)
  have h := h N3 eN3
  obtain ⟨hK, h⟩ := h
  refine st_putP oX12_init_18 hK ?_
  refine st_nm (fun N4 eN4 => ?_)
  have h := h N4 eN4
  refine st_aload oX12_init_21 rfl ?_
  refine st_const oX12_init_22 ?_
  obtain ⟨h0, hm, h1, h2, h3, h⟩ := h
  refine st_newa oX12_init_24 h0 hm h1 h2 h3 ?_
  refine st_nm (fun N5 eN5 => ?_)
  have h := h N5 eN5
  obtain ⟨hK, h⟩ := h
  refine st_putP oX12_init_26 hK ?_
  refine st_nm (fun N6 eN6 => ?_)
  have h := h N6 eN6
  refine st_aload oX12_init_29 rfl ?_
  refine st_const oX12_init_30 ?_
  obtain ⟨h0, hm, h1, h2, h3, h⟩ := h
  refine st_newa oX12_init_32 h0 hm h1 h2 h3 ?_
  refine st_nm (fun N7 eN7 => ?_)
  have h := h N7 eN7
  obtain ⟨hK, h⟩ := h
  refine st_putP oX12_init_34 hK ?_
  refine st_nm (fun N8 eN8 => ?_)
  have h := h N8 eN8
  refine st_aload oX12_init_37 rfl ?_
  refine st_const oX12_init_38 ?_
  obtain ⟨h0, hm, h1, h2, h3, h⟩ := h
  refine st_newa oX12_init_41 h0 hm h1 h2 h3 ?_
  refine st_nm (fun N9 eN9 => ?_)
  have h := h N9 eN9
  obtain ⟨hK, h⟩ := h
  refine st_putP oX12_init_43 hK ?_
  refine st_nm (fun N10 eN10 => ?_)
  have h := h N10 eN10
  refine st_aload oX12_init_46 rfl ?_
  refine st_const oX12_init_47 ?_
  obtain ⟨h0, hm, h1, h2, h3, h⟩ := h
  refine st_newa oX12_init_49 h0 hm h1 h2 h3 ?_
  refine st_nm (fun N11 eN11 => ?_)
  have h := h N11 eN11
  obtain ⟨hK, h⟩ := h
  refine st_putP oX12_init_51 hK ?_
  refine st_nm (fun N12 eN12 => ?_)
  have h := h N12 eN12
  refine st_aload oX12_init_54 rfl ?_
  refine st_const oX12_init_55 ?_
  obtain ⟨h0, hm, h1, h2, h3, h⟩ := h
  refine st_newa oX12_init_58 h0 hm h1 h2 h3 ?_
  refine st_nm (fun N13 eN13 => ?_)
  have h := h N13 eN13
  obtain ⟨hK, h⟩ := h
  refine st_putP oX12_init_60 hK ?_
  refine st_nm (fun N14 eN14 => ?_)
  have h := h N14 eN14
  refine st_aload oX12_init_63 rfl ?_
  refine st_const oX12_init_64 ?_
  obtain ⟨h0, hm, h1, h2, h3, h⟩ := h
  refine st_newa oX12_init_67 h0 hm h1 h2 h3 ?_
  refine st_nm (fun N15 eN15 => ?_)
  have h := h N15 eN15
  obtain ⟨hK, h⟩ := h
  refine st_putP oX12_init_69 hK ?_
  refine st_nm (fun N16 eN16 => ?_)
  have h := h N16 eN16
  refine st_aload oX12_init_72 rfl ?_
  refine st_const oX12_init_73 ?_
  obtain ⟨h0, hm, h1, h2, h3, h⟩ := h
  refine st_newa oX12_init_76 h0 hm h1 h2 h3 ?_
  refine st_nm (fun N17 eN17 => ?_)
  have h := h N17 eN17
  obtain ⟨hK, h⟩ := h
  refine st_putP oX12_init_78 hK ?_
  refine st_nm (fun N18 eN18 => ?_)
  have h := h N18 eN18
  refine st_aload oX12_init_81 rfl ?_
  refine st_const oX12_init_82 ?_
  obtain ⟨h0, hm, h1, h2, h3, h⟩ := h
  refine st_newa oX12_init_85 h0 hm h1 h2 h3 ?_
  refine st_nm (fun N19 eN19 => ?_)
  have h := h N19 eN19
  obtain ⟨hK, h⟩ := h
  refine st_putP oX12_init_87 hK ?_
  refine st_nm (fun N20 eN20 => ?_)
  have h := h N20 eN20
  exact st_vret oX12_init_90 h
theorem bX12_empty_0 {d : Nat} {Q : pR → pM → Prop} {c s : Nat} {M : pM} {l0 : Nat} (h : pK M l0 = (1, 12) ∧ pK (psI M l0 0 0) l0 = (1, 12) ∧ pK (psI (psI M l0 0 0) l0 1 0) l0 = (1, 12) ∧ pK (psI (psI (psI M l0 0 0) l0 1 0) l0 2 0) l0 = (1, 12) ∧ pK (psI (psI (psI (psI M l0 0 0) l0 1 0) l0 2 0) l0 3 0) l0 = (1, 12) ∧ pK (psI (psI (psI (psI (psI M l0 0 0) l0 1 0) l0 2 0) l0 3 0) l0 10 0) l0 = (1, 12) ∧ Go d mX12_empty Q 32 ([some (.ref l0), some (.int 0)], [], c, s) (psI (psI (psI (psI (psI (psI M l0 0 0) l0 1 0) l0 2 0) l0 3 0) l0 10 0) l0 14 0)) : Go d mX12_empty Q 0 ([some (.ref l0), none], [], c, s) M := by
  refine st_aload oX12_empty_0 rfl ?_
  refine st_const oX12_empty_1 ?_
  obtain ⟨hK, h⟩ := h
  refine st_putI oX12_empty_2 hK ?_
  refine st_aload oX12_empty_5 rfl ?_
  refine st_const oX12_empty_6 ?_
  obtain ⟨hK, h⟩ := h
  refine st_putI oX12_empty_7 hK ?_
  refine st_aload oX12_empty_10 rfl ?_
  refine st_const oX12_empty_11 ?_
  obtain ⟨hK, h⟩ := h
  refine st_putI oX12_empty_12 hK ?_
  refine st_aload oX12_empty_15 rfl ?_
  refine st_const oX12_empty_16 ?_
  obtain ⟨hK, h⟩ := h
  refine st_putI oX12_empty_17 hK ?_
  refine st_aload oX12_empty_20 rfl ?_
  refine st_const oX12_empty_21 ?_
  obtain ⟨hK, h⟩ := h
  refine st_putI oX12_empty_22 hK ?_
  refine st_aload oX12_empty_25 rfl ?_
  refine st_const oX12_empty_26 ?_
  obtain ⟨hK, h⟩ := h
  refine st_putI oX12_empty_27 hK ?_
  refine st_const oX12_empty_30 ?_
  refine st_istore (L2 := [some (.ref l0), some (.int 0)]) oX12_empty_31 (by decide) rfl rfl ?_
  exact h
theorem bX12_empty_32 {d : Nat} {Q : pR → pM → Prop} {c s : Nat} {M : pM} {l0 : Nat} {l1 : Int32} (h : pK M l0 = (1, 12) ∧ ∃ b1 : Nat, pP M l0 8 = b1 + 1 ∧ ∃ n1 : Nat, pK M b1 = (2, n1) ∧ (((Int32.ofNat n1) ≤ l1 → Q (.inl none) M) ∧ (¬ (Int32.ofNat n1) ≤ l1 → pK M l0 = (1, 12) ∧ ∃ b2 : Nat, pP M l0 8 = b2 + 1 ∧ ∃ n2 : Nat, pK M b2 = (2, n2) ∧ vp_in l1 n2 ∧ Go d mX12_empty Q 32 ([some (.ref l0), some (.int (l1 + 1))], [], c, s) (psI M b2 (Int32.toNatClampNeg l1) (-1))))) : Go d mX12_empty Q 32 ([some (.ref l0), some (.int l1)], [], c, s) M := by
  refine st_iload oX12_empty_32 rfl ?_
  refine st_aload oX12_empty_33 rfl ?_
  obtain ⟨hK, b1, hP, h⟩ := h
  refine st_getP oX12_empty_34 hK hP ?_
  obtain ⟨n1, hK, h⟩ := h
  refine st_alen oX12_empty_37 hK ?_
  refine st_icmp oX12_empty_38 (fun g => ?_) (fun g => ?_)
  · have h := h.1 g
    exact st_vret oX12_empty_54 h
  · have h := h.2 g
    refine st_aload oX12_empty_41 rfl ?_
    obtain ⟨hK, b2, hP, h⟩ := h
    refine st_getP oX12_empty_42 hK hP ?_
    refine st_iload oX12_empty_45 rfl ?_
    refine st_const oX12_empty_46 ?_
    obtain ⟨n2, hK, hi, h⟩ := h
    refine st_iast oX12_empty_47 hK hi ?_
    refine st_iinc (L2 := [some (.ref l0), some (.int (l1 + 1))]) oX12_empty_48 rfl (by decide) rfl rfl ?_
    refine st_goto oX12_empty_51 ?_
    exact h
theorem bX12_node_0 {d : Nat} {Q : pR → pM → Prop} {c s : Nat} {M : pM} {l0 : Nat} {l1 : Int32} {l2 : Int32} {l3 : Int32} (h : pK M l0 = (1, 12) ∧ ∃ b1 : Nat, pP M l0 11 = b1 + 1 ∧ pK M l0 = (1, 12) ∧ ∃ n1 : Nat, pK M b1 = (2, n1) ∧ vp_in (pI M l0 10) n1 ∧ pK (psI M b1 (Int32.toNatClampNeg (pI M l0 10)) l1) l0 = (1, 12) ∧ ∃ b2 : Nat, pP (psI M b1 (Int32.toNatClampNeg (pI M l0 10)) l1) l0 12 = b2 + 1 ∧ pK (psI M b1 (Int32.toNatClampNeg (pI M l0 10)) l1) l0 = (1, 12) ∧ ∃ n2 : Nat, pK (psI M b1 (Int32.toNatClampNeg (pI M l0 10)) l1) b2 = (2, n2) ∧ vp_in (pI (psI M b1 (Int32.toNatClampNeg (pI M l0 10)) l1) l0 10) n2 ∧ pK (psI (psI M b1 (Int32.toNatClampNeg (pI M l0 10)) l1) b2 (Int32.toNatClampNeg (pI (psI M b1 (Int32.toNatClampNeg (pI M l0 10)) l1) l0 10)) l2) l0 = (1, 12) ∧ ∃ b3 : Nat, pP (psI (psI M b1 (Int32.toNatClampNeg (pI M l0 10)) l1) b2 (Int32.toNatClampNeg (pI (psI M b1 (Int32.toNatClampNeg (pI M l0 10)) l1) l0 10)) l2) l0 13 = b3 + 1 ∧ pK (psI (psI M b1 (Int32.toNatClampNeg (pI M l0 10)) l1) b2 (Int32.toNatClampNeg (pI (psI M b1 (Int32.toNatClampNeg (pI M l0 10)) l1) l0 10)) l2) l0 = (1, 12) ∧ ∃ n3 : Nat, pK (psI (psI M b1 (Int32.toNatClampNeg (pI M l0 10)) l1) b2 (Int32.toNatClampNeg (pI (psI M b1 (Int32.toNatClampNeg (pI M l0 10)) l1) l0 10)) l2) b3 = (2, n3) ∧ vp_in (pI (psI (psI M b1 (Int32.toNatClampNeg (pI M l0 10)) l1) b2 (Int32.toNatClampNeg (pI (psI M b1 (Int32.toNatClampNeg (pI M l0 10)) l1) l0 10)) l2) l0 10) n3 ∧ pK (psI (psI (psI M b1 (Int32.toNatClampNeg (pI M l0 10)) l1) b2 (Int32.toNatClampNeg (pI (psI M b1 (Int32.toNatClampNeg (pI M l0 10)) l1) l0 10)) l2) b3 (Int32.toNatClampNeg (pI (psI (psI M b1 (Int32.toNatClampNeg (pI M l0 10)) l1) b2 (Int32.toNatClampNeg (pI (psI M b1 (Int32.toNatClampNeg (pI M l0 10)) l1) l0 10)) l2) l0 10)) l3) l0 = (1, 12) ∧ pK (psI (psI (psI M b1 (Int32.toNatClampNeg (pI M l0 10)) l1) b2 (Int32.toNatClampNeg (pI (psI M b1 (Int32.toNatClampNeg (pI M l0 10)) l1) l0 10)) l2) b3 (Int32.toNatClampNeg (pI (psI (psI M b1 (Int32.toNatClampNeg (pI M l0 10)) l1) b2 (Int32.toNatClampNeg (pI (psI M b1 (Int32.toNatClampNeg (pI M l0 10)) l1) l0 10)) l2) l0 10)) l3) l0 = (1, 12) ∧ pK (psI (psI (psI (psI M b1 (Int32.toNatClampNeg (pI M l0 10)) l1) b2 (Int32.toNatClampNeg (pI (psI M b1 (Int32.toNatClampNeg (pI M l0 10)) l1) l0 10)) l2) b3 (Int32.toNatClampNeg (pI (psI (psI M b1 (Int32.toNatClampNeg (pI M l0 10)) l1) b2 (Int32.toNatClampNeg (pI (psI M b1 (Int32.toNatClampNeg (pI M l0 10)) l1) l0 10)) l2) l0 10)) l3) l0 10 ((pI (psI (psI (psI M b1 (Int32.toNatClampNeg (pI M l0 10)) l1) b2 (Int32.toNatClampNeg (pI (psI M b1 (Int32.toNatClampNeg (pI M l0 10)) l1) l0 10)) l2) b3 (Int32.toNatClampNeg (pI (psI (psI M b1 (Int32.toNatClampNeg (pI M l0 10)) l1) b2 (Int32.toNatClampNeg (pI (psI M b1 (Int32.toNatClampNeg (pI M l0 10)) l1) l0 10)) l2) l0 10)) l3) l0 10) + 1)) l0 = (1, 12) ∧ Q (.inl (some (.int ((pI (psI (psI (psI (psI M b1 (Int32.toNatClampNeg (pI M l0 10)) l1) b2 (Int32.toNatClampNeg (pI (psI M b1 (Int32.toNatClampNeg (pI M l0 10)) l1) l0 10)) l2) b3 (Int32.toNatClampNeg (pI (psI (psI M b1 (Int32.toNatClampNeg (pI M l0 10)) l1) b2 (Int32.toNatClampNeg (pI (psI M b1 (Int32.toNatClampNeg (pI M l0 10)) l1) l0 10)) l2) l0 10)) l3) l0 10 ((pI (psI (psI (psI M b1 (Int32.toNatClampNeg (pI M l0 10)) l1) b2 (Int32.toNatClampNeg (pI (psI M b1 (Int32.toNatClampNeg (pI M l0 10)) l1) l0 10)) l2) b3 (Int32.toNatClampNeg (pI (psI (psI M b1 (Int32.toNatClampNeg (pI M l0 10)) l1) b2 (Int32.toNatClampNeg (pI (psI M b1 (Int32.toNatClampNeg (pI M l0 10)) l1) l0 10)) l2) l0 10)) l3) l0 10) + 1)) l0 10) - 1)))) (psI (psI (psI (psI M b1 (Int32.toNatClampNeg (pI M l0 10)) l1) b2 (Int32.toNatClampNeg (pI (psI M b1 (Int32.toNatClampNeg (pI M l0 10)) l1) l0 10)) l2) b3 (Int32.toNatClampNeg (pI (psI (psI M b1 (Int32.toNatClampNeg (pI M l0 10)) l1) b2 (Int32.toNatClampNeg (pI (psI M b1 (Int32.toNatClampNeg (pI M l0 10)) l1) l0 10)) l2) l0 10)) l3) l0 10 ((pI (psI (psI (psI M b1 (Int32.toNatClampNeg (pI M l0 10)) l1) b2 (Int32.toNatClampNeg (pI (psI M b1 (Int32.toNatClampNeg (pI M l0 10)) l1) l0 10)) l2) b3 (Int32.toNatClampNeg (pI (psI (psI M b1 (Int32.toNatClampNeg (pI M l0 10)) l1) b2 (Int32.toNatClampNeg (pI (psI M b1 (Int32.toNatClampNeg (pI M l0 10)) l1) l0 10)) l2) l0 10)) l3) l0 10) + 1))) : Go d mX12_node Q 0 ([some (.ref l0), some (.int l1), some (.int l2), some (.int l3)], [], c, s) M := by
  refine st_aload oX12_node_0 rfl ?_
  obtain ⟨hK, b1, hP, h⟩ := h
  refine st_getP oX12_node_1 hK hP ?_
  refine st_aload oX12_node_4 rfl ?_
  obtain ⟨hK, h⟩ := h
  refine st_getI oX12_node_5 hK ?_
  refine st_iload oX12_node_8 rfl ?_
  obtain ⟨n1, hK, hi, h⟩ := h
  refine st_iast oX12_node_9 hK hi ?_
  refine st_aload oX12_node_10 rfl ?_
  obtain ⟨hK, b2, hP, h⟩ := h
  refine st_getP oX12_node_11 hK hP ?_
  refine st_aload oX12_node_14 rfl ?_
  obtain ⟨hK, h⟩ := h
  refine st_getI oX12_node_15 hK ?_
  refine st_iload oX12_node_18 rfl ?_
  obtain ⟨n2, hK, hi, h⟩ := h
  refine st_iast oX12_node_19 hK hi ?_
  refine st_aload oX12_node_20 rfl ?_
  obtain ⟨hK, b3, hP, h⟩ := h
  refine st_getP oX12_node_21 hK hP ?_
  refine st_aload oX12_node_24 rfl ?_
  obtain ⟨hK, h⟩ := h
  refine st_getI oX12_node_25 hK ?_
  refine st_iload oX12_node_28 rfl ?_
  obtain ⟨n3, hK, hi, h⟩ := h
  refine st_iast oX12_node_29 hK hi ?_
  refine st_aload oX12_node_30 rfl ?_
  refine st_dup oX12_node_31 rfl ?_
  obtain ⟨hK, h⟩ := h
  refine st_getI oX12_node_32 hK ?_
  refine st_const oX12_node_35 ?_
  refine st_ibin oX12_node_36 ?_
  obtain ⟨hK, h⟩ := h
  refine st_putI oX12_node_37 hK ?_
  refine st_aload oX12_node_40 rfl ?_
  obtain ⟨hK, h⟩ := h
  refine st_getI oX12_node_41 hK ?_
  refine st_const oX12_node_44 ?_
  refine st_ibin oX12_node_45 ?_
  exact st_iret oX12_node_46 h
theorem bX12_byteOf_0 {d : Nat} {Q : pR → pM → Prop} {c s : Nat} {M : pM} {l0 : Nat} {l1 : Int32} {l2 : Int32} (h : pK M l0 = (1, 12) ∧ ∃ b1 : Nat, pP M l0 4 = b1 + 1 ∧ ∃ n1 : Nat, pK M b1 = (2, n1) ∧ vp_in ((10 * l1) + l2) n1 ∧ Q (.inl (some (.int (pI M b1 (Int32.toNatClampNeg ((10 * l1) + l2)))))) M) : Go d mX12_byteOf Q 0 ([some (.ref l0), some (.int l1), some (.int l2)], [], c, s) M := by
  refine st_aload oX12_byteOf_0 rfl ?_
  obtain ⟨hK, b1, hP, h⟩ := h
  refine st_getP oX12_byteOf_1 hK hP ?_
  refine st_const oX12_byteOf_4 ?_
  refine st_iload oX12_byteOf_6 rfl ?_
  refine st_ibin oX12_byteOf_7 ?_
  refine st_iload oX12_byteOf_8 rfl ?_
  refine st_ibin oX12_byteOf_9 ?_
  obtain ⟨n1, hK, hi, h⟩ := h
  refine st_iald oX12_byteOf_10 hK hi ?_
  exact st_iret oX12_byteOf_11 h
