theorem bX5_init_0 {d : Nat} {Q : pR → pM → Prop} {c s : Nat} {M : pM} {l0 : Nat} {l1 : Int32} (h : 1 ≤ c ∧ 2 ≤ s ∧ pN M < pBIG ∧ ∀ N1 : pM, N1 = (pnew M (1, 9)) → (∃ rs1 : Nat × Nat, rs1.1 ≤ (c - 1) ∧ rs1.2 ≤ (s - 2) ∧ pCall_v d mX9_init rs1 [.ref (pN M), .int 0] N1 (fun M1 => pK M1 l0 = (1, 5) ∧ ∀ N2 : pM, N2 = (psP M1 l0 1 ((pN M) + 1)) → (pK N2 l0 = (1, 5) ∧ ∀ N3 : pM, N3 = (psI N2 l0 2 0) → (¬ (if 0 < l1 then l1 else 0) < 0 ∧ (Int32.toNatClampNeg (if 0 < l1 then l1 else 0)) ≤ 1000000 ∧ 1 ≤ ((c - 1) - rs1.1) ∧ (Int32.toNatClampNeg (if 0 < l1 then l1 else 0)) ≤ ((s - 2) - rs1.2) ∧ pN N3 < pBIG ∧ ∀ N4 : pM, N4 = (pnew N3 (4, (Int32.toNatClampNeg (if 0 < l1 then l1 else 0)))) → (pK N4 l0 = (1, 5) ∧ ∀ N5 : pM, N5 = (psP N4 l0 0 ((pN N3) + 1)) → (Go d mX5_init Q 35 ([some (.ref l0), none, some (.int 0)], [], (((c - 1) - rs1.1) - 1), (((s - 2) - rs1.2) - (Int32.toNatClampNeg (if 0 < l1 then l1 else 0)))) N5))))))) : Go d mX5_init Q 0 ([some (.ref l0), some (.int l1), none], [], c, s) M := by
  refine st_aload oX5_init_0 rfl ?_
  refine st_objinit oX5_init_1 (ps8 rfl) ?_
  refine st_aload oX5_init_4 rfl ?_
  obtain ⟨h1, h2, h3, h⟩ := h
  refine st_new oX5_init_5 h1 h2 h3 ?_
  refine st_nm (fun N1 eN1 => ?_)
  have h := h N1 eN1
  refine st_dup oX5_init_8 rfl ?_
  refine st_const oX5_init_9 ?_
  obtain ⟨rs1, h1, h2, h⟩ := h
  refine st_callI_v [.int 0] oX5_init_10 rfl rfl (ps8 rfl) h1 h2 (pCall_v.mono h (fun M1 h => ?_))
  obtain ⟨hK, h⟩ := h
  refine st_putP oX5_init_13 hK ?_
  refine st_nm (fun N2 eN2 => ?_)
  have h := h N2 eN2
  refine st_aload oX5_init_16 rfl ?_
  refine st_const oX5_init_17 ?_
  obtain ⟨hK, h⟩ := h
  refine st_putI oX5_init_18 hK ?_
  refine st_nm (fun N3 eN3 => ?_)
  have h := h N3 eN3
  refine st_aload oX5_init_21 rfl ?_
  refine st_const oX5_init_22 ?_
  refine st_iload oX5_init_23 rfl ?_
  refine st_max oX5_init_24 (ps8 rfl) ?_
  obtain ⟨h0, hm, h1, h2, h3, h⟩ := h
  refine st_newa oX5_init_27 h0 hm h1 h2 h3 ?_
  refine st_nm (fun N4 eN4 => ?_)
  have h := h N4 eN4
  obtain ⟨hK, h⟩ := h
  refine st_putP oX5_init_30 hK ?_
  refine st_nm (fun N5 eN5 => ?_)
  have h := h N5 eN5
  refine st_const oX5_init_33 ?_
  refine st_istore (L2 := [some (.ref l0), some (.int l1), some (.int 0)]) oX5_init_34 (by decide) rfl rfl ?_
  exact Go.wk (L := [some (.ref l0), none, some (.int 0)]) (And.intro (Or.inr rfl) (And.intro (Or.inl rfl) (And.intro (Or.inr rfl) True.intro))) h
theorem bX5_init_35 {d : Nat} {Q : pR → pM → Prop} {c s : Nat} {M : pM} {l0 : Nat} {l2 : Int32} (h : pK M l0 = (1, 5) ∧ ∃ b1 : Nat, pP M l0 0 = b1 + 1 ∧ ∃ n1 : Nat, pK M b1 = (4, n1) ∧ (((Int32.ofNat n1) ≤ l2 → Q (.inl none) M) ∧ (¬ (Int32.ofNat n1) ≤ l2 → pK M l0 = (1, 5) ∧ ∃ b2 : Nat, pP M l0 0 = b2 + 1 ∧ 1 ≤ c ∧ 2 ≤ s ∧ pN M < pBIG ∧ ∀ N1 : pM, N1 = (pnew M (1, 9)) → (∃ rs1 : Nat × Nat, rs1.1 ≤ (c - 1) ∧ rs1.2 ≤ (s - 2) ∧ pCall_v d mX9_init rs1 [.ref (pN M), .int 10] N1 (fun M1 => ∃ n2 : Nat, pK M1 b2 = (4, n2) ∧ pK M1 (pN M) = (1, 9) ∧ vp_in l2 n2 ∧ ∀ N2 : pM, N2 = (psP M1 b2 (Int32.toNatClampNeg l2) ((pN M) + 1)) → (Go d mX5_init Q 35 ([some (.ref l0), none, some (.int (l2 + 1))], [], ((c - 1) - rs1.1), ((s - 2) - rs1.2)) N2)))))) : Go d mX5_init Q 35 ([some (.ref l0), none, some (.int l2)], [], c, s) M := by
  refine st_iload oX5_init_35 rfl ?_
  refine st_aload oX5_init_36 rfl ?_
  obtain ⟨hK, b1, hP, h⟩ := h
  refine st_getP oX5_init_37 hK hP ?_
  obtain ⟨n1, hK, h⟩ := h
  refine st_alen oX5_init_40 hK ?_
  refine st_icmp oX5_init_41 (fun g => ?_) (fun g => ?_)
  · have h := h.1 g
    exact st_vret oX5_init_65 h
  · have h := h.2 g
    refine st_aload oX5_init_44 rfl ?_
    obtain ⟨hK, b2, hP, h⟩ := h
    refine st_getP oX5_init_45 hK hP ?_
    refine st_iload oX5_init_48 rfl ?_
    obtain ⟨h1, h2, h3, h⟩ := h
    refine st_new oX5_init_49 h1 h2 h3 ?_
    refine st_nm (fun N1 eN1 => ?_)
    have h := h N1 eN1
    refine st_dup oX5_init_52 rfl ?_
    refine st_const oX5_init_53 ?_
    obtain ⟨rs1, h1, h2, h⟩ := h
    refine st_callI_v [.int 10] oX5_init_55 rfl rfl (ps8 rfl) h1 h2 (pCall_v.mono h (fun M1 h => ?_))
    obtain ⟨n2, hK, hv, hi, h⟩ := h
    refine st_aast oX5_init_58 hK hv hi ?_
    refine st_nm (fun N2 eN2 => ?_)
    have h := h N2 eN2
    refine st_iinc (L2 := [some (.ref l0), none, some (.int (l2 + 1))]) oX5_init_59 rfl (by decide) rfl rfl ?_
    refine st_goto oX5_init_62 ?_
    exact h
theorem bX5_size_0 {d : Nat} {Q : pR → pM → Prop} {c s : Nat} {M : pM} {l0 : Nat} (h : pK M l0 = (1, 5) ∧ Q (.inl (some (.int (pI M l0 2)))) M) : Go d mX5_size Q 0 ([some (.ref l0)], [], c, s) M := by
  refine st_aload oX5_size_0 rfl ?_
  obtain ⟨hK, h⟩ := h
  refine st_getI oX5_size_1 hK ?_
  exact st_iret oX5_size_4 h
theorem bX5_at_0 {d : Nat} {Q : pR → pM → Prop} {c s : Nat} {M : pM} {l0 : Nat} {l1 : Int32} (h : ((l1 < 0 → pK M l0 = (1, 5) ∧ ∃ b1 : Nat, pP M l0 1 = b1 + 1 ∧ Q (.inl (some (.ref b1))) M) ∧ (¬ l1 < 0 → pK M l0 = (1, 5) ∧ (((pI M l0 2) ≤ l1 → pK M l0 = (1, 5) ∧ ∃ b2 : Nat, pP M l0 1 = b2 + 1 ∧ Q (.inl (some (.ref b2))) M) ∧ (¬ (pI M l0 2) ≤ l1 → pK M l0 = (1, 5) ∧ ∃ b3 : Nat, pP M l0 0 = b3 + 1 ∧ ∃ n1 b4 : Nat, pK M b3 = (4, n1) ∧ vp_in l1 n1 ∧ pP M b3 (Int32.toNatClampNeg l1) = b4 + 1 ∧ Q (.inl (some (.ref b4))) M))))) : Go d mX5_at Q 0 ([some (.ref l0), some (.int l1)], [], c, s) M := by
  refine st_iload oX5_at_0 rfl ?_
  refine st_if oX5_at_1 (fun g => ?_) (fun g => ?_)
  · have h := h.1 g
    refine st_aload oX5_at_21 rfl ?_
    obtain ⟨hK, b1, hP, h⟩ := h
    refine st_getP oX5_at_22 hK hP ?_
    exact st_aret oX5_at_25 h
  · have h := h.2 g
    refine st_iload oX5_at_4 rfl ?_
    refine st_aload oX5_at_5 rfl ?_
    obtain ⟨hK, h⟩ := h
    refine st_getI oX5_at_6 hK ?_
    refine st_icmp oX5_at_9 (fun g => ?_) (fun g => ?_)
    · have h := h.1 g
      refine st_aload oX5_at_21 rfl ?_
      obtain ⟨hK, b2, hP, h⟩ := h
      refine st_getP oX5_at_22 hK hP ?_
      exact st_aret oX5_at_25 h
    · have h := h.2 g
      refine st_aload oX5_at_12 rfl ?_
      obtain ⟨hK, b3, hP, h⟩ := h
      refine st_getP oX5_at_13 hK hP ?_
      refine st_iload oX5_at_16 rfl ?_
      obtain ⟨n1, b4, hK, hi, hP, h⟩ := h
      refine st_aald oX5_at_17 hK hi hP ?_
      refine st_goto oX5_at_18 ?_
      exact st_aret oX5_at_25 h
theorem bX5_find_0 {d : Nat} {Q : pR → pM → Prop} {c s : Nat} {M : pM} {l0 : Nat} {l1 : Nat} (h : Go d mX5_find Q 2 ([some (.ref l0), some (.ref l1), some (.int 0)], [], c, s) M) : Go d mX5_find Q 0 ([some (.ref l0), some (.ref l1), none], [], c, s) M := by
  refine st_const oX5_find_0 ?_
  refine st_istore (L2 := [some (.ref l0), some (.ref l1), some (.int 0)]) oX5_find_1 (by decide) rfl rfl ?_
  exact h
theorem bX5_find_2 {d : Nat} {Q : pR → pM → Prop} {c s : Nat} {M : pM} {l0 : Nat} {l1 : Nat} {l2 : Int32} (h : pK M l0 = (1, 5) ∧ (((pI M l0 2) ≤ l2 → Q (.inl (some (.int (-1)))) M) ∧ (¬ (pI M l0 2) ≤ l2 → pK M l0 = (1, 5) ∧ ∃ b1 : Nat, pP M l0 0 = b1 + 1 ∧ ∃ n1 b2 : Nat, pK M b1 = (4, n1) ∧ vp_in l2 n1 ∧ pP M b1 (Int32.toNatClampNeg l2) = b2 + 1 ∧ pK M b2 = (1, 9) ∧ pCall_i d mX9_isSame (0, 0) [.ref b2, .ref l1] M (fun v1 M1 => ((v1 = 0 → Go d mX5_find Q 2 ([some (.ref l0), some (.ref l1), some (.int (l2 + 1))], [], c, s) M1) ∧ (¬ v1 = 0 → Q (.inl (some (.int l2))) M1)))))) : Go d mX5_find Q 2 ([some (.ref l0), some (.ref l1), some (.int l2)], [], c, s) M := by
  refine st_iload oX5_find_2 rfl ?_
  refine st_aload oX5_find_3 rfl ?_
  obtain ⟨hK, h⟩ := h
  refine st_getI oX5_find_4 hK ?_
  refine st_icmp oX5_find_7 (fun g => ?_) (fun g => ?_)
  · have h := h.1 g
    refine st_const oX5_find_31 ?_
    exact st_iret oX5_find_32 h
  · have h := h.2 g
    refine st_aload oX5_find_10 rfl ?_
    obtain ⟨hK, b1, hP, h⟩ := h
    refine st_getP oX5_find_11 hK hP ?_
    refine st_iload oX5_find_14 rfl ?_
    obtain ⟨n1, b2, hK, hi, hP, h⟩ := h
    refine st_aald oX5_find_15 hK hi hP ?_
    refine st_aload oX5_find_16 rfl ?_
    obtain ⟨hK, h⟩ := h
    refine st_callV0_i [.ref l1] oX5_find_17 rfl rfl hK (ps8 rfl) (pCall_i.mono h (fun v1 M1 h => ?_))
    refine st_if oX5_find_20 (fun g => ?_) (fun g => ?_)
    · have h := h.1 g
      refine st_iinc (L2 := [some (.ref l0), some (.ref l1), some (.int (l2 + 1))]) oX5_find_25 rfl (by decide) rfl rfl ?_
      refine st_goto oX5_find_28 ?_
      exact h
    · have h := h.2 g
      refine st_iload oX5_find_23 rfl ?_
      exact st_iret oX5_find_24 h
theorem bX5_add_0 {d : Nat} {Q : pR → pM → Prop} {c s : Nat} {M : pM} {l0 : Nat} {l1 : Nat} (h : pK M l0 = (1, 5) ∧ pK M l0 = (1, 5) ∧ ∃ b1 : Nat, pP M l0 0 = b1 + 1 ∧ ∃ n1 : Nat, pK M b1 = (4, n1) ∧ (((pI M l0 2) < (Int32.ofNat n1) → pK M l0 = (1, 5) ∧ ∃ b2 : Nat, pP M l0 0 = b2 + 1 ∧ pK M l0 = (1, 5) ∧ ∃ n2 b3 : Nat, pK M b2 = (4, n2) ∧ vp_in (pI M l0 2) n2 ∧ pP M b2 (Int32.toNatClampNeg (pI M l0 2)) = b3 + 1 ∧ pK M l1 = (1, 9) ∧ pCall_i d mX9_size (0, 0) [.ref l1] M (fun v1 M1 => pK M1 b3 = (1, 9) ∧ pCall_v d mX9_copy (0, 0) [.ref b3, .ref l1, .int 0, .int v1] M1 (fun M2 => pK M2 l0 = (1, 5) ∧ pK M2 l0 = (1, 5) ∧ pK (psI M2 l0 2 ((pI M2 l0 2) + 1)) l0 = (1, 5) ∧ Q (.inl (some (.int ((pI (psI M2 l0 2 ((pI M2 l0 2) + 1)) l0 2) - 1)))) (psI M2 l0 2 ((pI M2 l0 2) + 1))))) ∧ (¬ (pI M l0 2) < (Int32.ofNat n1) → Q (.inl (some (.int (-1)))) M))) : Go d mX5_add Q 0 ([some (.ref l0), some (.ref l1)], [], c, s) M := by
  refine st_aload oX5_add_0 rfl ?_
  obtain ⟨hK, h⟩ := h
  refine st_getI oX5_add_1 hK ?_
  refine st_aload oX5_add_4 rfl ?_
  obtain ⟨hK, b1, hP, h⟩ := h
  refine st_getP oX5_add_5 hK hP ?_
  obtain ⟨n1, hK, h⟩ := h
  refine st_alen oX5_add_8 hK ?_
  refine st_icmp oX5_add_9 (fun g => ?_) (fun g => ?_)
  · have h := h.1 g
    refine st_aload oX5_add_14 rfl ?_
    obtain ⟨hK, b2, hP, h⟩ := h
    refine st_getP oX5_add_15 hK hP ?_
    refine st_aload oX5_add_18 rfl ?_
    obtain ⟨hK, h⟩ := h
    refine st_getI oX5_add_19 hK ?_
    obtain ⟨n2, b3, hK, hi, hP, h⟩ := h
    refine st_aald oX5_add_22 hK hi hP ?_
    refine st_aload oX5_add_23 rfl ?_
    refine st_const oX5_add_24 ?_
    refine st_aload oX5_add_25 rfl ?_
    obtain ⟨hK, h⟩ := h
    refine st_callV0_i [] oX5_add_26 rfl rfl hK (ps8 rfl) (pCall_i.mono h (fun v1 M1 h => ?_))
    obtain ⟨hK, h⟩ := h
    refine st_callV0_v [.ref l1, .int 0, .int v1] oX5_add_29 rfl rfl hK (ps8 rfl) (pCall_v.mono h (fun M2 h => ?_))
    refine st_aload oX5_add_32 rfl ?_
    refine st_dup oX5_add_33 rfl ?_
    obtain ⟨hK, h⟩ := h
    refine st_getI oX5_add_34 hK ?_
    refine st_const oX5_add_37 ?_
    refine st_ibin oX5_add_38 ?_
    obtain ⟨hK, h⟩ := h
    refine st_putI oX5_add_39 hK ?_
    refine st_aload oX5_add_42 rfl ?_
    obtain ⟨hK, h⟩ := h
    refine st_getI oX5_add_43 hK ?_
    refine st_const oX5_add_46 ?_
    refine st_ibin oX5_add_47 ?_
    exact st_iret oX5_add_48 h
  · have h := h.2 g
    refine st_const oX5_add_12 ?_
    exact st_iret oX5_add_13 h
theorem bX5_clear_0 {d : Nat} {Q : pR → pM → Prop} {c s : Nat} {M : pM} {l0 : Nat} (h : pK M l0 = (1, 5) ∧ Q (.inl none) (psI M l0 2 0)) : Go d mX5_clear Q 0 ([some (.ref l0)], [], c, s) M := by
  refine st_aload oX5_clear_0 rfl ?_
  refine st_const oX5_clear_1 ?_
  obtain ⟨hK, h⟩ := h
  refine st_putI oX5_clear_2 hK ?_
  exact st_vret oX5_clear_5 h
