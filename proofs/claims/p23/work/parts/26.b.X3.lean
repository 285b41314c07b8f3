theorem bX3_init_0 {d : Nat} {Q : pR → pM → Prop} {c s : Nat} {M : pM} {l0 : Nat} (h : 1 ≤ c ∧ 2 ≤ s ∧ pN M < pBIG ∧ ∀ N1 : pM, N1 = (pnew M (1, 9)) → (∃ rs1 : Nat × Nat, rs1.1 ≤ (c - 1) ∧ rs1.2 ≤ (s - 2) ∧ pCall_v d mX9_init rs1 [.ref (pN M), .int 20] N1 (fun M1 => pK M1 l0 = (1, 3) ∧ ∀ N2 : pM, N2 = (psP M1 l0 0 ((pN M) + 1)) → (pK N2 l0 = (1, 3) ∧ ∀ N3 : pM, N3 = (psI N2 l0 1 0) → (pK N3 l0 = (1, 3) ∧ ∀ N4 : pM, N4 = (psI N3 l0 2 (-1)) → (pK N4 l0 = (1, 3) ∧ ∀ N5 : pM, N5 = (psI N4 l0 3 4) → (Q (.inl none) N5))))))) : Go d mX3_init Q 0 ([some (.ref l0)], [], c, s) M := by
  refine st_aload oX3_init_0 rfl ?_
  refine st_objinit oX3_init_1 (ps8 rfl) ?_
  refine st_aload oX3_init_4 rfl ?_
  obtain ⟨h1, h2, h3, h⟩ := h
  refine st_new oX3_init_5 h1 h2 h3 ?_
  refine st_nm (fun N1 eN1 => ?_)
  have h := h N1 eN1
  refine st_dup oX3_init_8 rfl ?_
  refine st_const oX3_init_9 ?_
  obtain ⟨rs1, h1, h2, h⟩ := h
  refine st_callI_v [.int 20] oX3_init_11 rfl rfl (ps8 rfl) h1 h2 (pCall_v.mono h (fun M1 h => ?_))
  obtain ⟨hK, h⟩ := h
  refine st_putP oX3_init_14 hK ?_
  refine st_nm (fun N2 eN2 => ?_)
  have h := h N2 eN2
  refine st_aload oX3_init_17 rfl ?_
  refine st_const oX3_init_18 ?_
  obtain ⟨hK, h⟩ := h
  refine st_putI oX3_init_19 hK ?_
  refine st_nm (fun N3 eN3 => ?_)
  have h := h N3 eN3
  refine st_aload oX3_init_22 rfl ?_
  refine st_const oX3_init_23 ?_
  obtain ⟨hK, h⟩ := h
  refine st_putI oX3_init_24 hK ?_
  refine st_nm (fun N4 eN4 => ?_)
  have h := h N4 eN4
  refine st_aload oX3_init_27 rfl ?_
  refine st_const oX3_init_28 ?_
  obtain ⟨hK, h⟩ := h
  refine st_putI oX3_init_29 hK ?_
  refine st_nm (fun N5 eN5 => ?_)
  have h := h N5 eN5
  exact st_vret oX3_init_32 h
theorem bX3_forget_0 {d : Nat} {Q : pR → pM → Prop} {c s : Nat} {M : pM} {l0 : Nat} (h : pK M l0 = (1, 3) ∧ ∃ b1 : Nat, pP M l0 0 = b1 + 1 ∧ pK M b1 = (1, 9) ∧ pCall_v d mX9_clear (0, 0) [.ref b1] M (fun M1 => pK M1 l0 = (1, 3) ∧ pK (psI M1 l0 1 0) l0 = (1, 3) ∧ Q (.inl none) (psI (psI M1 l0 1 0) l0 2 (-1)))) : Go d mX3_forget Q 0 ([some (.ref l0)], [], c, s) M := by
  refine st_aload oX3_forget_0 rfl ?_
  obtain ⟨hK, b1, hP, h⟩ := h
  refine st_getP oX3_forget_1 hK hP ?_
  obtain ⟨hK, h⟩ := h
  refine st_callV0_v [] oX3_forget_4 rfl rfl hK (ps8 rfl) (pCall_v.mono h (fun M1 h => ?_))
  refine st_aload oX3_forget_7 rfl ?_
  refine st_const oX3_forget_8 ?_
  obtain ⟨hK, h⟩ := h
  refine st_putI oX3_forget_9 hK ?_
  refine st_aload oX3_forget_12 rfl ?_
  refine st_const oX3_forget_13 ?_
  obtain ⟨hK, h⟩ := h
  refine st_putI oX3_forget_14 hK ?_
  exact st_vret oX3_forget_17 h
theorem bX3_supposeNothingTyped_0 {d : Nat} {Q : pR → pM → Prop} {c s : Nat} {M : pM} {l0 : Nat} {l1 : Nat} (h : pK M l0 = (1, 3) ∧ ∃ b1 : Nat, pP M l0 0 = b1 + 1 ∧ pK M b1 = (1, 9) ∧ pCall_v d mX9_clear (0, 0) [.ref b1] M (fun M1 => pK M1 l1 = (1, 3) ∧ pK M1 l0 = (1, 3) ∧ pK (psI M1 l0 1 (pI M1 l1 1)) l1 = (1, 3) ∧ pK (psI M1 l0 1 (pI M1 l1 1)) l0 = (1, 3) ∧ pK (psI (psI M1 l0 1 (pI M1 l1 1)) l0 2 (pI (psI M1 l0 1 (pI M1 l1 1)) l1 2)) l1 = (1, 3) ∧ pK (psI (psI M1 l0 1 (pI M1 l1 1)) l0 2 (pI (psI M1 l0 1 (pI M1 l1 1)) l1 2)) l0 = (1, 3) ∧ Q (.inl none) (psI (psI (psI M1 l0 1 (pI M1 l1 1)) l0 2 (pI (psI M1 l0 1 (pI M1 l1 1)) l1 2)) l0 3 (pI (psI (psI M1 l0 1 (pI M1 l1 1)) l0 2 (pI (psI M1 l0 1 (pI M1 l1 1)) l1 2)) l1 3)))) : Go d mX3_supposeNothingTyped Q 0 ([some (.ref l0), some (.ref l1)], [], c, s) M := by
  refine st_aload oX3_supposeNothingTyped_0 rfl ?_
  obtain ⟨hK, b1, hP, h⟩ := h
  refine st_getP oX3_supposeNothingTyped_1 hK hP ?_
  obtain ⟨hK, h⟩ := h
  refine st_callV0_v [] oX3_supposeNothingTyped_4 rfl rfl hK (ps8 rfl) (pCall_v.mono h (fun M1 h => ?_))
  refine st_aload oX3_supposeNothingTyped_7 rfl ?_
  refine st_aload oX3_supposeNothingTyped_8 rfl ?_
  obtain ⟨hK, h⟩ := h
  refine st_getI oX3_supposeNothingTyped_9 hK ?_
  obtain ⟨hK, h⟩ := h
  refine st_putI oX3_supposeNothingTyped_12 hK ?_
  refine st_aload oX3_supposeNothingTyped_15 rfl ?_
  refine st_aload oX3_supposeNothingTyped_16 rfl ?_
  obtain ⟨hK, h⟩ := h
  refine st_getI oX3_supposeNothingTyped_17 hK ?_
  obtain ⟨hK, h⟩ := h
  refine st_putI oX3_supposeNothingTyped_20 hK ?_
  refine st_aload oX3_supposeNothingTyped_23 rfl ?_
  refine st_aload oX3_supposeNothingTyped_24 rfl ?_
  obtain ⟨hK, h⟩ := h
  refine st_getI oX3_supposeNothingTyped_25 hK ?_
  obtain ⟨hK, h⟩ := h
  refine st_putI oX3_supposeNothingTyped_28 hK ?_
  exact st_vret oX3_supposeNothingTyped_31 h
