theorem bX9_init_0 {d : Nat} {Q : pR → pM → Prop} {c s : Nat} {M : pM} {l0 : Nat} {l1 : Int32} (h : pK M l0 = (1, 9) ∧ ∀ N1 : pM, N1 = (psI M l0 1 0) → (¬ (if 0 < l1 then l1 else 0) < 0 ∧ (Int32.toNatClampNeg (if 0 < l1 then l1 else 0)) ≤ 1000000 ∧ 1 ≤ c ∧ (Int32.toNatClampNeg (if 0 < l1 then l1 else 0)) ≤ s ∧ pN N1 < pBIG ∧ ∀ N2 : pM, N2 = (pnew N1 (2, (Int32.toNatClampNeg (if 0 < l1 then l1 else 0)))) → (pK N2 l0 = (1, 9) ∧ ∀ N3 : pM, N3 = (psP N2 l0 0 ((pN N1) + 1)) → (Q (.inl none) N3)))) : Go d mX9_init Q 0 ([some (.ref l0), some (.int l1)], [], c, s) M := by
  refine st_aload oX9_init_0 rfl ?_
  refine st_objinit oX9_init_1 (ps8 rfl) ?_
  refine st_aload oX9_init_4 rfl ?_
  refine st_const oX9_init_5 ?_
  obtain ⟨hK, h⟩ := h
  refine st_putI oX9_init_6 hK ?_
  refine st_nm (fun N1 eN1 => ?_)
  have h := h N1 eN1
  refine st_aload oX9_init_9 rfl ?_
  refine st_const oX9_init_10 ?_
  refine st_iload oX9_init_11 rfl ?_
  refine st_max oX9_init_12 (ps8 rfl) ?_
  obtain ⟨h0, hm, h1, h2, h3, h⟩ := h
  refine st_newa oX9_init_15 h0 hm h1 h2 h3 ?_
  refine st_nm (fun N2 eN2 => ?_)
  have h := h N2 eN2
  obtain ⟨hK, h⟩ := h
  refine st_putP oX9_init_17 hK ?_
  refine st_nm (fun N3 eN3 => ?_)
  have h := h N3 eN3
  exact st_vret oX9_init_20 h
theorem bX9_size_0 {d : Nat} {Q : pR → pM → Prop} {c s : Nat} {M : pM} {l0 : Nat} (h : pK M l0 = (1, 9) ∧ Q (.inl (some (.int (pI M l0 1)))) M) : Go d mX9_size Q 0 ([some (.ref l0)], [], c, s) M := by
  refine st_aload oX9_size_0 rfl ?_
  obtain ⟨hK, h⟩ := h
  refine st_getI oX9_size_1 hK ?_
  exact st_iret oX9_size_4 h
theorem bX9_isFull_0 {d : Nat} {Q : pR → pM → Prop} {c s : Nat} {M : pM} {l0 : Nat} (h : pK M l0 = (1, 9) ∧ pK M l0 = (1, 9) ∧ ∃ b1 : Nat, pP M l0 0 = b1 + 1 ∧ ∃ n1 : Nat, pK M b1 = (2, n1) ∧ (((pI M l0 1) < (Int32.ofNat n1) → Q (.inl (some (.int 0))) M) ∧ (¬ (pI M l0 1) < (Int32.ofNat n1) → Q (.inl (some (.int 1))) M))) : Go d mX9_isFull Q 0 ([some (.ref l0)], [], c, s) M := by
  refine st_aload oX9_isFull_0 rfl ?_
  obtain ⟨hK, h⟩ := h
  refine st_getI oX9_isFull_1 hK ?_
  refine st_aload oX9_isFull_4 rfl ?_
  obtain ⟨hK, b1, hP, h⟩ := h
  refine st_getP oX9_isFull_5 hK hP ?_
  obtain ⟨n1, hK, h⟩ := h
  refine st_alen oX9_isFull_8 hK ?_
  refine st_icmp oX9_isFull_9 (fun g => ?_) (fun g => ?_)
  · have h := h.1 g
    refine st_const oX9_isFull_16 ?_
    exact st_zret oX9_isFull_17 (Or.inl rfl) h
  · have h := h.2 g
    refine st_const oX9_isFull_12 ?_
    refine st_goto oX9_isFull_13 ?_
    exact st_zret oX9_isFull_17 (Or.inr rfl) h
theorem bX9_at_0 {d : Nat} {Q : pR → pM → Prop} {c s : Nat} {M : pM} {l0 : Nat} {l1 : Int32} (h : ((l1 < 0 → Q (.inl (some (.int (-1)))) M) ∧ (¬ l1 < 0 → pK M l0 = (1, 9) ∧ (((pI M l0 1) ≤ l1 → Q (.inl (some (.int (-1)))) M) ∧ (¬ (pI M l0 1) ≤ l1 → pK M l0 = (1, 9) ∧ ∃ b1 : Nat, pP M l0 0 = b1 + 1 ∧ ∃ n1 : Nat, pK M b1 = (2, n1) ∧ vp_in l1 n1 ∧ Q (.inl (some (.int (pI M b1 (Int32.toNatClampNeg l1))))) M))))) : Go d mX9_at Q 0 ([some (.ref l0), some (.int l1)], [], c, s) M := by
  refine st_iload oX9_at_0 rfl ?_
  refine st_if oX9_at_1 (fun g => ?_) (fun g => ?_)
  · have h := h.1 g
    refine st_const oX9_at_21 ?_
    exact st_iret oX9_at_22 h
  · have h := h.2 g
    refine st_iload oX9_at_4 rfl ?_
    refine st_aload oX9_at_5 rfl ?_
    obtain ⟨hK, h⟩ := h
    refine st_getI oX9_at_6 hK ?_
    refine st_icmp oX9_at_9 (fun g => ?_) (fun g => ?_)
    · have h := h.1 g
      refine st_const oX9_at_21 ?_
      exact st_iret oX9_at_22 h
    · have h := h.2 g
      refine st_aload oX9_at_12 rfl ?_
      obtain ⟨hK, b1, hP, h⟩ := h
      refine st_getP oX9_at_13 hK hP ?_
      refine st_iload oX9_at_16 rfl ?_
      obtain ⟨n1, hK, hi, h⟩ := h
      refine st_iald oX9_at_17 hK hi ?_
      refine st_goto oX9_at_18 ?_
      exact st_iret oX9_at_22 h
theorem bX9_put_0 {d : Nat} {Q : pR → pM → Prop} {c s : Nat} {M : pM} {l0 : Nat} {l1 : Int32} {l2 : Int32} (h : ((l1 < 0 → Q (.inl none) M) ∧ (¬ l1 < 0 → pK M l0 = (1, 9) ∧ (((pI M l0 1) ≤ l1 → Q (.inl none) M) ∧ (¬ (pI M l0 1) ≤ l1 → pK M l0 = (1, 9) ∧ ∃ b1 : Nat, pP M l0 0 = b1 + 1 ∧ ∃ n1 : Nat, pK M b1 = (2, n1) ∧ vp_in l1 n1 ∧ Q (.inl none) (psI M b1 (Int32.toNatClampNeg l1) l2)))))) : Go d mX9_put Q 0 ([some (.ref l0), some (.int l1), some (.int l2)], [], c, s) M := by
  refine st_iload oX9_put_0 rfl ?_
  refine st_if oX9_put_1 (fun g => ?_) (fun g => ?_)
  · have h := h.1 g
    exact st_vret oX9_put_19 h
  · have h := h.2 g
    refine st_iload oX9_put_4 rfl ?_
    refine st_aload oX9_put_5 rfl ?_
    obtain ⟨hK, h⟩ := h
    refine st_getI oX9_put_6 hK ?_
    refine st_icmp oX9_put_9 (fun g => ?_) (fun g => ?_)
    · have h := h.1 g
      exact st_vret oX9_put_19 h
    · have h := h.2 g
      refine st_aload oX9_put_12 rfl ?_
      obtain ⟨hK, b1, hP, h⟩ := h
      refine st_getP oX9_put_13 hK hP ?_
      refine st_iload oX9_put_16 rfl ?_
      refine st_iload oX9_put_17 rfl ?_
      obtain ⟨n1, hK, hi, h⟩ := h
      refine st_iast oX9_put_18 hK hi ?_
      exact st_vret oX9_put_19 h
theorem bX9_add_0 {d : Nat} {Q : pR → pM → Prop} {c s : Nat} {M : pM} {l0 : Nat} {l1 : Int32} (h : pK M l0 = (1, 9) ∧ pK M l0 = (1, 9) ∧ ∃ b1 : Nat, pP M l0 0 = b1 + 1 ∧ ∃ n1 : Nat, pK M b1 = (2, n1) ∧ (((Int32.ofNat n1) ≤ (pI M l0 1) → Q (.inl none) M) ∧ (¬ (Int32.ofNat n1) ≤ (pI M l0 1) → pK M l0 = (1, 9) ∧ ∃ b2 : Nat, pP M l0 0 = b2 + 1 ∧ pK M l0 = (1, 9) ∧ ∃ n2 : Nat, pK M b2 = (2, n2) ∧ vp_in (pI M l0 1) n2 ∧ pK (psI M b2 (Int32.toNatClampNeg (pI M l0 1)) l1) l0 = (1, 9) ∧ pK (psI M b2 (Int32.toNatClampNeg (pI M l0 1)) l1) l0 = (1, 9) ∧ Q (.inl none) (psI (psI M b2 (Int32.toNatClampNeg (pI M l0 1)) l1) l0 1 ((pI (psI M b2 (Int32.toNatClampNeg (pI M l0 1)) l1) l0 1) + 1))))) : Go d mX9_add Q 0 ([some (.ref l0), some (.int l1)], [], c, s) M := by
  refine st_aload oX9_add_0 rfl ?_
  obtain ⟨hK, h⟩ := h
  refine st_getI oX9_add_1 hK ?_
  refine st_aload oX9_add_4 rfl ?_
  obtain ⟨hK, b1, hP, h⟩ := h
  refine st_getP oX9_add_5 hK hP ?_
  obtain ⟨n1, hK, h⟩ := h
  refine st_alen oX9_add_8 hK ?_
  refine st_icmp oX9_add_9 (fun g => ?_) (fun g => ?_)
  · have h := h.1 g
    exact st_vret oX9_add_32 h
  · have h := h.2 g
    refine st_aload oX9_add_12 rfl ?_
    obtain ⟨hK, b2, hP, h⟩ := h
    refine st_getP oX9_add_13 hK hP ?_
    refine st_aload oX9_add_16 rfl ?_
    obtain ⟨hK, h⟩ := h
    refine st_getI oX9_add_17 hK ?_
    refine st_iload oX9_add_20 rfl ?_
    obtain ⟨n2, hK, hi, h⟩ := h
    refine st_iast oX9_add_21 hK hi ?_
    refine st_aload oX9_add_22 rfl ?_
    refine st_dup oX9_add_23 rfl ?_
    obtain ⟨hK, h⟩ := h
    refine st_getI oX9_add_24 hK ?_
    refine st_const oX9_add_27 ?_
    refine st_ibin oX9_add_28 ?_
    obtain ⟨hK, h⟩ := h
    refine st_putI oX9_add_29 hK ?_
    exact st_vret oX9_add_32 h
theorem bX9_removeLast_0 {d : Nat} {Q : pR → pM → Prop} {c s : Nat} {M : pM} {l0 : Nat} (h : pK M l0 = (1, 9) ∧ (((pI M l0 1) = 0 → Q (.inl (some (.int 0))) M) ∧ (¬ (pI M l0 1) = 0 → pK M l0 = (1, 9) ∧ pK M l0 = (1, 9) ∧ pK (psI M l0 1 ((pI M l0 1) - 1)) l0 = (1, 9) ∧ ∃ b1 : Nat, pP (psI M l0 1 ((pI M l0 1) - 1)) l0 0 = b1 + 1 ∧ pK (psI M l0 1 ((pI M l0 1) - 1)) l0 = (1, 9) ∧ ∃ n1 : Nat, pK (psI M l0 1 ((pI M l0 1) - 1)) b1 = (2, n1) ∧ vp_in (pI (psI M l0 1 ((pI M l0 1) - 1)) l0 1) n1 ∧ Q (.inl (some (.int (pI (psI M l0 1 ((pI M l0 1) - 1)) b1 (Int32.toNatClampNeg (pI (psI M l0 1 ((pI M l0 1) - 1)) l0 1)))))) (psI M l0 1 ((pI M l0 1) - 1))))) : Go d mX9_removeLast Q 0 ([some (.ref l0)], [], c, s) M := by
  refine st_aload oX9_removeLast_0 rfl ?_
  obtain ⟨hK, h⟩ := h
  refine st_getI oX9_removeLast_1 hK ?_
  refine st_if oX9_removeLast_4 (fun g => ?_) (fun g => ?_)
  · have h := h.1 g
    refine st_const oX9_removeLast_7 ?_
    exact st_iret oX9_removeLast_8 h
  · have h := h.2 g
    refine st_aload oX9_removeLast_9 rfl ?_
    refine st_dup oX9_removeLast_10 rfl ?_
    obtain ⟨hK, h⟩ := h
    refine st_getI oX9_removeLast_11 hK ?_
    refine st_const oX9_removeLast_14 ?_
    refine st_ibin oX9_removeLast_15 ?_
    obtain ⟨hK, h⟩ := h
    refine st_putI oX9_removeLast_16 hK ?_
    refine st_aload oX9_removeLast_19 rfl ?_
    obtain ⟨hK, b1, hP, h⟩ := h
    refine st_getP oX9_removeLast_20 hK hP ?_
    refine st_aload oX9_removeLast_23 rfl ?_
    obtain ⟨hK, h⟩ := h
    refine st_getI oX9_removeLast_24 hK ?_
    obtain ⟨n1, hK, hi, h⟩ := h
    refine st_iald oX9_removeLast_27 hK hi ?_
    exact st_iret oX9_removeLast_28 h
theorem bX9_shorten_0 {d : Nat} {Q : pR → pM → Prop} {c s : Nat} {M : pM} {l0 : Nat} {l1 : Int32} (h : ((l1 < 0 → Q (.inl none) M) ∧ (¬ l1 < 0 → pK M l0 = (1, 9) ∧ (((pI M l0 1) ≤ l1 → Q (.inl none) M) ∧ (¬ (pI M l0 1) ≤ l1 → pK M l0 = (1, 9) ∧ Q (.inl none) (psI M l0 1 l1)))))) : Go d mX9_shorten Q 0 ([some (.ref l0), some (.int l1)], [], c, s) M := by
  refine st_iload oX9_shorten_0 rfl ?_
  refine st_if oX9_shorten_1 (fun g => ?_) (fun g => ?_)
  · have h := h.1 g
    exact st_vret oX9_shorten_17 h
  · have h := h.2 g
    refine st_iload oX9_shorten_4 rfl ?_
    refine st_aload oX9_shorten_5 rfl ?_
    obtain ⟨hK, h⟩ := h
    refine st_getI oX9_shorten_6 hK ?_
    refine st_icmp oX9_shorten_9 (fun g => ?_) (fun g => ?_)
    · have h := h.1 g
      exact st_vret oX9_shorten_17 h
    · have h := h.2 g
      refine st_aload oX9_shorten_12 rfl ?_
      refine st_iload oX9_shorten_13 rfl ?_
      obtain ⟨hK, h⟩ := h
      refine st_putI oX9_shorten_14 hK ?_
      exact st_vret oX9_shorten_17 h
theorem bX9_clear_0 {d : Nat} {Q : pR → pM → Prop} {c s : Nat} {M : pM} {l0 : Nat} (h : pK M l0 = (1, 9) ∧ Q (.inl none) (psI M l0 1 0)) : Go d mX9_clear Q 0 ([some (.ref l0)], [], c, s) M := by
  refine st_aload oX9_clear_0 rfl ?_
  refine st_const oX9_clear_1 ?_
  obtain ⟨hK, h⟩ := h
  refine st_putI oX9_clear_2 hK ?_
  exact st_vret oX9_clear_5 h
theorem bX9_copy_0 {d : Nat} {Q : pR → pM → Prop} {c s : Nat} {M : pM} {l0 : Nat} {l1 : Nat} {l2 : Int32} {l3 : Int32} (h : pK M l0 = (1, 9) ∧ Go d mX9_copy Q 8 ([some (.ref l0), some (.ref l1), some (.int l2), some (.int l3), some (.int 0)], [], c, s) (psI M l0 1 0)) : Go d mX9_copy Q 0 ([some (.ref l0), some (.ref l1), some (.int l2), some (.int l3), none], [], c, s) M := by
  refine st_aload oX9_copy_0 rfl ?_
  refine st_const oX9_copy_1 ?_
  obtain ⟨hK, h⟩ := h
  refine st_putI oX9_copy_2 hK ?_
  refine st_const oX9_copy_5 ?_
  refine st_istore (L2 := [some (.ref l0), some (.ref l1), some (.int l2), some (.int l3), some (.int 0)]) oX9_copy_6 (by decide) rfl rfl ?_
  exact h
theorem bX9_copy_8 {d : Nat} {Q : pR → pM → Prop} {c s : Nat} {M : pM} {l0 : Nat} {l1 : Nat} {l2 : Int32} {l3 : Int32} {l4 : Int32} (h : ((l3 ≤ l4 → Q (.inl none) M) ∧ (¬ l3 ≤ l4 → pK M l0 = (1, 9) ∧ ∃ b1 : Nat, pP M l0 0 = b1 + 1 ∧ ∃ n1 : Nat, pK M b1 = (2, n1) ∧ (((Int32.ofNat n1) ≤ l4 → Q (.inl none) M) ∧ (¬ (Int32.ofNat n1) ≤ l4 → pK M l0 = (1, 9) ∧ ∃ b2 : Nat, pP M l0 0 = b2 + 1 ∧ pK M l1 = (1, 9) ∧ pCall_i d mX9_at (0, 0) [.ref l1, .int (l2 + l4)] M (fun v1 M1 => ∃ n2 : Nat, pK M1 b2 = (2, n2) ∧ vp_in l4 n2 ∧ pK (psI M1 b2 (Int32.toNatClampNeg l4) v1) l0 = (1, 9) ∧ pK (psI M1 b2 (Int32.toNatClampNeg l4) v1) l0 = (1, 9) ∧ Go d mX9_copy Q 8 ([some (.ref l0), some (.ref l1), some (.int l2), some (.int l3), some (.int (l4 + 1))], [], c, s) (psI (psI M1 b2 (Int32.toNatClampNeg l4) v1) l0 1 ((pI (psI M1 b2 (Int32.toNatClampNeg l4) v1) l0 1) + 1)))))))) : Go d mX9_copy Q 8 ([some (.ref l0), some (.ref l1), some (.int l2), some (.int l3), some (.int l4)], [], c, s) M := by
  refine st_iload oX9_copy_8 rfl ?_
  refine st_iload oX9_copy_10 rfl ?_
  refine st_icmp oX9_copy_11 (fun g => ?_) (fun g => ?_)
  · have h := h.1 g
    exact st_vret oX9_copy_55 h
  · have h := h.2 g
    refine st_iload oX9_copy_14 rfl ?_
    refine st_aload oX9_copy_16 rfl ?_
    obtain ⟨hK, b1, hP, h⟩ := h
    refine st_getP oX9_copy_17 hK hP ?_
    obtain ⟨n1, hK, h⟩ := h
    refine st_alen oX9_copy_20 hK ?_
    refine st_icmp oX9_copy_21 (fun g => ?_) (fun g => ?_)
    · have h := h.1 g
      exact st_vret oX9_copy_55 h
    · have h := h.2 g
      refine st_aload oX9_copy_24 rfl ?_
      obtain ⟨hK, b2, hP, h⟩ := h
      refine st_getP oX9_copy_25 hK hP ?_
      refine st_iload oX9_copy_28 rfl ?_
      refine st_aload oX9_copy_30 rfl ?_
      refine st_iload oX9_copy_31 rfl ?_
      refine st_iload oX9_copy_32 rfl ?_
      refine st_ibin oX9_copy_34 ?_
      obtain ⟨hK, h⟩ := h
      refine st_callV0_i [.int (l2 + l4)] oX9_copy_35 rfl rfl hK (ps8 rfl) (pCall_i.mono h (fun v1 M1 h => ?_))
      obtain ⟨n2, hK, hi, h⟩ := h
      refine st_iast oX9_copy_38 hK hi ?_
      refine st_aload oX9_copy_39 rfl ?_
      refine st_dup oX9_copy_40 rfl ?_
      obtain ⟨hK, h⟩ := h
      refine st_getI oX9_copy_41 hK ?_
      refine st_const oX9_copy_44 ?_
      refine st_ibin oX9_copy_45 ?_
      obtain ⟨hK, h⟩ := h
      refine st_putI oX9_copy_46 hK ?_
      refine st_iinc (L2 := [some (.ref l0), some (.ref l1), some (.int l2), some (.int l3), some (.int (l4 + 1))]) oX9_copy_49 rfl (by decide) rfl rfl ?_
      refine st_goto oX9_copy_52 ?_
      exact h
theorem bX9_fill_0 {d : Nat} {Q : pR → pM → Prop} {c s : Nat} {M : pM} {l0 : Nat} {l1 : Int32} (h : pK M l0 = (1, 9) ∧ Go d mX9_fill Q 7 ([some (.ref l0), some (.int l1), some (.int 0)], [], c, s) (psI M l0 1 0)) : Go d mX9_fill Q 0 ([some (.ref l0), some (.int l1), none], [], c, s) M := by
  refine st_aload oX9_fill_0 rfl ?_
  refine st_const oX9_fill_1 ?_
  obtain ⟨hK, h⟩ := h
  refine st_putI oX9_fill_2 hK ?_
  refine st_const oX9_fill_5 ?_
  refine st_istore (L2 := [some (.ref l0), some (.int l1), some (.int 0)]) oX9_fill_6 (by decide) rfl rfl ?_
  exact h
theorem bX9_fill_7 {d : Nat} {Q : pR → pM → Prop} {c s : Nat} {M : pM} {l0 : Nat} {l1 : Int32} {l2 : Int32} (h : pK M l0 = (1, 9) ∧ ∃ b1 : Nat, pP M l0 0 = b1 + 1 ∧ ∃ n1 : Nat, pK M b1 = (2, n1) ∧ (((Int32.ofNat n1) ≤ l2 → Q (.inl none) M) ∧ (¬ (Int32.ofNat n1) ≤ l2 → pK M l0 = (1, 9) ∧ pCall_v d mX9_add (0, 0) [.ref l0, .int l1] M (fun M1 => Go d mX9_fill Q 7 ([some (.ref l0), some (.int l1), some (.int (l2 + 1))], [], c, s) M1)))) : Go d mX9_fill Q 7 ([some (.ref l0), some (.int l1), some (.int l2)], [], c, s) M := by
  refine st_iload oX9_fill_7 rfl ?_
  refine st_aload oX9_fill_8 rfl ?_
  obtain ⟨hK, b1, hP, h⟩ := h
  refine st_getP oX9_fill_9 hK hP ?_
  obtain ⟨n1, hK, h⟩ := h
  refine st_alen oX9_fill_12 hK ?_
  refine st_icmp oX9_fill_13 (fun g => ?_) (fun g => ?_)
  · have h := h.1 g
    exact st_vret oX9_fill_27 h
  · have h := h.2 g
    refine st_aload oX9_fill_16 rfl ?_
    refine st_iload oX9_fill_17 rfl ?_
    obtain ⟨hK, h⟩ := h
    refine st_callV0_v [.int l1] oX9_fill_18 rfl rfl hK (ps8 rfl) (pCall_v.mono h (fun M1 h => ?_))
    refine st_iinc (L2 := [some (.ref l0), some (.int l1), some (.int (l2 + 1))]) oX9_fill_21 rfl (by decide) rfl rfl ?_
    refine st_goto oX9_fill_24 ?_
    exact h
theorem bX9_sameAhead_0 {d : Nat} {Q : pR → pM → Prop} {c s : Nat} {M : pM} {l0 : Nat} {l1 : Nat} (h : pK M l0 = (1, 9) ∧ pK M l1 = (1, 9) ∧ Go d mX9_sameAhead Q 14 ([some (.ref l0), some (.ref l1), some (.int (if (pI M l1 1) < (pI M l0 1) then (pI M l1 1) else (pI M l0 1))), some (.int 0)], [], c, s) M) : Go d mX9_sameAhead Q 0 ([some (.ref l0), some (.ref l1), none, none], [], c, s) M := by
  refine st_aload oX9_sameAhead_0 rfl ?_
  obtain ⟨hK, h⟩ := h
  refine st_getI oX9_sameAhead_1 hK ?_
  refine st_aload oX9_sameAhead_4 rfl ?_
  obtain ⟨hK, h⟩ := h
  refine st_getI oX9_sameAhead_5 hK ?_
  refine st_min oX9_sameAhead_8 (ps8 rfl) ?_
  refine st_istore (L2 := [some (.ref l0), some (.ref l1), some (.int (if (pI M l1 1) < (pI M l0 1) then (pI M l1 1) else (pI M l0 1))), none]) oX9_sameAhead_11 (by decide) rfl rfl ?_
  refine st_const oX9_sameAhead_12 ?_
  refine st_istore (L2 := [some (.ref l0), some (.ref l1), some (.int (if (pI M l1 1) < (pI M l0 1) then (pI M l1 1) else (pI M l0 1))), some (.int 0)]) oX9_sameAhead_13 (by decide) rfl rfl ?_
  exact h
theorem bX9_sameAhead_14 {d : Nat} {Q : pR → pM → Prop} {c s : Nat} {M : pM} {l0 : Nat} {l1 : Nat} {l2 : Int32} {l3 : Int32} (h : ((l2 ≤ l3 → Q (.inl (some (.int l2))) M) ∧ (¬ l2 ≤ l3 → pK M l0 = (1, 9) ∧ ∃ b1 : Nat, pP M l0 0 = b1 + 1 ∧ ∃ n2 : Nat, pK M b1 = (2, n2) ∧ vp_in l3 n2 ∧ pK M l1 = (1, 9) ∧ ∃ b2 : Nat, pP M l1 0 = b2 + 1 ∧ ∃ n1 : Nat, pK M b2 = (2, n1) ∧ vp_in l3 n1 ∧ (((pI M b1 (Int32.toNatClampNeg l3)) = (pI M b2 (Int32.toNatClampNeg l3)) → Go d mX9_sameAhead Q 14 ([some (.ref l0), some (.ref l1), some (.int l2), some (.int (l3 + 1))], [], c, s) M) ∧ (¬ (pI M b1 (Int32.toNatClampNeg l3)) = (pI M b2 (Int32.toNatClampNeg l3)) → Q (.inl (some (.int l3))) M))))) : Go d mX9_sameAhead Q 14 ([some (.ref l0), some (.ref l1), some (.int l2), some (.int l3)], [], c, s) M := by
  refine st_iload oX9_sameAhead_14 rfl ?_
  refine st_iload oX9_sameAhead_15 rfl ?_
  refine st_icmp oX9_sameAhead_16 (fun g => ?_) (fun g => ?_)
  · have h := h.1 g
    refine st_iload oX9_sameAhead_42 rfl ?_
    exact st_iret oX9_sameAhead_43 h
  · have h := h.2 g
    refine st_aload oX9_sameAhead_19 rfl ?_
    obtain ⟨hK, b1, hP, h⟩ := h
    refine st_getP oX9_sameAhead_20 hK hP ?_
    refine st_iload oX9_sameAhead_23 rfl ?_
    obtain ⟨n2, hK, hi, h⟩ := h
    refine st_iald oX9_sameAhead_24 hK hi ?_
    refine st_aload oX9_sameAhead_25 rfl ?_
    obtain ⟨hK, b2, hP, h⟩ := h
    refine st_getP oX9_sameAhead_26 hK hP ?_
    refine st_iload oX9_sameAhead_29 rfl ?_
    obtain ⟨n1, hK, hi, h⟩ := h
    refine st_iald oX9_sameAhead_30 hK hi ?_
    refine st_icmp oX9_sameAhead_31 (fun g => ?_) (fun g => ?_)
    · have h := h.1 g
      refine st_iinc (L2 := [some (.ref l0), some (.ref l1), some (.int l2), some (.int (l3 + 1))]) oX9_sameAhead_36 rfl (by decide) rfl rfl ?_
      refine st_goto oX9_sameAhead_39 ?_
      exact h
    · have h := h.2 g
      refine st_iload oX9_sameAhead_34 rfl ?_
      exact st_iret oX9_sameAhead_35 h
theorem bX9_beginsWith_0 {d : Nat} {Q : pR → pM → Prop} {c s : Nat} {M : pM} {l0 : Nat} {l1 : Nat} (h : pK M l0 = (1, 9) ∧ pCall_i d mX9_sameAhead (0, 0) [.ref l0, .ref l1] M (fun v1 M1 => pK M1 l1 = (1, 9) ∧ ((v1 = (pI M1 l1 1) → Q (.inl (some (.int 1))) M1) ∧ (¬ v1 = (pI M1 l1 1) → Q (.inl (some (.int 0))) M1)))) : Go d mX9_beginsWith Q 0 ([some (.ref l0), some (.ref l1)], [], c, s) M := by
  refine st_aload oX9_beginsWith_0 rfl ?_
  refine st_aload oX9_beginsWith_1 rfl ?_
  obtain ⟨hK, h⟩ := h
  refine st_callV0_i [.ref l1] oX9_beginsWith_2 rfl rfl hK (ps8 rfl) (pCall_i.mono h (fun v1 M1 h => ?_))
  refine st_aload oX9_beginsWith_5 rfl ?_
  obtain ⟨hK, h⟩ := h
  refine st_getI oX9_beginsWith_6 hK ?_
  refine st_icmp oX9_beginsWith_9 (fun g => ?_) (fun g => ?_)
  · have h := h.1 g
    refine st_const oX9_beginsWith_12 ?_
    refine st_goto oX9_beginsWith_13 ?_
    exact st_zret oX9_beginsWith_17 (Or.inr rfl) h
  · have h := h.2 g
    refine st_const oX9_beginsWith_16 ?_
    exact st_zret oX9_beginsWith_17 (Or.inl rfl) h
theorem bX9_isSame_0 {d : Nat} {Q : pR → pM → Prop} {c s : Nat} {M : pM} {l0 : Nat} {l1 : Nat} (h : pK M l0 = (1, 9) ∧ pK M l1 = (1, 9) ∧ (((pI M l0 1) = (pI M l1 1) → pK M l0 = (1, 9) ∧ pCall_i d mX9_sameAhead (0, 0) [.ref l0, .ref l1] M (fun v1 M1 => pK M1 l0 = (1, 9) ∧ ((v1 = (pI M1 l0 1) → Q (.inl (some (.int 1))) M1) ∧ (¬ v1 = (pI M1 l0 1) → Q (.inl (some (.int 0))) M1)))) ∧ (¬ (pI M l0 1) = (pI M l1 1) → Q (.inl (some (.int 0))) M))) : Go d mX9_isSame Q 0 ([some (.ref l0), some (.ref l1)], [], c, s) M := by
  refine st_aload oX9_isSame_0 rfl ?_
  obtain ⟨hK, h⟩ := h
  refine st_getI oX9_isSame_1 hK ?_
  refine st_aload oX9_isSame_4 rfl ?_
  obtain ⟨hK, h⟩ := h
  refine st_getI oX9_isSame_5 hK ?_
  refine st_icmp oX9_isSame_8 (fun g => ?_) (fun g => ?_)
  · have h := h.1 g
    refine st_aload oX9_isSame_11 rfl ?_
    refine st_aload oX9_isSame_12 rfl ?_
    obtain ⟨hK, h⟩ := h
    refine st_callV0_i [.ref l1] oX9_isSame_13 rfl rfl hK (ps8 rfl) (pCall_i.mono h (fun v1 M1 h => ?_))
    refine st_aload oX9_isSame_16 rfl ?_
    obtain ⟨hK, h⟩ := h
    refine st_getI oX9_isSame_17 hK ?_
    refine st_icmp oX9_isSame_20 (fun g => ?_) (fun g => ?_)
    · have h := h.1 g
      refine st_const oX9_isSame_23 ?_
      refine st_goto oX9_isSame_24 ?_
      exact st_zret oX9_isSame_28 (Or.inr rfl) h
    · have h := h.2 g
      refine st_const oX9_isSame_27 ?_
      exact st_zret oX9_isSame_28 (Or.inl rfl) h
  · have h := h.2 g
    refine st_const oX9_isSame_27 ?_
    exact st_zret oX9_isSame_28 (Or.inl rfl) h
theorem bX9_addTo_0 {d : Nat} {Q : pR → pM → Prop} {c s : Nat} {M : pM} {l0 : Nat} {l1 : Int64} (h : Go d mX9_addTo Q 5 ([some (.ref l0), none, none, some (.long l1), none, some (.int 0)], [], c, s) M) : Go d mX9_addTo Q 0 ([some (.ref l0), some (.long l1), none, none, none, none], [], c, s) M := by
  refine st_lload oX9_addTo_0 rfl ?_
  refine st_lstore (L2 := [some (.ref l0), some (.long l1), none, some (.long l1), none, none]) oX9_addTo_1 (by decide) rfl rfl ?_
  refine st_const oX9_addTo_2 ?_
  refine st_istore (L2 := [some (.ref l0), some (.long l1), none, some (.long l1), none, some (.int 0)]) oX9_addTo_3 (by decide) rfl rfl ?_
  exact Go.wk (L := [some (.ref l0), none, none, some (.long l1), none, some (.int 0)]) (And.intro (Or.inr rfl) (And.intro (Or.inl rfl) (And.intro (Or.inr rfl) (And.intro (Or.inr rfl) (And.intro (Or.inr rfl) (And.intro (Or.inr rfl) True.intro)))))) h
theorem bX9_addTo_5 {d : Nat} {Q : pR → pM → Prop} {c s : Nat} {M : pM} {l0 : Nat} {l3 : Int64} {l5 : Int32} (h : pK M l0 = (1, 9) ∧ (((pI M l0 1) ≤ l5 → Q (.inl (some (.long l3))) M) ∧ (¬ (pI M l0 1) ≤ l5 → pK M l0 = (1, 9) ∧ ∃ b1 : Nat, pP M l0 0 = b1 + 1 ∧ ∃ n1 : Nat, pK M b1 = (2, n1) ∧ vp_in l5 n1 ∧ Go d mX9_addTo Q 5 ([some (.ref l0), none, none, some (.long ((l3 * 31) + (Int32.toInt64 (pI M b1 (Int32.toNatClampNeg l5))))), none, some (.int (l5 + 1))], [], c, s) M))) : Go d mX9_addTo Q 5 ([some (.ref l0), none, none, some (.long l3), none, some (.int l5)], [], c, s) M := by
  refine st_iload oX9_addTo_5 rfl ?_
  refine st_aload oX9_addTo_7 rfl ?_
  obtain ⟨hK, h⟩ := h
  refine st_getI oX9_addTo_8 hK ?_
  refine st_icmp oX9_addTo_11 (fun g => ?_) (fun g => ?_)
  · have h := h.1 g
    refine st_lload oX9_addTo_35 rfl ?_
    exact st_lret oX9_addTo_36 h
  · have h := h.2 g
    refine st_lload oX9_addTo_14 rfl ?_
    refine st_const oX9_addTo_15 ?_
    refine st_lbin oX9_addTo_18 ?_
    refine st_aload oX9_addTo_19 rfl ?_
    obtain ⟨hK, b1, hP, h⟩ := h
    refine st_getP oX9_addTo_20 hK hP ?_
    refine st_iload oX9_addTo_23 rfl ?_
    obtain ⟨n1, hK, hi, h⟩ := h
    refine st_iald oX9_addTo_25 hK hi ?_
    refine st_i2l oX9_addTo_26 ?_
    refine st_lbin oX9_addTo_27 ?_
    refine st_lstore (L2 := [some (.ref l0), none, none, some (.long ((l3 * 31) + (Int32.toInt64 (pI M b1 (Int32.toNatClampNeg l5))))), none, some (.int l5)]) oX9_addTo_28 (by decide) rfl rfl ?_
    refine st_iinc (L2 := [some (.ref l0), none, none, some (.long ((l3 * 31) + (Int32.toInt64 (pI M b1 (Int32.toNatClampNeg l5))))), none, some (.int (l5 + 1))]) oX9_addTo_29 rfl (by decide) rfl rfl ?_
    refine st_goto oX9_addTo_32 ?_
    exact h
