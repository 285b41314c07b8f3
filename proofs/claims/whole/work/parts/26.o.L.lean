theorem bL_feed_0 {d : Nat} {Q : pR → pM → Prop} {c s : Nat} {M : pM} {l0 : Nat} {l1 : Int32} {l2 : Int32} {l3 : Int32} {l4 : Int32} {l5 : Int32} {l6 : Nat} (h : pK M l0 = (1, 11) ∧ ∃ rs1 : Nat × Nat, rs1.1 ≤ c ∧ rs1.2 ≤ s ∧ pCall_x d mX11_feed rs1 [.ref l0, .int l1, .int l2, .int l3, .int l4, .int l5] M (fun w M1 => ∃ v1, w = .int v1 ∧ ∃ n1 : Nat, pK M1 l6 = (3, n1) ∧ vp_in 0 n1 ∧ Q (.inl (some (.int 0))) (psL M1 l6 (Int32.toNatClampNeg 0) (Int32.toInt64 v1))) (fun E M1 => (E = "java/lang/IllegalStateException" ∧ Q (.inl (some (.int 1))) M1))) : Go d mL_feed Q 0 ([some (.ref l0), some (.int l1), some (.int l2), some (.int l3), some (.int l4), some (.int l5), some (.ref l6), none], [], c, s) M := by
  refine st_aload oL_feed_0 rfl ?_
  refine st_const oL_feed_2 ?_
  refine st_aload oL_feed_3 rfl ?_
  refine st_iload oL_feed_4 rfl ?_
  refine st_iload oL_feed_5 rfl ?_
  refine st_iload oL_feed_6 rfl ?_
  refine st_iload oL_feed_7 rfl ?_
  refine st_iload oL_feed_9 rfl ?_
  obtain ⟨hK, rs1, h1, h2, h⟩ := h
  refine st_callVH [.int l1, .int l2, .int l3, .int l4, .int l5] oL_feed_11 rfl rfl hK (ps8 rfl) h1 h2 (pCall_x.mono h (fun w M1 h => ?_) (fun E M1 h => ?_))
  · obtain ⟨v1, rfl, h⟩ := h
    refine st_i2l oL_feed_14 ?_
    obtain ⟨n1, hK, hi, h⟩ := h
    refine st_last oL_feed_15 hK hi ?_
    refine st_goto oL_feed_16 ?_
    refine st_const oL_feed_23 ?_
    exact st_iret oL_feed_24 h
  · obtain ⟨rfl, h⟩ := h
    refine ⟨7, 21, rfl, rfl, ?_⟩
    show Go d mL_feed Q 21 ([some (.ref l0), some (.int l1), some (.int l2), some (.int l3), some (.int l4), some (.int l5), some (.ref l6), none], [], _, _) _
    refine st_const oL_feed_21 ?_
    exact st_iret oL_feed_22 h
theorem bL_trim_0 {d : Nat} {Q : pR → pM → Prop} {c s : Nat} {M : pM} {l0 : Nat} {l1 : Int32} {l2 : Nat} (h : pK M l0 = (1, 11) ∧ ∃ rs1 : Nat × Nat, rs1.1 ≤ c ∧ rs1.2 ≤ s ∧ pCall_x d mX11_trim rs1 [.ref l0, .int l1] M (fun w M1 => ∃ v1, w = .int v1 ∧ ∃ n1 : Nat, pK M1 l2 = (3, n1) ∧ vp_in 0 n1 ∧ Q (.inl (some (.int 0))) (psL M1 l2 (Int32.toNatClampNeg 0) (Int32.toInt64 v1))) (fun E M1 => (E = "java/lang/IllegalArgumentException" ∧ Q (.inl (some (.int 1))) M1))) : Go d mL_trim Q 0 ([some (.ref l0), some (.int l1), some (.ref l2), none], [], c, s) M := by
  refine st_aload oL_trim_0 rfl ?_
  refine st_const oL_trim_1 ?_
  refine st_aload oL_trim_2 rfl ?_
  refine st_iload oL_trim_3 rfl ?_
  obtain ⟨hK, rs1, h1, h2, h⟩ := h
  refine st_callVH [.int l1] oL_trim_4 rfl rfl hK (ps8 rfl) h1 h2 (pCall_x.mono h (fun w M1 h => ?_) (fun E M1 h => ?_))
  · obtain ⟨v1, rfl, h⟩ := h
    refine st_i2l oL_trim_7 ?_
    obtain ⟨n1, hK, hi, h⟩ := h
    refine st_last oL_trim_8 hK hi ?_
    refine st_goto oL_trim_9 ?_
    refine st_const oL_trim_15 ?_
    exact st_iret oL_trim_16 h
  · obtain ⟨rfl, h⟩ := h
    refine ⟨3, 13, rfl, rfl, ?_⟩
    show Go d mL_trim Q 13 ([some (.ref l0), some (.int l1), some (.ref l2), none], [], _, _) _
    refine st_const oL_trim_13 ?_
    exact st_iret oL_trim_14 h
theorem bL_count_0 {d : Nat} {Q : pR → pM → Prop} {c s : Nat} {M : pM} {l0 : Nat} {l1 : Int32} {l2 : Nat} (h : pK M l0 = (1, 11) ∧ ∃ rs1 : Nat × Nat, rs1.1 ≤ c ∧ rs1.2 ≤ s ∧ pCall_x d mX11_count rs1 [.ref l0, .int l1] M (fun w M1 => ∃ v1, w = .int v1 ∧ ∃ n1 : Nat, pK M1 l2 = (3, n1) ∧ vp_in 0 n1 ∧ Q (.inl (some (.int 0))) (psL M1 l2 (Int32.toNatClampNeg 0) (Int32.toInt64 v1))) (fun E M1 => (E = "java/lang/IndexOutOfBoundsException" ∧ Q (.inl (some (.int 1))) M1))) : Go d mL_count Q 0 ([some (.ref l0), some (.int l1), some (.ref l2), none], [], c, s) M := by
  refine st_aload oL_count_0 rfl ?_
  refine st_const oL_count_1 ?_
  refine st_aload oL_count_2 rfl ?_
  refine st_iload oL_count_3 rfl ?_
  obtain ⟨hK, rs1, h1, h2, h⟩ := h
  refine st_callVH [.int l1] oL_count_4 rfl rfl hK (ps8 rfl) h1 h2 (pCall_x.mono h (fun w M1 h => ?_) (fun E M1 h => ?_))
  · obtain ⟨v1, rfl, h⟩ := h
    refine st_i2l oL_count_7 ?_
    obtain ⟨n1, hK, hi, h⟩ := h
    refine st_last oL_count_8 hK hi ?_
    refine st_goto oL_count_9 ?_
    refine st_const oL_count_15 ?_
    exact st_iret oL_count_16 h
  · obtain ⟨rfl, h⟩ := h
    refine ⟨3, 13, rfl, rfl, ?_⟩
    show Go d mL_count Q 13 ([some (.ref l0), some (.int l1), some (.ref l2), none], [], _, _) _
    refine st_const oL_count_13 ?_
    exact st_iret oL_count_14 h
theorem bL_type_0 {d : Nat} {Q : pR → pM → Prop} {c s : Nat} {M : pM} {l0 : Nat} {l1 : Int32} {l2 : Nat} (h : pK M l0 = (1, 11) ∧ ∃ rs1 : Nat × Nat, rs1.1 ≤ c ∧ rs1.2 ≤ s ∧ pCall_x d mX11_type rs1 [.ref l0, .int l1] M (fun w M1 => ∃ v1, w = .int v1 ∧ ∃ n1 : Nat, pK M1 l2 = (3, n1) ∧ vp_in 0 n1 ∧ Q (.inl (some (.int 0))) (psL M1 l2 (Int32.toNatClampNeg 0) (Int32.toInt64 v1))) (fun E M1 => (E = "java/lang/IllegalArgumentException" ∧ Q (.inl (some (.int 1))) M1) ∨ (E = "java/lang/IllegalStateException" ∧ Q (.inl (some (.int 2))) M1))) : Go d mL_type Q 0 ([some (.ref l0), some (.int l1), some (.ref l2), none], [], c, s) M := by
  refine st_aload oL_type_0 rfl ?_
  refine st_const oL_type_1 ?_
  refine st_aload oL_type_2 rfl ?_
  refine st_iload oL_type_3 rfl ?_
  obtain ⟨hK, rs1, h1, h2, h⟩ := h
  refine st_callVH [.int l1] oL_type_4 rfl rfl hK (ps8 rfl) h1 h2 (pCall_x.mono h (fun w M1 h => ?_) (fun E M1 h => ?_))
  · obtain ⟨v1, rfl, h⟩ := h
    refine st_i2l oL_type_7 ?_
    obtain ⟨n1, hK, hi, h⟩ := h
    refine st_last oL_type_8 hK hi ?_
    refine st_goto oL_type_9 ?_
    refine st_const oL_type_18 ?_
    exact st_iret oL_type_19 h
  · rcases h with ⟨rfl, h⟩ | ⟨rfl, h⟩
    · refine ⟨3, 13, rfl, rfl, ?_⟩
      show Go d mL_type Q 13 ([some (.ref l0), some (.int l1), some (.ref l2), none], [], _, _) _
      refine st_const oL_type_13 ?_
      exact st_iret oL_type_14 h
    · refine ⟨3, 16, rfl, rfl, ?_⟩
      show Go d mL_type Q 16 ([some (.ref l0), some (.int l1), some (.ref l2), none], [], _, _) _
      refine st_const oL_type_16 ?_
      exact st_iret oL_type_17 h
theorem bL_back_0 {d : Nat} {Q : pR → pM → Prop} {c s : Nat} {M : pM} {l0 : Nat} {l1 : Nat} (h : pK M l0 = (1, 11) ∧ ∃ rs1 : Nat × Nat, rs1.1 ≤ c ∧ rs1.2 ≤ s ∧ pCall_x d mX11_back rs1 [.ref l0] M (fun w M1 => ∃ v1, w = .int v1 ∧ ∃ n1 : Nat, pK M1 l1 = (3, n1) ∧ vp_in 0 n1 ∧ Q (.inl (some (.int 0))) (psL M1 l1 (Int32.toNatClampNeg 0) (Int32.toInt64 v1))) (fun E M1 => (E = "java/lang/IllegalStateException" ∧ Q (.inl (some (.int 1))) M1))) : Go d mL_back Q 0 ([some (.ref l0), some (.ref l1), none], [], c, s) M := by
  refine st_aload oL_back_0 rfl ?_
  refine st_const oL_back_1 ?_
  refine st_aload oL_back_2 rfl ?_
  obtain ⟨hK, rs1, h1, h2, h⟩ := h
  refine st_callVH [] oL_back_3 rfl rfl hK (ps8 rfl) h1 h2 (pCall_x.mono h (fun w M1 h => ?_) (fun E M1 h => ?_))
  · obtain ⟨v1, rfl, h⟩ := h
    refine st_i2l oL_back_6 ?_
    obtain ⟨n1, hK, hi, h⟩ := h
    refine st_last oL_back_7 hK hi ?_
    refine st_goto oL_back_8 ?_
    refine st_const oL_back_14 ?_
    exact st_iret oL_back_15 h
  · obtain ⟨rfl, h⟩ := h
    refine ⟨2, 12, rfl, rfl, ?_⟩
    show Go d mL_back Q 12 ([some (.ref l0), some (.ref l1), none], [], _, _) _
    refine st_const oL_back_12 ?_
    exact st_iret oL_back_13 h
theorem bL_take_0 {d : Nat} {Q : pR → pM → Prop} {c s : Nat} {M : pM} {l0 : Nat} {l1 : Int32} {l2 : Nat} (h : pK M l0 = (1, 11) ∧ ∃ rs1 : Nat × Nat, rs1.1 ≤ c ∧ rs1.2 ≤ s ∧ pCall_x d mX11_take rs1 [.ref l0, .int l1] M (fun w M1 => ∃ v1, w = .int v1 ∧ ∃ n1 : Nat, pK M1 l2 = (3, n1) ∧ vp_in 0 n1 ∧ Q (.inl (some (.int 0))) (psL M1 l2 (Int32.toNatClampNeg 0) (Int32.toInt64 v1))) (fun E M1 => (E = "java/lang/IndexOutOfBoundsException" ∧ Q (.inl (some (.int 1))) M1) ∨ (E = "java/lang/IllegalStateException" ∧ Q (.inl (some (.int 2))) M1))) : Go d mL_take Q 0 ([some (.ref l0), some (.int l1), some (.ref l2), none], [], c, s) M := by
  refine st_aload oL_take_0 rfl ?_
  refine st_const oL_take_1 ?_
  refine st_aload oL_take_2 rfl ?_
  refine st_iload oL_take_3 rfl ?_
  obtain ⟨hK, rs1, h1, h2, h⟩ := h
  refine st_callVH [.int l1] oL_take_4 rfl rfl hK (ps8 rfl) h1 h2 (pCall_x.mono h (fun w M1 h => ?_) (fun E M1 h => ?_))
  · obtain ⟨v1, rfl, h⟩ := h
    refine st_i2l oL_take_7 ?_
    obtain ⟨n1, hK, hi, h⟩ := h
    refine st_last oL_take_8 hK hi ?_
    refine st_goto oL_take_9 ?_
    refine st_const oL_take_18 ?_
    exact st_iret oL_take_19 h
  · rcases h with ⟨rfl, h⟩ | ⟨rfl, h⟩
    · refine ⟨3, 13, rfl, rfl, ?_⟩
      show Go d mL_take Q 13 ([some (.ref l0), some (.int l1), some (.ref l2), none], [], _, _) _
      refine st_const oL_take_13 ?_
      exact st_iret oL_take_14 h
    · refine ⟨3, 16, rfl, rfl, ?_⟩
      show Go d mL_take Q 16 ([some (.ref l0), some (.int l1), some (.ref l2), none], [], _, _) _
      refine st_const oL_take_16 ?_
      exact st_iret oL_take_17 h
theorem bL_say_0 {d : Nat} {Q : pR → pM → Prop} {c s : Nat} {M : pM} {l0 : Nat} {l1 : Nat} (h : pK M l0 = (1, 11) ∧ ∃ rs1 : Nat × Nat, rs1.1 ≤ c ∧ rs1.2 ≤ s ∧ pCall_x d mX11_say rs1 [.ref l0] M (fun w M1 => ∃ v1, w = .int v1 ∧ ∃ n1 : Nat, pK M1 l1 = (3, n1) ∧ vp_in 0 n1 ∧ Q (.inl (some (.int 0))) (psL M1 l1 (Int32.toNatClampNeg 0) (Int32.toInt64 v1))) (fun E M1 => (E = "java/lang/IllegalStateException" ∧ Q (.inl (some (.int 1))) M1))) : Go d mL_say Q 0 ([some (.ref l0), some (.ref l1), none], [], c, s) M := by
  refine st_aload oL_say_0 rfl ?_
  refine st_const oL_say_1 ?_
  refine st_aload oL_say_2 rfl ?_
  obtain ⟨hK, rs1, h1, h2, h⟩ := h
  refine st_callVH [] oL_say_3 rfl rfl hK (ps8 rfl) h1 h2 (pCall_x.mono h (fun w M1 h => ?_) (fun E M1 h => ?_))
  · obtain ⟨v1, rfl, h⟩ := h
    refine st_i2l oL_say_6 ?_
    obtain ⟨n1, hK, hi, h⟩ := h
    refine st_last oL_say_7 hK hi ?_
    refine st_goto oL_say_8 ?_
    refine st_const oL_say_14 ?_
    exact st_iret oL_say_15 h
  · obtain ⟨rfl, h⟩ := h
    refine ⟨2, 12, rfl, rfl, ?_⟩
    show Go d mL_say Q 12 ([some (.ref l0), some (.ref l1), none], [], _, _) _
    refine st_const oL_say_12 ?_
    exact st_iret oL_say_13 h
theorem bL_setLimit_0 {d : Nat} {Q : pR → pM → Prop} {c s : Nat} {M : pM} {l0 : Nat} {l1 : Int32} {l2 : Nat} (h : pK M l0 = (1, 11) ∧ ∃ rs1 : Nat × Nat, rs1.1 ≤ c ∧ rs1.2 ≤ s ∧ pCall_x d mX11_setLimit rs1 [.ref l0, .int l1] M (fun w M1 => ∃ v1, w = .int v1 ∧ ∃ n1 : Nat, pK M1 l2 = (3, n1) ∧ vp_in 0 n1 ∧ Q (.inl (some (.int 0))) (psL M1 l2 (Int32.toNatClampNeg 0) (Int32.toInt64 v1))) (fun E M1 => (E = "java/lang/IllegalArgumentException" ∧ Q (.inl (some (.int 1))) M1))) : Go d mL_setLimit Q 0 ([some (.ref l0), some (.int l1), some (.ref l2), none], [], c, s) M := by
  refine st_aload oL_setLimit_0 rfl ?_
  refine st_const oL_setLimit_1 ?_
  refine st_aload oL_setLimit_2 rfl ?_
  refine st_iload oL_setLimit_3 rfl ?_
  obtain ⟨hK, rs1, h1, h2, h⟩ := h
  refine st_callVH [.int l1] oL_setLimit_4 rfl rfl hK (ps8 rfl) h1 h2 (pCall_x.mono h (fun w M1 h => ?_) (fun E M1 h => ?_))
  · obtain ⟨v1, rfl, h⟩ := h
    refine st_i2l oL_setLimit_7 ?_
    obtain ⟨n1, hK, hi, h⟩ := h
    refine st_last oL_setLimit_8 hK hi ?_
    refine st_goto oL_setLimit_9 ?_
    refine st_const oL_setLimit_15 ?_
    exact st_iret oL_setLimit_16 h
  · obtain ⟨rfl, h⟩ := h
    refine ⟨3, 13, rfl, rfl, ?_⟩
    show Go d mL_setLimit Q 13 ([some (.ref l0), some (.int l1), some (.ref l2), none], [], _, _) _
    refine st_const oL_setLimit_13 ?_
    exact st_iret oL_setLimit_14 h
theorem bL_offer_0 {d : Nat} {Q : pR → pM → Prop} {c s : Nat} {M : pM} {l0 : Nat} {l1 : Int32} {l2 : Nat} (h : pK M l0 = (1, 11) ∧ ∃ rs1 : Nat × Nat, rs1.1 ≤ c ∧ rs1.2 ≤ s ∧ pCall_x d mX11_offer rs1 [.ref l0, .int l1] M (fun w M1 => ∃ v1, w = .int v1 ∧ ∃ n1 : Nat, pK M1 l2 = (3, n1) ∧ vp_in 0 n1 ∧ Q (.inl (some (.int 0))) (psL M1 l2 (Int32.toNatClampNeg 0) (Int32.toInt64 v1))) (fun E M1 => (E = "java/lang/IndexOutOfBoundsException" ∧ Q (.inl (some (.int 1))) M1))) : Go d mL_offer Q 0 ([some (.ref l0), some (.int l1), some (.ref l2), none], [], c, s) M := by
  refine st_aload oL_offer_0 rfl ?_
  refine st_const oL_offer_1 ?_
  refine st_aload oL_offer_2 rfl ?_
  refine st_iload oL_offer_3 rfl ?_
  obtain ⟨hK, rs1, h1, h2, h⟩ := h
  refine st_callVH [.int l1] oL_offer_4 rfl rfl hK (ps8 rfl) h1 h2 (pCall_x.mono h (fun w M1 h => ?_) (fun E M1 h => ?_))
  · obtain ⟨v1, rfl, h⟩ := h
    refine st_i2l oL_offer_7 ?_
    obtain ⟨n1, hK, hi, h⟩ := h
    refine st_last oL_offer_8 hK hi ?_
    refine st_goto oL_offer_9 ?_
    refine st_const oL_offer_15 ?_
    exact st_iret oL_offer_16 h
  · obtain ⟨rfl, h⟩ := h
    refine ⟨3, 13, rfl, rfl, ?_⟩
    show Go d mL_offer Q 13 ([some (.ref l0), some (.int l1), some (.ref l2), none], [], _, _) _
    refine st_const oL_offer_13 ?_
    exact st_iret oL_offer_14 h
theorem bL_word_0 {d : Nat} {Q : pR → pM → Prop} {c s : Nat} {M : pM} {l0 : Nat} {l1 : Int32} {l2 : Int32} {l3 : Nat} (h : pK M l0 = (1, 11) ∧ ∃ rs1 : Nat × Nat, rs1.1 ≤ c ∧ rs1.2 ≤ s ∧ pCall_x d mX11_word rs1 [.ref l0, .int l1, .int l2] M (fun w M1 => ∃ v1, w = .int v1 ∧ ∃ n1 : Nat, pK M1 l3 = (3, n1) ∧ vp_in 0 n1 ∧ Q (.inl (some (.int 0))) (psL M1 l3 (Int32.toNatClampNeg 0) (Int32.toInt64 v1))) (fun E M1 => (E = "java/lang/IndexOutOfBoundsException" ∧ Q (.inl (some (.int 1))) M1))) : Go d mL_word Q 0 ([some (.ref l0), some (.int l1), some (.int l2), some (.ref l3), none], [], c, s) M := by
  refine st_aload oL_word_0 rfl ?_
  refine st_const oL_word_1 ?_
  refine st_aload oL_word_2 rfl ?_
  refine st_iload oL_word_3 rfl ?_
  refine st_iload oL_word_4 rfl ?_
  obtain ⟨hK, rs1, h1, h2, h⟩ := h
  refine st_callVH [.int l1, .int l2] oL_word_5 rfl rfl hK (ps8 rfl) h1 h2 (pCall_x.mono h (fun w M1 h => ?_) (fun E M1 h => ?_))
  · obtain ⟨v1, rfl, h⟩ := h
    refine st_i2l oL_word_8 ?_
    obtain ⟨n1, hK, hi, h⟩ := h
    refine st_last oL_word_9 hK hi ?_
    refine st_goto oL_word_10 ?_
    refine st_const oL_word_17 ?_
    exact st_iret oL_word_18 h
  · obtain ⟨rfl, h⟩ := h
    refine ⟨4, 15, rfl, rfl, ?_⟩
    show Go d mL_word Q 15 ([some (.ref l0), some (.int l1), some (.int l2), some (.ref l3), none], [], _, _) _
    refine st_const oL_word_15 ?_
    exact st_iret oL_word_16 h
theorem bL_letter_0 {d : Nat} {Q : pR → pM → Prop} {c s : Nat} {M : pM} {l0 : Nat} {l1 : Int32} {l2 : Int32} {l3 : Nat} (h : pK M l0 = (1, 11) ∧ ∃ rs1 : Nat × Nat, rs1.1 ≤ c ∧ rs1.2 ≤ s ∧ pCall_x d mX11_letter rs1 [.ref l0, .int l1, .int l2] M (fun w M1 => ∃ v1, w = .int v1 ∧ ∃ n1 : Nat, pK M1 l3 = (3, n1) ∧ vp_in 0 n1 ∧ Q (.inl (some (.int 0))) (psL M1 l3 (Int32.toNatClampNeg 0) (Int32.toInt64 v1))) (fun E M1 => (E = "java/lang/IndexOutOfBoundsException" ∧ Q (.inl (some (.int 1))) M1))) : Go d mL_letter Q 0 ([some (.ref l0), some (.int l1), some (.int l2), some (.ref l3), none], [], c, s) M := by
  refine st_aload oL_letter_0 rfl ?_
  refine st_const oL_letter_1 ?_
  refine st_aload oL_letter_2 rfl ?_
  refine st_iload oL_letter_3 rfl ?_
  refine st_iload oL_letter_4 rfl ?_
  obtain ⟨hK, rs1, h1, h2, h⟩ := h
  refine st_callVH [.int l1, .int l2] oL_letter_5 rfl rfl hK (ps8 rfl) h1 h2 (pCall_x.mono h (fun w M1 h => ?_) (fun E M1 h => ?_))
  · obtain ⟨v1, rfl, h⟩ := h
    refine st_i2l oL_letter_8 ?_
    obtain ⟨n1, hK, hi, h⟩ := h
    refine st_last oL_letter_9 hK hi ?_
    refine st_goto oL_letter_10 ?_
    refine st_const oL_letter_17 ?_
    exact st_iret oL_letter_18 h
  · obtain ⟨rfl, h⟩ := h
    refine ⟨4, 15, rfl, rfl, ?_⟩
    show Go d mL_letter Q 15 ([some (.ref l0), some (.int l1), some (.int l2), some (.ref l3), none], [], _, _) _
    refine st_const oL_letter_15 ?_
    exact st_iret oL_letter_16 h
theorem bL_strokes_0 {d : Nat} {Q : pR → pM → Prop} {c s : Nat} {M : pM} {l0 : Nat} {l1 : Int32} {l2 : Nat} (h : pK M l0 = (1, 11) ∧ ∃ rs1 : Nat × Nat, rs1.1 ≤ c ∧ rs1.2 ≤ s ∧ pCall_x d mX11_strokes rs1 [.ref l0, .int l1] M (fun w M1 => ∃ v1, w = .int v1 ∧ ∃ n1 : Nat, pK M1 l2 = (3, n1) ∧ vp_in 0 n1 ∧ Q (.inl (some (.int 0))) (psL M1 l2 (Int32.toNatClampNeg 0) (Int32.toInt64 v1))) (fun E M1 => (E = "java/lang/IndexOutOfBoundsException" ∧ Q (.inl (some (.int 1))) M1))) : Go d mL_strokes Q 0 ([some (.ref l0), some (.int l1), some (.ref l2), none], [], c, s) M := by
  refine st_aload oL_strokes_0 rfl ?_
  refine st_const oL_strokes_1 ?_
  refine st_aload oL_strokes_2 rfl ?_
  refine st_iload oL_strokes_3 rfl ?_
  obtain ⟨hK, rs1, h1, h2, h⟩ := h
  refine st_callVH [.int l1] oL_strokes_4 rfl rfl hK (ps8 rfl) h1 h2 (pCall_x.mono h (fun w M1 h => ?_) (fun E M1 h => ?_))
  · obtain ⟨v1, rfl, h⟩ := h
    refine st_i2l oL_strokes_7 ?_
    obtain ⟨n1, hK, hi, h⟩ := h
    refine st_last oL_strokes_8 hK hi ?_
    refine st_goto oL_strokes_9 ?_
    refine st_const oL_strokes_15 ?_
    exact st_iret oL_strokes_16 h
  · obtain ⟨rfl, h⟩ := h
    refine ⟨3, 13, rfl, rfl, ?_⟩
    show Go d mL_strokes Q 13 ([some (.ref l0), some (.int l1), some (.ref l2), none], [], _, _) _
    refine st_const oL_strokes_13 ?_
    exact st_iret oL_strokes_14 h
theorem bL_needs_0 {d : Nat} {Q : pR → pM → Prop} {c s : Nat} {M : pM} {l0 : Nat} {l1 : Int32} {l2 : Nat} (h : pK M l0 = (1, 11) ∧ ∃ rs1 : Nat × Nat, rs1.1 ≤ c ∧ rs1.2 ≤ s ∧ pCall_x d mX11_needs rs1 [.ref l0, .int l1] M (fun w M1 => ∃ v1, w = .int v1 ∧ ∃ n1 : Nat, pK M1 l2 = (3, n1) ∧ vp_in 0 n1 ∧ Q (.inl (some (.int 0))) (psL M1 l2 (Int32.toNatClampNeg 0) (Int32.toInt64 v1))) (fun E M1 => (E = "java/lang/IndexOutOfBoundsException" ∧ Q (.inl (some (.int 1))) M1))) : Go d mL_needs Q 0 ([some (.ref l0), some (.int l1), some (.ref l2), none], [], c, s) M := by
  refine st_aload oL_needs_0 rfl ?_
  refine st_const oL_needs_1 ?_
  refine st_aload oL_needs_2 rfl ?_
  refine st_iload oL_needs_3 rfl ?_
  obtain ⟨hK, rs1, h1, h2, h⟩ := h
  refine st_callVH [.int l1] oL_needs_4 rfl rfl hK (ps8 rfl) h1 h2 (pCall_x.mono h (fun w M1 h => ?_) (fun E M1 h => ?_))
  · obtain ⟨v1, rfl, h⟩ := h
    refine st_i2l oL_needs_7 ?_
    obtain ⟨n1, hK, hi, h⟩ := h
    refine st_last oL_needs_8 hK hi ?_
    refine st_goto oL_needs_9 ?_
    refine st_const oL_needs_15 ?_
    exact st_iret oL_needs_16 h
  · obtain ⟨rfl, h⟩ := h
    refine ⟨3, 13, rfl, rfl, ?_⟩
    show Go d mL_needs Q 13 ([some (.ref l0), some (.int l1), some (.ref l2), none], [], _, _) _
    refine st_const oL_needs_13 ?_
    exact st_iret oL_needs_14 h
theorem bL_closest_0 {d : Nat} {Q : pR → pM → Prop} {c s : Nat} {M : pM} {l0 : Nat} {l1 : Int32} {l2 : Nat} (h : pK M l0 = (1, 11) ∧ ∃ rs1 : Nat × Nat, rs1.1 ≤ c ∧ rs1.2 ≤ s ∧ pCall_x d mX11_closest rs1 [.ref l0, .int l1] M (fun w M1 => ∃ v1, w = .int v1 ∧ ∃ n1 : Nat, pK M1 l2 = (3, n1) ∧ vp_in 0 n1 ∧ Q (.inl (some (.int 0))) (psL M1 l2 (Int32.toNatClampNeg 0) (Int32.toInt64 v1))) (fun E M1 => (E = "java/lang/IndexOutOfBoundsException" ∧ Q (.inl (some (.int 1))) M1))) : Go d mL_closest Q 0 ([some (.ref l0), some (.int l1), some (.ref l2), none], [], c, s) M := by
  refine st_aload oL_closest_0 rfl ?_
  refine st_const oL_closest_1 ?_
  refine st_aload oL_closest_2 rfl ?_
  refine st_iload oL_closest_3 rfl ?_
  obtain ⟨hK, rs1, h1, h2, h⟩ := h
  refine st_callVH [.int l1] oL_closest_4 rfl rfl hK (ps8 rfl) h1 h2 (pCall_x.mono h (fun w M1 h => ?_) (fun E M1 h => ?_))
  · obtain ⟨v1, rfl, h⟩ := h
    refine st_i2l oL_closest_7 ?_
    obtain ⟨n1, hK, hi, h⟩ := h
    refine st_last oL_closest_8 hK hi ?_
    refine st_goto oL_closest_9 ?_
    refine st_const oL_closest_15 ?_
    exact st_iret oL_closest_16 h
  · obtain ⟨rfl, h⟩ := h
    refine ⟨3, 13, rfl, rfl, ?_⟩
    show Go d mL_closest Q 13 ([some (.ref l0), some (.int l1), some (.ref l2), none], [], _, _) _
    refine st_const oL_closest_13 ?_
    exact st_iret oL_closest_14 h
theorem bL_law_0 {d : Nat} {Q : pR → pM → Prop} {c s : Nat} {M : pM} {l0 : Nat} (h : 1 ≤ c ∧ 10 ≤ s ∧ pN M < pBIG ∧ ∃ rs1 : Nat × Nat, rs1.1 ≤ (c - 1) ∧ rs1.2 ≤ (s - 10) ∧ pCall_v d mX11_init rs1 [.ref (pN M)] (pnew M (1, 11)) (fun M1 => 1 ≤ ((c - 1) - rs1.1) ∧ 28 ≤ ((s - 10) - rs1.2) ∧ pN M1 < pBIG ∧ ∃ rs2 : Nat × Nat, rs2.1 ≤ (((c - 1) - rs1.1) - 1) ∧ rs2.2 ≤ (((s - 10) - rs1.2) - 28) ∧ pCall_v d mX13_init rs2 [.ref (pN M1)] (pnew M1 (1, 13)) (fun M2 => ¬ (1 : Int32) < 0 ∧ (Int32.toNatClampNeg (1 : Int32)) ≤ 1000000 ∧ 1 ≤ ((((c - 1) - rs1.1) - 1) - rs2.1) ∧ (Int32.toNatClampNeg (1 : Int32)) ≤ ((((s - 10) - rs1.2) - 28) - rs2.2) ∧ pN M2 < pBIG ∧ Go d mL_law Q 23 ([some (.ref l0), some (.ref (pN M)), some (.ref (pN M1)), some (.ref (pN M2)), some (.int 0), none, none, none, none], [], (((((c - 1) - rs1.1) - 1) - rs2.1) - 1), (((((s - 10) - rs1.2) - 28) - rs2.2) - (Int32.toNatClampNeg (1 : Int32)))) (pnew M2 (3, (Int32.toNatClampNeg (1 : Int32))))))) : Go d mL_law Q 0 ([some (.ref l0), none, none, none, none, none, none, none, none], [], c, s) M := by
  obtain ⟨h1, h2, h3, h⟩ := h
  refine st_new oL_law_0 h1 h2 h3 ?_
  refine st_dup oL_law_3 rfl ?_
  obtain ⟨rs1, h1, h2, h⟩ := h
  refine st_callI_v [] oL_law_4 rfl rfl (ps8 rfl) h1 h2 (pCall_v.mono h (fun M1 h => ?_))
  refine st_astore (L2 := [some (.ref l0), some (.ref (pN M)), none, none, none, none, none, none, none]) oL_law_7 (by decide) rfl rfl ?_
  obtain ⟨h1, h2, h3, h⟩ := h
  refine st_new oL_law_8 h1 h2 h3 ?_
  refine st_dup oL_law_11 rfl ?_
  obtain ⟨rs2, h1, h2, h⟩ := h
  refine st_callI_v [] oL_law_12 rfl rfl (ps8 rfl) h1 h2 (pCall_v.mono h (fun M2 h => ?_))
  refine st_astore (L2 := [some (.ref l0), some (.ref (pN M)), some (.ref (pN M1)), none, none, none, none, none, none]) oL_law_15 (by decide) rfl rfl ?_
  refine st_const oL_law_16 ?_
  obtain ⟨h0, hm, h1, h2, h3, h⟩ := h
  refine st_newa oL_law_17 h0 hm h1 h2 h3 ?_
  refine st_astore (L2 := [some (.ref l0), some (.ref (pN M)), some (.ref (pN M1)), some (.ref (pN M2)), none, none, none, none, none]) oL_law_19 (by decide) rfl rfl ?_
  refine st_const oL_law_20 ?_
  refine st_istore (L2 := [some (.ref l0), some (.ref (pN M)), some (.ref (pN M1)), some (.ref (pN M2)), some (.int 0), none, none, none, none]) oL_law_21 (by decide) rfl rfl ?_
  exact h
theorem bL_law_23 {d : Nat} {Q : pR → pM → Prop} {c s : Nat} {M : pM} {l0 : Nat} {l1 : Nat} {l2 : Nat} {l3 : Nat} {l4 : Int32} (h : ∃ n1 : Nat, pK M l0 = (5, n1) ∧ ((((Int32.ofNat n1) - 6) < l4 → Q (.inl (some (.int 1))) M) ∧ (¬ ((Int32.ofNat n1) - 6) < l4 → ∃ n56 : Nat, pK M l0 = (5, n56) ∧ vp_in l4 n56 ∧ ((((pI M l0 (Int32.toNatClampNeg l4)) &&& 31) = 0 → ∃ n12 : Nat, pK M l0 = (5, n12) ∧ vp_in (l4 + 1) n12 ∧ ∃ n11 : Nat, pK M l0 = (5, n11) ∧ vp_in (l4 + 2) n11 ∧ ∃ n10 : Nat, pK M l0 = (5, n10) ∧ vp_in (l4 + 3) n10 ∧ ∃ n9 : Nat, pK M l0 = (5, n9) ∧ vp_in (l4 + 4) n9 ∧ ∃ n8 : Nat, pK M l0 = (5, n8) ∧ vp_in (l4 + 5) n8 ∧ ∃ rs1 : Nat × Nat, rs1.1 ≤ c ∧ rs1.2 ≤ s ∧ pCall_i d mL_feed rs1 [.ref l1, .int (pI M l0 (Int32.toNatClampNeg (l4 + 1))), .int (pI M l0 (Int32.toNatClampNeg (l4 + 2))), .int (pI M l0 (Int32.toNatClampNeg (l4 + 3))), .int (pI M l0 (Int32.toNatClampNeg (l4 + 4))), .int (pI M l0 (Int32.toNatClampNeg (l4 + 5))), .ref l3] M (fun v1 M1 => ∃ n7 : Nat, pK M1 l0 = (5, n7) ∧ vp_in (l4 + 1) n7 ∧ ∃ n6 : Nat, pK M1 l0 = (5, n6) ∧ vp_in (l4 + 2) n6 ∧ ∃ n5 : Nat, pK M1 l0 = (5, n5) ∧ vp_in (l4 + 3) n5 ∧ ∃ n4 : Nat, pK M1 l0 = (5, n4) ∧ vp_in (l4 + 4) n4 ∧ ∃ n3 : Nat, pK M1 l0 = (5, n3) ∧ vp_in (l4 + 5) n3 ∧ pK M1 l2 = (1, 13) ∧ pCall_i d mX13_feed (0, 0) [.ref l2, .int (pI M1 l0 (Int32.toNatClampNeg (l4 + 1))), .int (pI M1 l0 (Int32.toNatClampNeg (l4 + 2))), .int (pI M1 l0 (Int32.toNatClampNeg (l4 + 3))), .int (pI M1 l0 (Int32.toNatClampNeg (l4 + 4))), .int (pI M1 l0 (Int32.toNatClampNeg (l4 + 5)))] M1 (fun v2 M2 => pK M2 l2 = (1, 13) ∧ pCall_i d mX13_thrown (0, 0) [.ref l2] M2 (fun v3 M3 => ((v3 = v1 → ((v1 = 0 → ∃ n2 : Nat, pK M3 l3 = (3, n2) ∧ vp_in 0 n2 ∧ (((lg_cmp (pL M3 l3 (Int32.toNatClampNeg 0)) (Int32.toInt64 v2)) = 0 → Go d mL_law Q 237 ([some (.ref l0), some (.ref l1), some (.ref l2), some (.ref l3), some (.int l4), none, none, none, none], [], (c - rs1.1), (s - rs1.2)) M3) ∧ (¬ (lg_cmp (pL M3 l3 (Int32.toNatClampNeg 0)) (Int32.toInt64 v2)) = 0 → Q (.inl (some (.int 0))) M3))) ∧ (¬ v1 = 0 → Go d mL_law Q 237 ([some (.ref l0), some (.ref l1), some (.ref l2), some (.ref l3), some (.int l4), none, none, none, none], [], (c - rs1.1), (s - rs1.2)) M3))) ∧ (¬ v3 = v1 → Q (.inl (some (.int 0))) M3)))))) ∧ (¬ ((pI M l0 (Int32.toNatClampNeg l4)) &&& 31) = 0 → ((((pI M l0 (Int32.toNatClampNeg l4)) &&& 31) = 1 → ∃ n15 : Nat, pK M l0 = (5, n15) ∧ vp_in (l4 + 1) n15 ∧ ∃ rs2 : Nat × Nat, rs2.1 ≤ c ∧ rs2.2 ≤ s ∧ pCall_i d mL_trim rs2 [.ref l1, .int (pI M l0 (Int32.toNatClampNeg (l4 + 1))), .ref l3] M (fun v4 M4 => ∃ n14 : Nat, pK M4 l0 = (5, n14) ∧ vp_in (l4 + 1) n14 ∧ pK M4 l2 = (1, 13) ∧ pCall_i d mX13_trim (0, 0) [.ref l2, .int (pI M4 l0 (Int32.toNatClampNeg (l4 + 1)))] M4 (fun v5 M5 => pK M5 l2 = (1, 13) ∧ pCall_i d mX13_thrown (0, 0) [.ref l2] M5 (fun v6 M6 => ((v6 = v4 → ((v4 = 0 → ∃ n13 : Nat, pK M6 l3 = (3, n13) ∧ vp_in 0 n13 ∧ (((lg_cmp (pL M6 l3 (Int32.toNatClampNeg 0)) (Int32.toInt64 v5)) = 0 → Go d mL_law Q 293 ([some (.ref l0), some (.ref l1), some (.ref l2), some (.ref l3), some (.int l4), none, none, none, none], [], (c - rs2.1), (s - rs2.2)) M6) ∧ (¬ (lg_cmp (pL M6 l3 (Int32.toNatClampNeg 0)) (Int32.toInt64 v5)) = 0 → Q (.inl (some (.int 0))) M6))) ∧ (¬ v4 = 0 → Go d mL_law Q 293 ([some (.ref l0), some (.ref l1), some (.ref l2), some (.ref l3), some (.int l4), none, none, none, none], [], (c - rs2.1), (s - rs2.2)) M6))) ∧ (¬ v6 = v4 → Q (.inl (some (.int 0))) M6)))))) ∧ (¬ ((pI M l0 (Int32.toNatClampNeg l4)) &&& 31) = 1 → ((((pI M l0 (Int32.toNatClampNeg l4)) &&& 31) = 2 → pK M l1 = (1, 11) ∧ ∃ rs3 : Nat × Nat, rs3.1 ≤ c ∧ rs3.2 ≤ s ∧ pCall_i d mX11_teach rs3 [.ref l1] M (fun v7 M7 => pK M7 l2 = (1, 13) ∧ pCall_i d mX13_teach (0, 0) [.ref l2] M7 (fun v8 M8 => ((v7 = v8 → Go d mL_law Q 1099 ([some (.ref l0), some (.ref l1), some (.ref l2), some (.ref l3), some (.int l4), none, none, none, none], [], (c - rs3.1), (s - rs3.2)) M8) ∧ (¬ v7 = v8 → Q (.inl (some (.int 0))) M8))))) ∧ (¬ ((pI M l0 (Int32.toNatClampNeg l4)) &&& 31) = 2 → ((((pI M l0 (Int32.toNatClampNeg l4)) &&& 31) = 3 → pK M l1 = (1, 11) ∧ pCall_i d mX11_errorAt (0, 0) [.ref l1] M (fun v9 M9 => pK M9 l2 = (1, 13) ∧ pCall_i d mX13_errorAt (0, 0) [.ref l2] M9 (fun v10 M10 => ((v9 = v10 → Go d mL_law Q 1099 ([some (.ref l0), some (.ref l1), some (.ref l2), some (.ref l3), some (.int l4), none, none, none, none], [], c, s) M10) ∧ (¬ v9 = v10 → Q (.inl (some (.int 0))) M10))))) ∧ (¬ ((pI M l0 (Int32.toNatClampNeg l4)) &&& 31) = 3 → ((((pI M l0 (Int32.toNatClampNeg l4)) &&& 31) = 4 → ∃ n18 : Nat, pK M l0 = (5, n18) ∧ vp_in (l4 + 1) n18 ∧ ∃ rs4 : Nat × Nat, rs4.1 ≤ c ∧ rs4.2 ≤ s ∧ pCall_i d mL_count rs4 [.ref l1, .int (pI M l0 (Int32.toNatClampNeg (l4 + 1))), .ref l3] M (fun v11 M11 => ∃ n17 : Nat, pK M11 l0 = (5, n17) ∧ vp_in (l4 + 1) n17 ∧ pK M11 l2 = (1, 13) ∧ pCall_i d mX13_count (0, 0) [.ref l2, .int (pI M11 l0 (Int32.toNatClampNeg (l4 + 1)))] M11 (fun v12 M12 => pK M12 l2 = (1, 13) ∧ pCall_i d mX13_thrown (0, 0) [.ref l2] M12 (fun v13 M13 => ((v13 = v11 → ((v11 = 0 → ∃ n16 : Nat, pK M13 l3 = (3, n16) ∧ vp_in 0 n16 ∧ (((lg_cmp (pL M13 l3 (Int32.toNatClampNeg 0)) (Int32.toInt64 v12)) = 0 → Go d mL_law Q 375 ([some (.ref l0), some (.ref l1), some (.ref l2), some (.ref l3), some (.int l4), none, none, none, none], [], (c - rs4.1), (s - rs4.2)) M13) ∧ (¬ (lg_cmp (pL M13 l3 (Int32.toNatClampNeg 0)) (Int32.toInt64 v12)) = 0 → Q (.inl (some (.int 0))) M13))) ∧ (¬ v11 = 0 → Go d mL_law Q 375 ([some (.ref l0), some (.ref l1), some (.ref l2), some (.ref l3), some (.int l4), none, none, none, none], [], (c - rs4.1), (s - rs4.2)) M13))) ∧ (¬ v13 = v11 → Q (.inl (some (.int 0))) M13)))))) ∧ (¬ ((pI M l0 (Int32.toNatClampNeg l4)) &&& 31) = 4 → ((((pI M l0 (Int32.toNatClampNeg l4)) &&& 31) = 5 → ∃ n21 : Nat, pK M l0 = (5, n21) ∧ vp_in (l4 + 1) n21 ∧ ∃ rs5 : Nat × Nat, rs5.1 ≤ c ∧ rs5.2 ≤ s ∧ pCall_i d mL_type rs5 [.ref l1, .int (pI M l0 (Int32.toNatClampNeg (l4 + 1))), .ref l3] M (fun v14 M14 => ∃ n20 : Nat, pK M14 l0 = (5, n20) ∧ vp_in (l4 + 1) n20 ∧ pK M14 l2 = (1, 13) ∧ pCall_i d mX13_type (0, 0) [.ref l2, .int (pI M14 l0 (Int32.toNatClampNeg (l4 + 1)))] M14 (fun v15 M15 => pK M15 l2 = (1, 13) ∧ pCall_i d mX13_thrown (0, 0) [.ref l2] M15 (fun v16 M16 => ((v16 = v14 → ((v14 = 0 → ∃ n19 : Nat, pK M16 l3 = (3, n19) ∧ vp_in 0 n19 ∧ (((lg_cmp (pL M16 l3 (Int32.toNatClampNeg 0)) (Int32.toInt64 v15)) = 0 → Go d mL_law Q 431 ([some (.ref l0), some (.ref l1), some (.ref l2), some (.ref l3), some (.int l4), none, none, none, none], [], (c - rs5.1), (s - rs5.2)) M16) ∧ (¬ (lg_cmp (pL M16 l3 (Int32.toNatClampNeg 0)) (Int32.toInt64 v15)) = 0 → Q (.inl (some (.int 0))) M16))) ∧ (¬ v14 = 0 → Go d mL_law Q 431 ([some (.ref l0), some (.ref l1), some (.ref l2), some (.ref l3), some (.int l4), none, none, none, none], [], (c - rs5.1), (s - rs5.2)) M16))) ∧ (¬ v16 = v14 → Q (.inl (some (.int 0))) M16)))))) ∧ (¬ ((pI M l0 (Int32.toNatClampNeg l4)) &&& 31) = 5 → ((((pI M l0 (Int32.toNatClampNeg l4)) &&& 31) = 6 → ∃ rs6 : Nat × Nat, rs6.1 ≤ c ∧ rs6.2 ≤ s ∧ pCall_i d mL_back rs6 [.ref l1, .ref l3] M (fun v17 M17 => pK M17 l2 = (1, 13) ∧ pCall_i d mX13_back (0, 0) [.ref l2] M17 (fun v18 M18 => pK M18 l2 = (1, 13) ∧ pCall_i d mX13_thrown (0, 0) [.ref l2] M18 (fun v19 M19 => ((v19 = v17 → ((v17 = 0 → ∃ n22 : Nat, pK M19 l3 = (3, n22) ∧ vp_in 0 n22 ∧ (((lg_cmp (pL M19 l3 (Int32.toNatClampNeg 0)) (Int32.toInt64 v18)) = 0 → Go d mL_law Q 475 ([some (.ref l0), some (.ref l1), some (.ref l2), some (.ref l3), some (.int l4), none, none, none, none], [], (c - rs6.1), (s - rs6.2)) M19) ∧ (¬ (lg_cmp (pL M19 l3 (Int32.toNatClampNeg 0)) (Int32.toInt64 v18)) = 0 → Q (.inl (some (.int 0))) M19))) ∧ (¬ v17 = 0 → Go d mL_law Q 475 ([some (.ref l0), some (.ref l1), some (.ref l2), some (.ref l3), some (.int l4), none, none, none, none], [], (c - rs6.1), (s - rs6.2)) M19))) ∧ (¬ v19 = v17 → Q (.inl (some (.int 0))) M19)))))) ∧ (¬ ((pI M l0 (Int32.toNatClampNeg l4)) &&& 31) = 6 → ((((pI M l0 (Int32.toNatClampNeg l4)) &&& 31) = 7 → ∃ n25 : Nat, pK M l0 = (5, n25) ∧ vp_in (l4 + 1) n25 ∧ ∃ rs7 : Nat × Nat, rs7.1 ≤ c ∧ rs7.2 ≤ s ∧ pCall_i d mL_take rs7 [.ref l1, .int (pI M l0 (Int32.toNatClampNeg (l4 + 1))), .ref l3] M (fun v20 M20 => ∃ n24 : Nat, pK M20 l0 = (5, n24) ∧ vp_in (l4 + 1) n24 ∧ pK M20 l2 = (1, 13) ∧ pCall_i d mX13_take_ (0, 0) [.ref l2, .int (pI M20 l0 (Int32.toNatClampNeg (l4 + 1)))] M20 (fun v21 M21 => pK M21 l2 = (1, 13) ∧ pCall_i d mX13_thrown (0, 0) [.ref l2] M21 (fun v22 M22 => ((v22 = v20 → ((v20 = 0 → ∃ n23 : Nat, pK M22 l3 = (3, n23) ∧ vp_in 0 n23 ∧ (((lg_cmp (pL M22 l3 (Int32.toNatClampNeg 0)) (Int32.toInt64 v21)) = 0 → Go d mL_law Q 531 ([some (.ref l0), some (.ref l1), some (.ref l2), some (.ref l3), some (.int l4), none, none, none, none], [], (c - rs7.1), (s - rs7.2)) M22) ∧ (¬ (lg_cmp (pL M22 l3 (Int32.toNatClampNeg 0)) (Int32.toInt64 v21)) = 0 → Q (.inl (some (.int 0))) M22))) ∧ (¬ v20 = 0 → Go d mL_law Q 531 ([some (.ref l0), some (.ref l1), some (.ref l2), some (.ref l3), some (.int l4), none, none, none, none], [], (c - rs7.1), (s - rs7.2)) M22))) ∧ (¬ v22 = v20 → Q (.inl (some (.int 0))) M22)))))) ∧ (¬ ((pI M l0 (Int32.toNatClampNeg l4)) &&& 31) = 7 → ((((pI M l0 (Int32.toNatClampNeg l4)) &&& 31) = 8 → ∃ rs8 : Nat × Nat, rs8.1 ≤ c ∧ rs8.2 ≤ s ∧ pCall_i d mL_say rs8 [.ref l1, .ref l3] M (fun v23 M23 => pK M23 l2 = (1, 13) ∧ pCall_i d mX13_say (0, 0) [.ref l2] M23 (fun v24 M24 => pK M24 l2 = (1, 13) ∧ pCall_i d mX13_thrown (0, 0) [.ref l2] M24 (fun v25 M25 => ((v25 = v23 → ((v23 = 0 → ∃ n26 : Nat, pK M25 l3 = (3, n26) ∧ vp_in 0 n26 ∧ (((lg_cmp (pL M25 l3 (Int32.toNatClampNeg 0)) (Int32.toInt64 v24)) = 0 → Go d mL_law Q 575 ([some (.ref l0), some (.ref l1), some (.ref l2), some (.ref l3), some (.int l4), none, none, none, none], [], (c - rs8.1), (s - rs8.2)) M25) ∧ (¬ (lg_cmp (pL M25 l3 (Int32.toNatClampNeg 0)) (Int32.toInt64 v24)) = 0 → Q (.inl (some (.int 0))) M25))) ∧ (¬ v23 = 0 → Go d mL_law Q 575 ([some (.ref l0), some (.ref l1), some (.ref l2), some (.ref l3), some (.int l4), none, none, none, none], [], (c - rs8.1), (s - rs8.2)) M25))) ∧ (¬ v25 = v23 → Q (.inl (some (.int 0))) M25)))))) ∧ (¬ ((pI M l0 (Int32.toNatClampNeg l4)) &&& 31) = 8 → ((((pI M l0 (Int32.toNatClampNeg l4)) &&& 31) = 9 → ∃ n29 : Nat, pK M l0 = (5, n29) ∧ vp_in (l4 + 1) n29 ∧ ∃ rs9 : Nat × Nat, rs9.1 ≤ c ∧ rs9.2 ≤ s ∧ pCall_i d mL_setLimit rs9 [.ref l1, .int (pI M l0 (Int32.toNatClampNeg (l4 + 1))), .ref l3] M (fun v26 M26 => ∃ n28 : Nat, pK M26 l0 = (5, n28) ∧ vp_in (l4 + 1) n28 ∧ pK M26 l2 = (1, 13) ∧ pCall_i d mX13_setLimit (0, 0) [.ref l2, .int (pI M26 l0 (Int32.toNatClampNeg (l4 + 1)))] M26 (fun v27 M27 => pK M27 l2 = (1, 13) ∧ pCall_i d mX13_thrown (0, 0) [.ref l2] M27 (fun v28 M28 => ((v28 = v26 → ((v26 = 0 → ∃ n27 : Nat, pK M28 l3 = (3, n27) ∧ vp_in 0 n27 ∧ (((lg_cmp (pL M28 l3 (Int32.toNatClampNeg 0)) (Int32.toInt64 v27)) = 0 → Go d mL_law Q 631 ([some (.ref l0), some (.ref l1), some (.ref l2), some (.ref l3), some (.int l4), none, none, none, none], [], (c - rs9.1), (s - rs9.2)) M28) ∧ (¬ (lg_cmp (pL M28 l3 (Int32.toNatClampNeg 0)) (Int32.toInt64 v27)) = 0 → Q (.inl (some (.int 0))) M28))) ∧ (¬ v26 = 0 → Go d mL_law Q 631 ([some (.ref l0), some (.ref l1), some (.ref l2), some (.ref l3), some (.int l4), none, none, none, none], [], (c - rs9.1), (s - rs9.2)) M28))) ∧ (¬ v28 = v26 → Q (.inl (some (.int 0))) M28)))))) ∧ (¬ ((pI M l0 (Int32.toNatClampNeg l4)) &&& 31) = 9 → ((((pI M l0 (Int32.toNatClampNeg l4)) &&& 31) = 10 → ∃ n32 : Nat, pK M l0 = (5, n32) ∧ vp_in (l4 + 1) n32 ∧ ∃ rs10 : Nat × Nat, rs10.1 ≤ c ∧ rs10.2 ≤ s ∧ pCall_i d mL_offer rs10 [.ref l1, .int (pI M l0 (Int32.toNatClampNeg (l4 + 1))), .ref l3] M (fun v29 M29 => ∃ n31 : Nat, pK M29 l0 = (5, n31) ∧ vp_in (l4 + 1) n31 ∧ pK M29 l2 = (1, 13) ∧ pCall_i d mX13_offer (0, 0) [.ref l2, .int (pI M29 l0 (Int32.toNatClampNeg (l4 + 1)))] M29 (fun v30 M30 => pK M30 l2 = (1, 13) ∧ pCall_i d mX13_thrown (0, 0) [.ref l2] M30 (fun v31 M31 => ((v31 = v29 → ((v29 = 0 → ∃ n30 : Nat, pK M31 l3 = (3, n30) ∧ vp_in 0 n30 ∧ (((lg_cmp (pL M31 l3 (Int32.toNatClampNeg 0)) (Int32.toInt64 v30)) = 0 → Go d mL_law Q 687 ([some (.ref l0), some (.ref l1), some (.ref l2), some (.ref l3), some (.int l4), none, none, none, none], [], (c - rs10.1), (s - rs10.2)) M31) ∧ (¬ (lg_cmp (pL M31 l3 (Int32.toNatClampNeg 0)) (Int32.toInt64 v30)) = 0 → Q (.inl (some (.int 0))) M31))) ∧ (¬ v29 = 0 → Go d mL_law Q 687 ([some (.ref l0), some (.ref l1), some (.ref l2), some (.ref l3), some (.int l4), none, none, none, none], [], (c - rs10.1), (s - rs10.2)) M31))) ∧ (¬ v31 = v29 → Q (.inl (some (.int 0))) M31)))))) ∧ (¬ ((pI M l0 (Int32.toNatClampNeg l4)) &&& 31) = 10 → ((((pI M l0 (Int32.toNatClampNeg l4)) &&& 31) = 11 → ∃ n37 : Nat, pK M l0 = (5, n37) ∧ vp_in (l4 + 1) n37 ∧ ∃ n36 : Nat, pK M l0 = (5, n36) ∧ vp_in (l4 + 2) n36 ∧ ∃ rs11 : Nat × Nat, rs11.1 ≤ c ∧ rs11.2 ≤ s ∧ pCall_i d mL_word rs11 [.ref l1, .int (pI M l0 (Int32.toNatClampNeg (l4 + 1))), .int (pI M l0 (Int32.toNatClampNeg (l4 + 2))), .ref l3] M (fun v32 M32 => ∃ n35 : Nat, pK M32 l0 = (5, n35) ∧ vp_in (l4 + 1) n35 ∧ ∃ n34 : Nat, pK M32 l0 = (5, n34) ∧ vp_in (l4 + 2) n34 ∧ pK M32 l2 = (1, 13) ∧ pCall_i d mX13_word (0, 0) [.ref l2, .int (pI M32 l0 (Int32.toNatClampNeg (l4 + 1))), .int (pI M32 l0 (Int32.toNatClampNeg (l4 + 2)))] M32 (fun v33 M33 => pK M33 l2 = (1, 13) ∧ pCall_i d mX13_thrown (0, 0) [.ref l2] M33 (fun v34 M34 => ((v34 = v32 → ((v32 = 0 → ∃ n33 : Nat, pK M34 l3 = (3, n33) ∧ vp_in 0 n33 ∧ (((lg_cmp (pL M34 l3 (Int32.toNatClampNeg 0)) (Int32.toInt64 v33)) = 0 → Go d mL_law Q 755 ([some (.ref l0), some (.ref l1), some (.ref l2), some (.ref l3), some (.int l4), none, none, none, none], [], (c - rs11.1), (s - rs11.2)) M34) ∧ (¬ (lg_cmp (pL M34 l3 (Int32.toNatClampNeg 0)) (Int32.toInt64 v33)) = 0 → Q (.inl (some (.int 0))) M34))) ∧ (¬ v32 = 0 → Go d mL_law Q 755 ([some (.ref l0), some (.ref l1), some (.ref l2), some (.ref l3), some (.int l4), none, none, none, none], [], (c - rs11.1), (s - rs11.2)) M34))) ∧ (¬ v34 = v32 → Q (.inl (some (.int 0))) M34)))))) ∧ (¬ ((pI M l0 (Int32.toNatClampNeg l4)) &&& 31) = 11 → ((((pI M l0 (Int32.toNatClampNeg l4)) &&& 31) = 12 → ∃ n42 : Nat, pK M l0 = (5, n42) ∧ vp_in (l4 + 1) n42 ∧ ∃ n41 : Nat, pK M l0 = (5, n41) ∧ vp_in (l4 + 2) n41 ∧ ∃ rs12 : Nat × Nat, rs12.1 ≤ c ∧ rs12.2 ≤ s ∧ pCall_i d mL_letter rs12 [.ref l1, .int (pI M l0 (Int32.toNatClampNeg (l4 + 1))), .int (pI M l0 (Int32.toNatClampNeg (l4 + 2))), .ref l3] M (fun v35 M35 => ∃ n40 : Nat, pK M35 l0 = (5, n40) ∧ vp_in (l4 + 1) n40 ∧ ∃ n39 : Nat, pK M35 l0 = (5, n39) ∧ vp_in (l4 + 2) n39 ∧ pK M35 l2 = (1, 13) ∧ pCall_i d mX13_letter (0, 0) [.ref l2, .int (pI M35 l0 (Int32.toNatClampNeg (l4 + 1))), .int (pI M35 l0 (Int32.toNatClampNeg (l4 + 2)))] M35 (fun v36 M36 => pK M36 l2 = (1, 13) ∧ pCall_i d mX13_thrown (0, 0) [.ref l2] M36 (fun v37 M37 => ((v37 = v35 → ((v35 = 0 → ∃ n38 : Nat, pK M37 l3 = (3, n38) ∧ vp_in 0 n38 ∧ (((lg_cmp (pL M37 l3 (Int32.toNatClampNeg 0)) (Int32.toInt64 v36)) = 0 → Go d mL_law Q 823 ([some (.ref l0), some (.ref l1), some (.ref l2), some (.ref l3), some (.int l4), none, none, none, none], [], (c - rs12.1), (s - rs12.2)) M37) ∧ (¬ (lg_cmp (pL M37 l3 (Int32.toNatClampNeg 0)) (Int32.toInt64 v36)) = 0 → Q (.inl (some (.int 0))) M37))) ∧ (¬ v35 = 0 → Go d mL_law Q 823 ([some (.ref l0), some (.ref l1), some (.ref l2), some (.ref l3), some (.int l4), none, none, none, none], [], (c - rs12.1), (s - rs12.2)) M37))) ∧ (¬ v37 = v35 → Q (.inl (some (.int 0))) M37)))))) ∧ (¬ ((pI M l0 (Int32.toNatClampNeg l4)) &&& 31) = 12 → ((((pI M l0 (Int32.toNatClampNeg l4)) &&& 31) = 13 → ∃ n46 : Nat, pK M l0 = (5, n46) ∧ vp_in (l4 + 1) n46 ∧ ∃ n45 : Nat, pK M l0 = (5, n45) ∧ vp_in (l4 + 2) n45 ∧ pK M l1 = (1, 11) ∧ pCall_i d mX11_near (0, 0) [.ref l1, .int (pI M l0 (Int32.toNatClampNeg (l4 + 1))), .int (pI M l0 (Int32.toNatClampNeg (l4 + 2)))] M (fun v38 M38 => ∃ n44 : Nat, pK M38 l0 = (5, n44) ∧ vp_in (l4 + 1) n44 ∧ ∃ n43 : Nat, pK M38 l0 = (5, n43) ∧ vp_in (l4 + 2) n43 ∧ pK M38 l2 = (1, 13) ∧ pCall_i d mX13_near (0, 0) [.ref l2, .int (pI M38 l0 (Int32.toNatClampNeg (l4 + 1))), .int (pI M38 l0 (Int32.toNatClampNeg (l4 + 2)))] M38 (fun v39 M39 => ((v38 = v39 → Go d mL_law Q 1099 ([some (.ref l0), some (.ref l1), some (.ref l2), some (.ref l3), some (.int l4), none, none, none, none], [], c, s) M39) ∧ (¬ v38 = v39 → Q (.inl (some (.int 0))) M39))))) ∧ (¬ ((pI M l0 (Int32.toNatClampNeg l4)) &&& 31) = 13 → ((((pI M l0 (Int32.toNatClampNeg l4)) &&& 31) = 14 → pK M l1 = (1, 11) ∧ pCall_i d mX11_best (0, 0) [.ref l1] M (fun v40 M40 => pK M40 l2 = (1, 13) ∧ pCall_i d mX13_best (0, 0) [.ref l2] M40 (fun v41 M41 => ((v40 = v41 → Go d mL_law Q 1099 ([some (.ref l0), some (.ref l1), some (.ref l2), some (.ref l3), some (.int l4), none, none, none, none], [], c, s) M41) ∧ (¬ v40 = v41 → Q (.inl (some (.int 0))) M41))))) ∧ (¬ ((pI M l0 (Int32.toNatClampNeg l4)) &&& 31) = 14 → ((((pI M l0 (Int32.toNatClampNeg l4)) &&& 31) = 15 → ∃ n49 : Nat, pK M l0 = (5, n49) ∧ vp_in (l4 + 1) n49 ∧ ∃ rs13 : Nat × Nat, rs13.1 ≤ c ∧ rs13.2 ≤ s ∧ pCall_i d mL_strokes rs13 [.ref l1, .int (pI M l0 (Int32.toNatClampNeg (l4 + 1))), .ref l3] M (fun v42 M42 => ∃ n48 : Nat, pK M42 l0 = (5, n48) ∧ vp_in (l4 + 1) n48 ∧ pK M42 l2 = (1, 13) ∧ pCall_i d mX13_strokes (0, 0) [.ref l2, .int (pI M42 l0 (Int32.toNatClampNeg (l4 + 1)))] M42 (fun v43 M43 => pK M43 l2 = (1, 13) ∧ pCall_i d mX13_thrown (0, 0) [.ref l2] M43 (fun v44 M44 => ((v44 = v42 → ((v42 = 0 → ∃ n47 : Nat, pK M44 l3 = (3, n47) ∧ vp_in 0 n47 ∧ (((lg_cmp (pL M44 l3 (Int32.toNatClampNeg 0)) (Int32.toInt64 v43)) = 0 → Go d mL_law Q 929 ([some (.ref l0), some (.ref l1), some (.ref l2), some (.ref l3), some (.int l4), none, none, none, none], [], (c - rs13.1), (s - rs13.2)) M44) ∧ (¬ (lg_cmp (pL M44 l3 (Int32.toNatClampNeg 0)) (Int32.toInt64 v43)) = 0 → Q (.inl (some (.int 0))) M44))) ∧ (¬ v42 = 0 → Go d mL_law Q 929 ([some (.ref l0), some (.ref l1), some (.ref l2), some (.ref l3), some (.int l4), none, none, none, none], [], (c - rs13.1), (s - rs13.2)) M44))) ∧ (¬ v44 = v42 → Q (.inl (some (.int 0))) M44)))))) ∧ (¬ ((pI M l0 (Int32.toNatClampNeg l4)) &&& 31) = 15 → ((((pI M l0 (Int32.toNatClampNeg l4)) &&& 31) = 16 → ∃ n52 : Nat, pK M l0 = (5, n52) ∧ vp_in (l4 + 1) n52 ∧ ∃ rs14 : Nat × Nat, rs14.1 ≤ c ∧ rs14.2 ≤ s ∧ pCall_i d mL_needs rs14 [.ref l1, .int (pI M l0 (Int32.toNatClampNeg (l4 + 1))), .ref l3] M (fun v45 M45 => ∃ n51 : Nat, pK M45 l0 = (5, n51) ∧ vp_in (l4 + 1) n51 ∧ pK M45 l2 = (1, 13) ∧ pCall_i d mX13_needs (0, 0) [.ref l2, .int (pI M45 l0 (Int32.toNatClampNeg (l4 + 1)))] M45 (fun v46 M46 => pK M46 l2 = (1, 13) ∧ pCall_i d mX13_thrown (0, 0) [.ref l2] M46 (fun v47 M47 => ((v47 = v45 → ((v45 = 0 → ∃ n50 : Nat, pK M47 l3 = (3, n50) ∧ vp_in 0 n50 ∧ (((lg_cmp (pL M47 l3 (Int32.toNatClampNeg 0)) (Int32.toInt64 v46)) = 0 → Go d mL_law Q 985 ([some (.ref l0), some (.ref l1), some (.ref l2), some (.ref l3), some (.int l4), none, none, none, none], [], (c - rs14.1), (s - rs14.2)) M47) ∧ (¬ (lg_cmp (pL M47 l3 (Int32.toNatClampNeg 0)) (Int32.toInt64 v46)) = 0 → Q (.inl (some (.int 0))) M47))) ∧ (¬ v45 = 0 → Go d mL_law Q 985 ([some (.ref l0), some (.ref l1), some (.ref l2), some (.ref l3), some (.int l4), none, none, none, none], [], (c - rs14.1), (s - rs14.2)) M47))) ∧ (¬ v47 = v45 → Q (.inl (some (.int 0))) M47)))))) ∧ (¬ ((pI M l0 (Int32.toNatClampNeg l4)) &&& 31) = 16 → ((((pI M l0 (Int32.toNatClampNeg l4)) &&& 31) = 17 → ∃ n55 : Nat, pK M l0 = (5, n55) ∧ vp_in (l4 + 1) n55 ∧ ∃ rs15 : Nat × Nat, rs15.1 ≤ c ∧ rs15.2 ≤ s ∧ pCall_i d mL_closest rs15 [.ref l1, .int (pI M l0 (Int32.toNatClampNeg (l4 + 1))), .ref l3] M (fun v48 M48 => ∃ n54 : Nat, pK M48 l0 = (5, n54) ∧ vp_in (l4 + 1) n54 ∧ pK M48 l2 = (1, 13) ∧ pCall_i d mX13_closest (0, 0) [.ref l2, .int (pI M48 l0 (Int32.toNatClampNeg (l4 + 1)))] M48 (fun v49 M49 => pK M49 l2 = (1, 13) ∧ pCall_i d mX13_thrown (0, 0) [.ref l2] M49 (fun v50 M50 => ((v50 = v48 → ((v48 = 0 → ∃ n53 : Nat, pK M50 l3 = (3, n53) ∧ vp_in 0 n53 ∧ (((lg_cmp (pL M50 l3 (Int32.toNatClampNeg 0)) (Int32.toInt64 v49)) = 0 → Go d mL_law Q 1041 ([some (.ref l0), some (.ref l1), some (.ref l2), some (.ref l3), some (.int l4), none, none, none, none], [], (c - rs15.1), (s - rs15.2)) M50) ∧ (¬ (lg_cmp (pL M50 l3 (Int32.toNatClampNeg 0)) (Int32.toInt64 v49)) = 0 → Q (.inl (some (.int 0))) M50))) ∧ (¬ v48 = 0 → Go d mL_law Q 1041 ([some (.ref l0), some (.ref l1), some (.ref l2), some (.ref l3), some (.int l4), none, none, none, none], [], (c - rs15.1), (s - rs15.2)) M50))) ∧ (¬ v50 = v48 → Q (.inl (some (.int 0))) M50)))))) ∧ (¬ ((pI M l0 (Int32.toNatClampNeg l4)) &&& 31) = 17 → ((((pI M l0 (Int32.toNatClampNeg l4)) &&& 31) = 18 → pK M l1 = (1, 11) ∧ pCall_d d mX11_mean (0, 0) [.ref l1] M (fun v51 M51 => pK M51 l2 = (1, 13) ∧ pCall_d d mX13_mean (0, 0) [.ref l2] M51 (fun v52 M52 => (((Op.cmpValue (FP.dcmp v51 v52) .l) = 0 → Go d mL_law Q 1082 ([some (.ref l0), some (.ref l1), some (.ref l2), some (.ref l3), some (.int l4), none, none, none, none], [], c, s) M52) ∧ (¬ (Op.cmpValue (FP.dcmp v51 v52) .l) = 0 → (((Op.cmpValue (FP.dcmp v51 v51) .l) = 0 → Q (.inl (some (.int 0))) M52) ∧ (¬ (Op.cmpValue (FP.dcmp v51 v51) .l) = 0 → (((Op.cmpValue (FP.dcmp v52 v52) .l) = 0 → Q (.inl (some (.int 0))) M52) ∧ (¬ (Op.cmpValue (FP.dcmp v52 v52) .l) = 0 → Go d mL_law Q 1082 ([some (.ref l0), some (.ref l1), some (.ref l2), some (.ref l3), some (.int l4), none, none, none, none], [], c, s) M52))))))))) ∧ (¬ ((pI M l0 (Int32.toNatClampNeg l4)) &&& 31) = 18 → ((((pI M l0 (Int32.toNatClampNeg l4)) &&& 31) = 19 → pK M l1 = (1, 11) ∧ pCall_l d mX11_digest (0, 0) [.ref l1] M (fun v53 M53 => pK M53 l2 = (1, 13) ∧ pCall_l d mX13_digest (0, 0) [.ref l2] M53 (fun v54 M54 => (((lg_cmp v53 v54) = 0 → Go d mL_law Q 1099 ([some (.ref l0), some (.ref l1), some (.ref l2), some (.ref l3), some (.int l4), none, none, none, none], [], c, s) M54) ∧ (¬ (lg_cmp v53 v54) = 0 → Q (.inl (some (.int 0))) M54))))) ∧ (¬ ((pI M l0 (Int32.toNatClampNeg l4)) &&& 31) = 19 → Go d mL_law Q 1099 ([some (.ref l0), some (.ref l1), some (.ref l2), some (.ref l3), some (.int l4), none, none, none, none], [], c, s) M))))))))))))))))))))))))))))))))))))))))))) : Go d mL_law Q 23 ([some (.ref l0), some (.ref l1), some (.ref l2), some (.ref l3), some (.int l4), none, none, none, none], [], c, s) M := by
  refine st_iload oL_law_23 rfl ?_
  refine st_aload oL_law_25 rfl ?_
  obtain ⟨n1, hK, h⟩ := h
  refine st_slen oL_law_26 hK ?_
  refine st_const oL_law_27 ?_
  refine st_ibin oL_law_29 ?_
  refine st_icmp oL_law_30 (fun g => ?_) (fun g => ?_)
  · have h := h.1 g
    refine st_const oL_law_1105 ?_
    exact st_zret oL_law_1106 (Or.inr rfl) h
  · have h := h.2 g
    refine st_aload oL_law_33 rfl ?_
    refine st_iload oL_law_34 rfl ?_
    obtain ⟨n56, hK, hi, h⟩ := h
    refine st_sald oL_law_36 hK hi ?_
    refine st_const oL_law_37 ?_
    refine st_ibin oL_law_39 ?_
    refine st_sw oL_law_40 ?_
    refine And.intro (fun g => ?_) (fun g => ?_)
    · have h := h.1 g
      refine st_aload oL_law_136 rfl ?_
      refine st_aload oL_law_137 rfl ?_
      refine st_iload oL_law_138 rfl ?_
      refine st_const oL_law_140 ?_
      refine st_ibin oL_law_141 ?_
      obtain ⟨n12, hK, hi, h⟩ := h
      refine st_sald oL_law_142 hK hi ?_
      refine st_aload oL_law_143 rfl ?_
      refine st_iload oL_law_144 rfl ?_
      refine st_const oL_law_146 ?_
      refine st_ibin oL_law_147 ?_
      obtain ⟨n11, hK, hi, h⟩ := h
      refine st_sald oL_law_148 hK hi ?_
      refine st_aload oL_law_149 rfl ?_
      refine st_iload oL_law_150 rfl ?_
      refine st_const oL_law_152 ?_
      refine st_ibin oL_law_153 ?_
      obtain ⟨n10, hK, hi, h⟩ := h
      refine st_sald oL_law_154 hK hi ?_
      refine st_aload oL_law_155 rfl ?_
      refine st_iload oL_law_156 rfl ?_
      refine st_const oL_law_158 ?_
      refine st_ibin oL_law_159 ?_
      obtain ⟨n9, hK, hi, h⟩ := h
      refine st_sald oL_law_160 hK hi ?_
      refine st_aload oL_law_161 rfl ?_
      refine st_iload oL_law_162 rfl ?_
      refine st_const oL_law_164 ?_
      refine st_ibin oL_law_165 ?_
      obtain ⟨n8, hK, hi, h⟩ := h
      refine st_sald oL_law_166 hK hi ?_
      refine st_aload oL_law_167 rfl ?_
      obtain ⟨rs1, h1, h2, h⟩ := h
      refine st_callS_i [.ref l1, .int (pI M l0 (Int32.toNatClampNeg (l4 + 1))), .int (pI M l0 (Int32.toNatClampNeg (l4 + 2))), .int (pI M l0 (Int32.toNatClampNeg (l4 + 3))), .int (pI M l0 (Int32.toNatClampNeg (l4 + 4))), .int (pI M l0 (Int32.toNatClampNeg (l4 + 5))), .ref l3] oL_law_168 rfl rfl (ps8 rfl) h1 h2 (pCall_i.mono h (fun v1 M1 h => ?_))
      refine st_istore (L2 := [some (.ref l0), some (.ref l1), some (.ref l2), some (.ref l3), some (.int l4), some (.int v1), none, none, none]) oL_law_171 (by decide) rfl rfl ?_
      refine st_aload oL_law_173 rfl ?_
      refine st_aload oL_law_174 rfl ?_
      refine st_iload oL_law_175 rfl ?_
      refine st_const oL_law_177 ?_
      refine st_ibin oL_law_178 ?_
      obtain ⟨n7, hK, hi, h⟩ := h
      refine st_sald oL_law_179 hK hi ?_
      refine st_aload oL_law_180 rfl ?_
      refine st_iload oL_law_181 rfl ?_
      refine st_const oL_law_183 ?_
      refine st_ibin oL_law_184 ?_
      obtain ⟨n6, hK, hi, h⟩ := h
      refine st_sald oL_law_185 hK hi ?_
      refine st_aload oL_law_186 rfl ?_
      refine st_iload oL_law_187 rfl ?_
      refine st_const oL_law_189 ?_
      refine st_ibin oL_law_190 ?_
      obtain ⟨n5, hK, hi, h⟩ := h
      refine st_sald oL_law_191 hK hi ?_
      refine st_aload oL_law_192 rfl ?_
      refine st_iload oL_law_193 rfl ?_
      refine st_const oL_law_195 ?_
      refine st_ibin oL_law_196 ?_
      obtain ⟨n4, hK, hi, h⟩ := h
      refine st_sald oL_law_197 hK hi ?_
      refine st_aload oL_law_198 rfl ?_
      refine st_iload oL_law_199 rfl ?_
      refine st_const oL_law_201 ?_
      refine st_ibin oL_law_202 ?_
      obtain ⟨n3, hK, hi, h⟩ := h
      refine st_sald oL_law_203 hK hi ?_
      obtain ⟨hK, h⟩ := h
      refine st_callV0_i [.int (pI M1 l0 (Int32.toNatClampNeg (l4 + 1))), .int (pI M1 l0 (Int32.toNatClampNeg (l4 + 2))), .int (pI M1 l0 (Int32.toNatClampNeg (l4 + 3))), .int (pI M1 l0 (Int32.toNatClampNeg (l4 + 4))), .int (pI M1 l0 (Int32.toNatClampNeg (l4 + 5)))] oL_law_204 rfl rfl hK (ps8 rfl) (pCall_i.mono h (fun v2 M2 h => ?_))
      refine st_istore (L2 := [some (.ref l0), some (.ref l1), some (.ref l2), some (.ref l3), some (.int l4), some (.int v1), some (.int v2), none, none]) oL_law_207 (by decide) rfl rfl ?_
      refine st_aload oL_law_209 rfl ?_
      obtain ⟨hK, h⟩ := h
      refine st_callV0_i [] oL_law_210 rfl rfl hK (ps8 rfl) (pCall_i.mono h (fun v3 M3 h => ?_))
      refine st_iload oL_law_213 rfl ?_
      refine st_icmp oL_law_215 (fun g => ?_) (fun g => ?_)
      · have h := h.1 g
        refine st_iload oL_law_220 rfl ?_
        refine st_if oL_law_222 (fun g => ?_) (fun g => ?_)
        · have h := h.1 g
          refine st_aload oL_law_225 rfl ?_
          refine st_const oL_law_226 ?_
          obtain ⟨n2, hK, hi, h⟩ := h
          refine st_lald oL_law_227 hK hi ?_
          refine st_iload oL_law_228 rfl ?_
          refine st_i2l oL_law_230 ?_
          refine st_lcmp oL_law_231 ?_
          refine st_if oL_law_232 (fun g => ?_) (fun g => ?_)
          · have h := h.1 g
            exact Go.wk (L := [some (.ref l0), some (.ref l1), some (.ref l2), some (.ref l3), some (.int l4), none, none, none, none]) (And.intro (Or.inr rfl) (And.intro (Or.inr rfl) (And.intro (Or.inr rfl) (And.intro (Or.inr rfl) (And.intro (Or.inr rfl) (And.intro (Or.inl rfl) (And.intro (Or.inl rfl) (And.intro (Or.inr rfl) (And.intro (Or.inr rfl) True.intro))))))))) h
          · have h := h.2 g
            refine st_const oL_law_235 ?_
            exact st_zret oL_law_236 (Or.inl rfl) h
        · have h := h.2 g
          exact Go.wk (L := [some (.ref l0), some (.ref l1), some (.ref l2), some (.ref l3), some (.int l4), none, none, none, none]) (And.intro (Or.inr rfl) (And.intro (Or.inr rfl) (And.intro (Or.inr rfl) (And.intro (Or.inr rfl) (And.intro (Or.inr rfl) (And.intro (Or.inl rfl) (And.intro (Or.inl rfl) (And.intro (Or.inr rfl) (And.intro (Or.inr rfl) True.intro))))))))) h
      · have h := h.2 g
        refine st_const oL_law_218 ?_
        exact st_zret oL_law_219 (Or.inl rfl) h
    · have h := h.2 g
      refine And.intro (fun g => ?_) (fun g => ?_)
      · have h := h.1 g
        refine st_aload oL_law_240 rfl ?_
        refine st_aload oL_law_241 rfl ?_
        refine st_iload oL_law_242 rfl ?_
        refine st_const oL_law_244 ?_
        refine st_ibin oL_law_245 ?_
        obtain ⟨n15, hK, hi, h⟩ := h
        refine st_sald oL_law_246 hK hi ?_
        refine st_aload oL_law_247 rfl ?_
        obtain ⟨rs2, h1, h2, h⟩ := h
        refine st_callS_i [.ref l1, .int (pI M l0 (Int32.toNatClampNeg (l4 + 1))), .ref l3] oL_law_248 rfl rfl (ps8 rfl) h1 h2 (pCall_i.mono h (fun v4 M4 h => ?_))
        refine st_istore (L2 := [some (.ref l0), some (.ref l1), some (.ref l2), some (.ref l3), some (.int l4), some (.int v4), none, none, none]) oL_law_251 (by decide) rfl rfl ?_
        refine st_aload oL_law_253 rfl ?_
        refine st_aload oL_law_254 rfl ?_
        refine st_iload oL_law_255 rfl ?_
        refine st_const oL_law_257 ?_
        refine st_ibin oL_law_258 ?_
        obtain ⟨n14, hK, hi, h⟩ := h
        refine st_sald oL_law_259 hK hi ?_
        obtain ⟨hK, h⟩ := h
        refine st_callV0_i [.int (pI M4 l0 (Int32.toNatClampNeg (l4 + 1)))] oL_law_260 rfl rfl hK (ps8 rfl) (pCall_i.mono h (fun v5 M5 h => ?_))
        refine st_istore (L2 := [some (.ref l0), some (.ref l1), some (.ref l2), some (.ref l3), some (.int l4), some (.int v4), some (.int v5), none, none]) oL_law_263 (by decide) rfl rfl ?_
        refine st_aload oL_law_265 rfl ?_
        obtain ⟨hK, h⟩ := h
        refine st_callV0_i [] oL_law_266 rfl rfl hK (ps8 rfl) (pCall_i.mono h (fun v6 M6 h => ?_))
        refine st_iload oL_law_269 rfl ?_
        refine st_icmp oL_law_271 (fun g => ?_) (fun g => ?_)
        · have h := h.1 g
          refine st_iload oL_law_276 rfl ?_
          refine st_if oL_law_278 (fun g => ?_) (fun g => ?_)
          · have h := h.1 g
            refine st_aload oL_law_281 rfl ?_
            refine st_const oL_law_282 ?_
            obtain ⟨n13, hK, hi, h⟩ := h
            refine st_lald oL_law_283 hK hi ?_
            refine st_iload oL_law_284 rfl ?_
            refine st_i2l oL_law_286 ?_
            refine st_lcmp oL_law_287 ?_
            refine st_if oL_law_288 (fun g => ?_) (fun g => ?_)
            · have h := h.1 g
              exact Go.wk (L := [some (.ref l0), some (.ref l1), some (.ref l2), some (.ref l3), some (.int l4), none, none, none, none]) (And.intro (Or.inr rfl) (And.intro (Or.inr rfl) (And.intro (Or.inr rfl) (And.intro (Or.inr rfl) (And.intro (Or.inr rfl) (And.intro (Or.inl rfl) (And.intro (Or.inl rfl) (And.intro (Or.inr rfl) (And.intro (Or.inr rfl) True.intro))))))))) h
            · have h := h.2 g
              refine st_const oL_law_291 ?_
              exact st_zret oL_law_292 (Or.inl rfl) h
          · have h := h.2 g
            exact Go.wk (L := [some (.ref l0), some (.ref l1), some (.ref l2), some (.ref l3), some (.int l4), none, none, none, none]) (And.intro (Or.inr rfl) (And.intro (Or.inr rfl) (And.intro (Or.inr rfl) (And.intro (Or.inr rfl) (And.intro (Or.inr rfl) (And.intro (Or.inl rfl) (And.intro (Or.inl rfl) (And.intro (Or.inr rfl) (And.intro (Or.inr rfl) True.intro))))))))) h
        · have h := h.2 g
          refine st_const oL_law_274 ?_
          exact st_zret oL_law_275 (Or.inl rfl) h
      · have h := h.2 g
        refine And.intro (fun g => ?_) (fun g => ?_)
        · have h := h.1 g
          refine st_aload oL_law_296 rfl ?_
          obtain ⟨hK, rs3, h1, h2, h⟩ := h
          refine st_callV_i [] oL_law_297 rfl rfl hK (ps8 rfl) h1 h2 (pCall_i.mono h (fun v7 M7 h => ?_))
          refine st_aload oL_law_300 rfl ?_
          obtain ⟨hK, h⟩ := h
          refine st_callV0_i [] oL_law_301 rfl rfl hK (ps8 rfl) (pCall_i.mono h (fun v8 M8 h => ?_))
          refine st_icmp oL_law_304 (fun g => ?_) (fun g => ?_)
          · have h := h.1 g
            exact h
          · have h := h.2 g
            refine st_const oL_law_307 ?_
            exact st_zret oL_law_308 (Or.inl rfl) h
        · have h := h.2 g
          refine And.intro (fun g => ?_) (fun g => ?_)
          · have h := h.1 g
            refine st_aload oL_law_309 rfl ?_
            obtain ⟨hK, h⟩ := h
            refine st_callV0_i [] oL_law_310 rfl rfl hK (ps8 rfl) (pCall_i.mono h (fun v9 M9 h => ?_))
            refine st_aload oL_law_313 rfl ?_
            obtain ⟨hK, h⟩ := h
            refine st_callV0_i [] oL_law_314 rfl rfl hK (ps8 rfl) (pCall_i.mono h (fun v10 M10 h => ?_))
            refine st_icmp oL_law_317 (fun g => ?_) (fun g => ?_)
            · have h := h.1 g
              exact h
            · have h := h.2 g
              refine st_const oL_law_320 ?_
              exact st_zret oL_law_321 (Or.inl rfl) h
          · have h := h.2 g
            refine And.intro (fun g => ?_) (fun g => ?_)
            · have h := h.1 g
              refine st_aload oL_law_322 rfl ?_
              refine st_aload oL_law_323 rfl ?_
              refine st_iload oL_law_324 rfl ?_
              refine st_const oL_law_326 ?_
              refine st_ibin oL_law_327 ?_
              obtain ⟨n18, hK, hi, h⟩ := h
              refine st_sald oL_law_328 hK hi ?_
              refine st_aload oL_law_329 rfl ?_
              obtain ⟨rs4, h1, h2, h⟩ := h
              refine st_callS_i [.ref l1, .int (pI M l0 (Int32.toNatClampNeg (l4 + 1))), .ref l3] oL_law_330 rfl rfl (ps8 rfl) h1 h2 (pCall_i.mono h (fun v11 M11 h => ?_))
              refine st_istore (L2 := [some (.ref l0), some (.ref l1), some (.ref l2), some (.ref l3), some (.int l4), some (.int v11), none, none, none]) oL_law_333 (by decide) rfl rfl ?_
              refine st_aload oL_law_335 rfl ?_
              refine st_aload oL_law_336 rfl ?_
              refine st_iload oL_law_337 rfl ?_
              refine st_const oL_law_339 ?_
              refine st_ibin oL_law_340 ?_
              obtain ⟨n17, hK, hi, h⟩ := h
              refine st_sald oL_law_341 hK hi ?_
              obtain ⟨hK, h⟩ := h
              refine st_callV0_i [.int (pI M11 l0 (Int32.toNatClampNeg (l4 + 1)))] oL_law_342 rfl rfl hK (ps8 rfl) (pCall_i.mono h (fun v12 M12 h => ?_))
              refine st_istore (L2 := [some (.ref l0), some (.ref l1), some (.ref l2), some (.ref l3), some (.int l4), some (.int v11), some (.int v12), none, none]) oL_law_345 (by decide) rfl rfl ?_
              refine st_aload oL_law_347 rfl ?_
              obtain ⟨hK, h⟩ := h
              refine st_callV0_i [] oL_law_348 rfl rfl hK (ps8 rfl) (pCall_i.mono h (fun v13 M13 h => ?_))
              refine st_iload oL_law_351 rfl ?_
              refine st_icmp oL_law_353 (fun g => ?_) (fun g => ?_)
              · have h := h.1 g
                refine st_iload oL_law_358 rfl ?_
                refine st_if oL_law_360 (fun g => ?_) (fun g => ?_)
                · have h := h.1 g
                  refine st_aload oL_law_363 rfl ?_
                  refine st_const oL_law_364 ?_
                  obtain ⟨n16, hK, hi, h⟩ := h
                  refine st_lald oL_law_365 hK hi ?_
                  refine st_iload oL_law_366 rfl ?_
                  refine st_i2l oL_law_368 ?_
                  refine st_lcmp oL_law_369 ?_
                  refine st_if oL_law_370 (fun g => ?_) (fun g => ?_)
                  · have h := h.1 g
                    exact Go.wk (L := [some (.ref l0), some (.ref l1), some (.ref l2), some (.ref l3), some (.int l4), none, none, none, none]) (And.intro (Or.inr rfl) (And.intro (Or.inr rfl) (And.intro (Or.inr rfl) (And.intro (Or.inr rfl) (And.intro (Or.inr rfl) (And.intro (Or.inl rfl) (And.intro (Or.inl rfl) (And.intro (Or.inr rfl) (And.intro (Or.inr rfl) True.intro))))))))) h
                  · have h := h.2 g
                    refine st_const oL_law_373 ?_
                    exact st_zret oL_law_374 (Or.inl rfl) h
                · have h := h.2 g
                  exact Go.wk (L := [some (.ref l0), some (.ref l1), some (.ref l2), some (.ref l3), some (.int l4), none, none, none, none]) (And.intro (Or.inr rfl) (And.intro (Or.inr rfl) (And.intro (Or.inr rfl) (And.intro (Or.inr rfl) (And.intro (Or.inr rfl) (And.intro (Or.inl rfl) (And.intro (Or.inl rfl) (And.intro (Or.inr rfl) (And.intro (Or.inr rfl) True.intro))))))))) h
              · have h := h.2 g
                refine st_const oL_law_356 ?_
                exact st_zret oL_law_357 (Or.inl rfl) h
            · have h := h.2 g
              refine And.intro (fun g => ?_) (fun g => ?_)
              · have h := h.1 g
                refine st_aload oL_law_378 rfl ?_
                refine st_aload oL_law_379 rfl ?_
                refine st_iload oL_law_380 rfl ?_
                refine st_const oL_law_382 ?_
                refine st_ibin oL_law_383 ?_
                obtain ⟨n21, hK, hi, h⟩ := h
                refine st_sald oL_law_384 hK hi ?_
                refine st_aload oL_law_385 rfl ?_
                obtain ⟨rs5, h1, h2, h⟩ := h
                refine st_callS_i [.ref l1, .int (pI M l0 (Int32.toNatClampNeg (l4 + 1))), .ref l3] oL_law_386 rfl rfl (ps8 rfl) h1 h2 (pCall_i.mono h (fun v14 M14 h => ?_))
                refine st_istore (L2 := [some (.ref l0), some (.ref l1), some (.ref l2), some (.ref l3), some (.int l4), some (.int v14), none, none, none]) oL_law_389 (by decide) rfl rfl ?_
                refine st_aload oL_law_391 rfl ?_
                refine st_aload oL_law_392 rfl ?_
                refine st_iload oL_law_393 rfl ?_
                refine st_const oL_law_395 ?_
                refine st_ibin oL_law_396 ?_
                obtain ⟨n20, hK, hi, h⟩ := h
                refine st_sald oL_law_397 hK hi ?_
                obtain ⟨hK, h⟩ := h
                refine st_callV0_i [.int (pI M14 l0 (Int32.toNatClampNeg (l4 + 1)))] oL_law_398 rfl rfl hK (ps8 rfl) (pCall_i.mono h (fun v15 M15 h => ?_))
                refine st_istore (L2 := [some (.ref l0), some (.ref l1), some (.ref l2), some (.ref l3), some (.int l4), some (.int v14), some (.int v15), none, none]) oL_law_401 (by decide) rfl rfl ?_
                refine st_aload oL_law_403 rfl ?_
                obtain ⟨hK, h⟩ := h
                refine st_callV0_i [] oL_law_404 rfl rfl hK (ps8 rfl) (pCall_i.mono h (fun v16 M16 h => ?_))
                refine st_iload oL_law_407 rfl ?_
                refine st_icmp oL_law_409 (fun g => ?_) (fun g => ?_)
                · have h := h.1 g
                  refine st_iload oL_law_414 rfl ?_
                  refine st_if oL_law_416 (fun g => ?_) (fun g => ?_)
                  · have h := h.1 g
                    refine st_aload oL_law_419 rfl ?_
                    refine st_const oL_law_420 ?_
                    obtain ⟨n19, hK, hi, h⟩ := h
                    refine st_lald oL_law_421 hK hi ?_
                    refine st_iload oL_law_422 rfl ?_
                    refine st_i2l oL_law_424 ?_
                    refine st_lcmp oL_law_425 ?_
                    refine st_if oL_law_426 (fun g => ?_) (fun g => ?_)
                    · have h := h.1 g
                      exact Go.wk (L := [some (.ref l0), some (.ref l1), some (.ref l2), some (.ref l3), some (.int l4), none, none, none, none]) (And.intro (Or.inr rfl) (And.intro (Or.inr rfl) (And.intro (Or.inr rfl) (And.intro (Or.inr rfl) (And.intro (Or.inr rfl) (And.intro (Or.inl rfl) (And.intro (Or.inl rfl) (And.intro (Or.inr rfl) (And.intro (Or.inr rfl) True.intro))))))))) h
                    · have h := h.2 g
                      refine st_const oL_law_429 ?_
                      exact st_zret oL_law_430 (Or.inl rfl) h
                  · have h := h.2 g
                    exact Go.wk (L := [some (.ref l0), some (.ref l1), some (.ref l2), some (.ref l3), some (.int l4), none, none, none, none]) (And.intro (Or.inr rfl) (And.intro (Or.inr rfl) (And.intro (Or.inr rfl) (And.intro (Or.inr rfl) (And.intro (Or.inr rfl) (And.intro (Or.inl rfl) (And.intro (Or.inl rfl) (And.intro (Or.inr rfl) (And.intro (Or.inr rfl) True.intro))))))))) h
                · have h := h.2 g
                  refine st_const oL_law_412 ?_
                  exact st_zret oL_law_413 (Or.inl rfl) h
              · have h := h.2 g
                refine And.intro (fun g => ?_) (fun g => ?_)
                · have h := h.1 g
                  refine st_aload oL_law_434 rfl ?_
                  refine st_aload oL_law_435 rfl ?_
                  obtain ⟨rs6, h1, h2, h⟩ := h
                  refine st_callS_i [.ref l1, .ref l3] oL_law_436 rfl rfl (ps8 rfl) h1 h2 (pCall_i.mono h (fun v17 M17 h => ?_))
                  refine st_istore (L2 := [some (.ref l0), some (.ref l1), some (.ref l2), some (.ref l3), some (.int l4), some (.int v17), none, none, none]) oL_law_439 (by decide) rfl rfl ?_
                  refine st_aload oL_law_441 rfl ?_
                  obtain ⟨hK, h⟩ := h
                  refine st_callV0_i [] oL_law_442 rfl rfl hK (ps8 rfl) (pCall_i.mono h (fun v18 M18 h => ?_))
                  refine st_istore (L2 := [some (.ref l0), some (.ref l1), some (.ref l2), some (.ref l3), some (.int l4), some (.int v17), some (.int v18), none, none]) oL_law_445 (by decide) rfl rfl ?_
                  refine st_aload oL_law_447 rfl ?_
                  obtain ⟨hK, h⟩ := h
                  refine st_callV0_i [] oL_law_448 rfl rfl hK (ps8 rfl) (pCall_i.mono h (fun v19 M19 h => ?_))
                  refine st_iload oL_law_451 rfl ?_
                  refine st_icmp oL_law_453 (fun g => ?_) (fun g => ?_)
                  · have h := h.1 g
                    refine st_iload oL_law_458 rfl ?_
                    refine st_if oL_law_460 (fun g => ?_) (fun g => ?_)
                    · have h := h.1 g
                      refine st_aload oL_law_463 rfl ?_
                      refine st_const oL_law_464 ?_
                      obtain ⟨n22, hK, hi, h⟩ := h
                      refine st_lald oL_law_465 hK hi ?_
                      refine st_iload oL_law_466 rfl ?_
                      refine st_i2l oL_law_468 ?_
                      refine st_lcmp oL_law_469 ?_
                      refine st_if oL_law_470 (fun g => ?_) (fun g => ?_)
                      · have h := h.1 g
                        exact Go.wk (L := [some (.ref l0), some (.ref l1), some (.ref l2), some (.ref l3), some (.int l4), none, none, none, none]) (And.intro (Or.inr rfl) (And.intro (Or.inr rfl) (And.intro (Or.inr rfl) (And.intro (Or.inr rfl) (And.intro (Or.inr rfl) (And.intro (Or.inl rfl) (And.intro (Or.inl rfl) (And.intro (Or.inr rfl) (And.intro (Or.inr rfl) True.intro))))))))) h
                      · have h := h.2 g
                        refine st_const oL_law_473 ?_
                        exact st_zret oL_law_474 (Or.inl rfl) h
                    · have h := h.2 g
                      exact Go.wk (L := [some (.ref l0), some (.ref l1), some (.ref l2), some (.ref l3), some (.int l4), none, none, none, none]) (And.intro (Or.inr rfl) (And.intro (Or.inr rfl) (And.intro (Or.inr rfl) (And.intro (Or.inr rfl) (And.intro (Or.inr rfl) (And.intro (Or.inl rfl) (And.intro (Or.inl rfl) (And.intro (Or.inr rfl) (And.intro (Or.inr rfl) True.intro))))))))) h
                  · have h := h.2 g
                    refine st_const oL_law_456 ?_
                    exact st_zret oL_law_457 (Or.inl rfl) h
                · have h := h.2 g
                  refine And.intro (fun g => ?_) (fun g => ?_)
                  · have h := h.1 g
                    refine st_aload oL_law_478 rfl ?_
                    refine st_aload oL_law_479 rfl ?_
                    refine st_iload oL_law_480 rfl ?_
                    refine st_const oL_law_482 ?_
                    refine st_ibin oL_law_483 ?_
                    obtain ⟨n25, hK, hi, h⟩ := h
                    refine st_sald oL_law_484 hK hi ?_
                    refine st_aload oL_law_485 rfl ?_
                    obtain ⟨rs7, h1, h2, h⟩ := h
                    refine st_callS_i [.ref l1, .int (pI M l0 (Int32.toNatClampNeg (l4 + 1))), .ref l3] oL_law_486 rfl rfl (ps8 rfl) h1 h2 (pCall_i.mono h (fun v20 M20 h => ?_))
                    refine st_istore (L2 := [some (.ref l0), some (.ref l1), some (.ref l2), some (.ref l3), some (.int l4), some (.int v20), none, none, none]) oL_law_489 (by decide) rfl rfl ?_
                    refine st_aload oL_law_491 rfl ?_
                    refine st_aload oL_law_492 rfl ?_
                    refine st_iload oL_law_493 rfl ?_
                    refine st_const oL_law_495 ?_
                    refine st_ibin oL_law_496 ?_
                    obtain ⟨n24, hK, hi, h⟩ := h
                    refine st_sald oL_law_497 hK hi ?_
                    obtain ⟨hK, h⟩ := h
                    refine st_callV0_i [.int (pI M20 l0 (Int32.toNatClampNeg (l4 + 1)))] oL_law_498 rfl rfl hK (ps8 rfl) (pCall_i.mono h (fun v21 M21 h => ?_))
                    refine st_istore (L2 := [some (.ref l0), some (.ref l1), some (.ref l2), some (.ref l3), some (.int l4), some (.int v20), some (.int v21), none, none]) oL_law_501 (by decide) rfl rfl ?_
                    refine st_aload oL_law_503 rfl ?_
                    obtain ⟨hK, h⟩ := h
                    refine st_callV0_i [] oL_law_504 rfl rfl hK (ps8 rfl) (pCall_i.mono h (fun v22 M22 h => ?_))
                    refine st_iload oL_law_507 rfl ?_
                    refine st_icmp oL_law_509 (fun g => ?_) (fun g => ?_)
                    · have h := h.1 g
                      refine st_iload oL_law_514 rfl ?_
                      refine st_if oL_law_516 (fun g => ?_) (fun g => ?_)
                      · have h := h.1 g
                        refine st_aload oL_law_519 rfl ?_
                        refine st_const oL_law_520 ?_
                        obtain ⟨n23, hK, hi, h⟩ := h
                        refine st_lald oL_law_521 hK hi ?_
                        refine st_iload oL_law_522 rfl ?_
                        refine st_i2l oL_law_524 ?_
                        refine st_lcmp oL_law_525 ?_
                        refine st_if oL_law_526 (fun g => ?_) (fun g => ?_)
                        · have h := h.1 g
                          exact Go.wk (L := [some (.ref l0), some (.ref l1), some (.ref l2), some (.ref l3), some (.int l4), none, none, none, none]) (And.intro (Or.inr rfl) (And.intro (Or.inr rfl) (And.intro (Or.inr rfl) (And.intro (Or.inr rfl) (And.intro (Or.inr rfl) (And.intro (Or.inl rfl) (And.intro (Or.inl rfl) (And.intro (Or.inr rfl) (And.intro (Or.inr rfl) True.intro))))))))) h
                        · have h := h.2 g
                          refine st_const oL_law_529 ?_
                          exact st_zret oL_law_530 (Or.inl rfl) h
                      · have h := h.2 g
                        exact Go.wk (L := [some (.ref l0), some (.ref l1), some (.ref l2), some (.ref l3), some (.int l4), none, none, none, none]) (And.intro (Or.inr rfl) (And.intro (Or.inr rfl) (And.intro (Or.inr rfl) (And.intro (Or.inr rfl) (And.intro (Or.inr rfl) (And.intro (Or.inl rfl) (And.intro (Or.inl rfl) (And.intro (Or.inr rfl) (And.intro (Or.inr rfl) True.intro))))))))) h
                    · have h := h.2 g
                      refine st_const oL_law_512 ?_
                      exact st_zret oL_law_513 (Or.inl rfl) h
                  · have h := h.2 g
                    refine And.intro (fun g => ?_) (fun g => ?_)
                    · have h := h.1 g
                      refine st_aload oL_law_534 rfl ?_
                      refine st_aload oL_law_535 rfl ?_
                      obtain ⟨rs8, h1, h2, h⟩ := h
                      refine st_callS_i [.ref l1, .ref l3] oL_law_536 rfl rfl (ps8 rfl) h1 h2 (pCall_i.mono h (fun v23 M23 h => ?_))
                      refine st_istore (L2 := [some (.ref l0), some (.ref l1), some (.ref l2), some (.ref l3), some (.int l4), some (.int v23), none, none, none]) oL_law_539 (by decide) rfl rfl ?_
                      refine st_aload oL_law_541 rfl ?_
                      obtain ⟨hK, h⟩ := h
                      refine st_callV0_i [] oL_law_542 rfl rfl hK (ps8 rfl) (pCall_i.mono h (fun v24 M24 h => ?_))
                      refine st_istore (L2 := [some (.ref l0), some (.ref l1), some (.ref l2), some (.ref l3), some (.int l4), some (.int v23), some (.int v24), none, none]) oL_law_545 (by decide) rfl rfl ?_
                      refine st_aload oL_law_547 rfl ?_
                      obtain ⟨hK, h⟩ := h
                      refine st_callV0_i [] oL_law_548 rfl rfl hK (ps8 rfl) (pCall_i.mono h (fun v25 M25 h => ?_))
                      refine st_iload oL_law_551 rfl ?_
                      refine st_icmp oL_law_553 (fun g => ?_) (fun g => ?_)
                      · have h := h.1 g
                        refine st_iload oL_law_558 rfl ?_
                        refine st_if oL_law_560 (fun g => ?_) (fun g => ?_)
                        · have h := h.1 g
                          refine st_aload oL_law_563 rfl ?_
                          refine st_const oL_law_564 ?_
                          obtain ⟨n26, hK, hi, h⟩ := h
                          refine st_lald oL_law_565 hK hi ?_
                          refine st_iload oL_law_566 rfl ?_
                          refine st_i2l oL_law_568 ?_
                          refine st_lcmp oL_law_569 ?_
                          refine st_if oL_law_570 (fun g => ?_) (fun g => ?_)
                          · have h := h.1 g
                            exact Go.wk (L := [some (.ref l0), some (.ref l1), some (.ref l2), some (.ref l3), some (.int l4), none, none, none, none]) (And.intro (Or.inr rfl) (And.intro (Or.inr rfl) (And.intro (Or.inr rfl) (And.intro (Or.inr rfl) (And.intro (Or.inr rfl) (And.intro (Or.inl rfl) (And.intro (Or.inl rfl) (And.intro (Or.inr rfl) (And.intro (Or.inr rfl) True.intro))))))))) h
                          · have h := h.2 g
                            refine st_const oL_law_573 ?_
                            exact st_zret oL_law_574 (Or.inl rfl) h
                        · have h := h.2 g
                          exact Go.wk (L := [some (.ref l0), some (.ref l1), some (.ref l2), some (.ref l3), some (.int l4), none, none, none, none]) (And.intro (Or.inr rfl) (And.intro (Or.inr rfl) (And.intro (Or.inr rfl) (And.intro (Or.inr rfl) (And.intro (Or.inr rfl) (And.intro (Or.inl rfl) (And.intro (Or.inl rfl) (And.intro (Or.inr rfl) (And.intro (Or.inr rfl) True.intro))))))))) h
                      · have h := h.2 g
                        refine st_const oL_law_556 ?_
                        exact st_zret oL_law_557 (Or.inl rfl) h
                    · have h := h.2 g
                      refine And.intro (fun g => ?_) (fun g => ?_)
                      · have h := h.1 g
                        refine st_aload oL_law_578 rfl ?_
                        refine st_aload oL_law_579 rfl ?_
                        refine st_iload oL_law_580 rfl ?_
                        refine st_const oL_law_582 ?_
                        refine st_ibin oL_law_583 ?_
                        obtain ⟨n29, hK, hi, h⟩ := h
                        refine st_sald oL_law_584 hK hi ?_
                        refine st_aload oL_law_585 rfl ?_
                        obtain ⟨rs9, h1, h2, h⟩ := h
                        refine st_callS_i [.ref l1, .int (pI M l0 (Int32.toNatClampNeg (l4 + 1))), .ref l3] oL_law_586 rfl rfl (ps8 rfl) h1 h2 (pCall_i.mono h (fun v26 M26 h => ?_))
                        refine st_istore (L2 := [some (.ref l0), some (.ref l1), some (.ref l2), some (.ref l3), some (.int l4), some (.int v26), none, none, none]) oL_law_589 (by decide) rfl rfl ?_
                        refine st_aload oL_law_591 rfl ?_
                        refine st_aload oL_law_592 rfl ?_
                        refine st_iload oL_law_593 rfl ?_
                        refine st_const oL_law_595 ?_
                        refine st_ibin oL_law_596 ?_
                        obtain ⟨n28, hK, hi, h⟩ := h
                        refine st_sald oL_law_597 hK hi ?_
                        obtain ⟨hK, h⟩ := h
                        refine st_callV0_i [.int (pI M26 l0 (Int32.toNatClampNeg (l4 + 1)))] oL_law_598 rfl rfl hK (ps8 rfl) (pCall_i.mono h (fun v27 M27 h => ?_))
                        refine st_istore (L2 := [some (.ref l0), some (.ref l1), some (.ref l2), some (.ref l3), some (.int l4), some (.int v26), some (.int v27), none, none]) oL_law_601 (by decide) rfl rfl ?_
                        refine st_aload oL_law_603 rfl ?_
                        obtain ⟨hK, h⟩ := h
                        refine st_callV0_i [] oL_law_604 rfl rfl hK (ps8 rfl) (pCall_i.mono h (fun v28 M28 h => ?_))
                        refine st_iload oL_law_607 rfl ?_
                        refine st_icmp oL_law_609 (fun g => ?_) (fun g => ?_)
                        · have h := h.1 g
                          refine st_iload oL_law_614 rfl ?_
                          refine st_if oL_law_616 (fun g => ?_) (fun g => ?_)
                          · have h := h.1 g
                            refine st_aload oL_law_619 rfl ?_
                            refine st_const oL_law_620 ?_
                            obtain ⟨n27, hK, hi, h⟩ := h
                            refine st_lald oL_law_621 hK hi ?_
                            refine st_iload oL_law_622 rfl ?_
                            refine st_i2l oL_law_624 ?_
                            refine st_lcmp oL_law_625 ?_
                            refine st_if oL_law_626 (fun g => ?_) (fun g => ?_)
                            · have h := h.1 g
                              exact Go.wk (L := [some (.ref l0), some (.ref l1), some (.ref l2), some (.ref l3), some (.int l4), none, none, none, none]) (And.intro (Or.inr rfl) (And.intro (Or.inr rfl) (And.intro (Or.inr rfl) (And.intro (Or.inr rfl) (And.intro (Or.inr rfl) (And.intro (Or.inl rfl) (And.intro (Or.inl rfl) (And.intro (Or.inr rfl) (And.intro (Or.inr rfl) True.intro))))))))) h
                            · have h := h.2 g
                              refine st_const oL_law_629 ?_
                              exact st_zret oL_law_630 (Or.inl rfl) h
                          · have h := h.2 g
                            exact Go.wk (L := [some (.ref l0), some (.ref l1), some (.ref l2), some (.ref l3), some (.int l4), none, none, none, none]) (And.intro (Or.inr rfl) (And.intro (Or.inr rfl) (And.intro (Or.inr rfl) (And.intro (Or.inr rfl) (And.intro (Or.inr rfl) (And.intro (Or.inl rfl) (And.intro (Or.inl rfl) (And.intro (Or.inr rfl) (And.intro (Or.inr rfl) True.intro))))))))) h
                        · have h := h.2 g
                          refine st_const oL_law_612 ?_
                          exact st_zret oL_law_613 (Or.inl rfl) h
                      · have h := h.2 g
                        refine And.intro (fun g => ?_) (fun g => ?_)
                        · have h := h.1 g
                          refine st_aload oL_law_634 rfl ?_
                          refine st_aload oL_law_635 rfl ?_
                          refine st_iload oL_law_636 rfl ?_
                          refine st_const oL_law_638 ?_
                          refine st_ibin oL_law_639 ?_
                          obtain ⟨n32, hK, hi, h⟩ := h
                          refine st_sald oL_law_640 hK hi ?_
                          refine st_aload oL_law_641 rfl ?_
                          obtain ⟨rs10, h1, h2, h⟩ := h
                          refine st_callS_i [.ref l1, .int (pI M l0 (Int32.toNatClampNeg (l4 + 1))), .ref l3] oL_law_642 rfl rfl (ps8 rfl) h1 h2 (pCall_i.mono h (fun v29 M29 h => ?_))
                          refine st_istore (L2 := [some (.ref l0), some (.ref l1), some (.ref l2), some (.ref l3), some (.int l4), some (.int v29), none, none, none]) oL_law_645 (by decide) rfl rfl ?_
                          refine st_aload oL_law_647 rfl ?_
                          refine st_aload oL_law_648 rfl ?_
                          refine st_iload oL_law_649 rfl ?_
                          refine st_const oL_law_651 ?_
                          refine st_ibin oL_law_652 ?_
                          obtain ⟨n31, hK, hi, h⟩ := h
                          refine st_sald oL_law_653 hK hi ?_
                          obtain ⟨hK, h⟩ := h
                          refine st_callV0_i [.int (pI M29 l0 (Int32.toNatClampNeg (l4 + 1)))] oL_law_654 rfl rfl hK (ps8 rfl) (pCall_i.mono h (fun v30 M30 h => ?_))
                          refine st_istore (L2 := [some (.ref l0), some (.ref l1), some (.ref l2), some (.ref l3), some (.int l4), some (.int v29), some (.int v30), none, none]) oL_law_657 (by decide) rfl rfl ?_
                          refine st_aload oL_law_659 rfl ?_
                          obtain ⟨hK, h⟩ := h
                          refine st_callV0_i [] oL_law_660 rfl rfl hK (ps8 rfl) (pCall_i.mono h (fun v31 M31 h => ?_))
                          refine st_iload oL_law_663 rfl ?_
                          refine st_icmp oL_law_665 (fun g => ?_) (fun g => ?_)
                          · have h := h.1 g
                            refine st_iload oL_law_670 rfl ?_
                            refine st_if oL_law_672 (fun g => ?_) (fun g => ?_)
                            · have h := h.1 g
                              refine st_aload oL_law_675 rfl ?_
                              refine st_const oL_law_676 ?_
                              obtain ⟨n30, hK, hi, h⟩ := h
                              refine st_lald oL_law_677 hK hi ?_
                              refine st_iload oL_law_678 rfl ?_
                              refine st_i2l oL_law_680 ?_
                              refine st_lcmp oL_law_681 ?_
                              refine st_if oL_law_682 (fun g => ?_) (fun g => ?_)
                              · have h := h.1 g
                                exact Go.wk (L := [some (.ref l0), some (.ref l1), some (.ref l2), some (.ref l3), some (.int l4), none, none, none, none]) (And.intro (Or.inr rfl) (And.intro (Or.inr rfl) (And.intro (Or.inr rfl) (And.intro (Or.inr rfl) (And.intro (Or.inr rfl) (And.intro (Or.inl rfl) (And.intro (Or.inl rfl) (And.intro (Or.inr rfl) (And.intro (Or.inr rfl) True.intro))))))))) h
                              · have h := h.2 g
                                refine st_const oL_law_685 ?_
                                exact st_zret oL_law_686 (Or.inl rfl) h
                            · have h := h.2 g
                              exact Go.wk (L := [some (.ref l0), some (.ref l1), some (.ref l2), some (.ref l3), some (.int l4), none, none, none, none]) (And.intro (Or.inr rfl) (And.intro (Or.inr rfl) (And.intro (Or.inr rfl) (And.intro (Or.inr rfl) (And.intro (Or.inr rfl) (And.intro (Or.inl rfl) (And.intro (Or.inl rfl) (And.intro (Or.inr rfl) (And.intro (Or.inr rfl) True.intro))))))))) h
                          · have h := h.2 g
                            refine st_const oL_law_668 ?_
                            exact st_zret oL_law_669 (Or.inl rfl) h
                        · have h := h.2 g
                          refine And.intro (fun g => ?_) (fun g => ?_)
                          · have h := h.1 g
                            refine st_aload oL_law_690 rfl ?_
                            refine st_aload oL_law_691 rfl ?_
                            refine st_iload oL_law_692 rfl ?_
                            refine st_const oL_law_694 ?_
                            refine st_ibin oL_law_695 ?_
                            obtain ⟨n37, hK, hi, h⟩ := h
                            refine st_sald oL_law_696 hK hi ?_
                            refine st_aload oL_law_697 rfl ?_
                            refine st_iload oL_law_698 rfl ?_
                            refine st_const oL_law_700 ?_
                            refine st_ibin oL_law_701 ?_
                            obtain ⟨n36, hK, hi, h⟩ := h
                            refine st_sald oL_law_702 hK hi ?_
                            refine st_aload oL_law_703 rfl ?_
                            obtain ⟨rs11, h1, h2, h⟩ := h
                            refine st_callS_i [.ref l1, .int (pI M l0 (Int32.toNatClampNeg (l4 + 1))), .int (pI M l0 (Int32.toNatClampNeg (l4 + 2))), .ref l3] oL_law_704 rfl rfl (ps8 rfl) h1 h2 (pCall_i.mono h (fun v32 M32 h => ?_))
                            refine st_istore (L2 := [some (.ref l0), some (.ref l1), some (.ref l2), some (.ref l3), some (.int l4), some (.int v32), none, none, none]) oL_law_707 (by decide) rfl rfl ?_
                            refine st_aload oL_law_709 rfl ?_
                            refine st_aload oL_law_710 rfl ?_
                            refine st_iload oL_law_711 rfl ?_
                            refine st_const oL_law_713 ?_
                            refine st_ibin oL_law_714 ?_
                            obtain ⟨n35, hK, hi, h⟩ := h
                            refine st_sald oL_law_715 hK hi ?_
                            refine st_aload oL_law_716 rfl ?_
                            refine st_iload oL_law_717 rfl ?_
                            refine st_const oL_law_719 ?_
                            refine st_ibin oL_law_720 ?_
                            obtain ⟨n34, hK, hi, h⟩ := h
                            refine st_sald oL_law_721 hK hi ?_
                            obtain ⟨hK, h⟩ := h
                            refine st_callV0_i [.int (pI M32 l0 (Int32.toNatClampNeg (l4 + 1))), .int (pI M32 l0 (Int32.toNatClampNeg (l4 + 2)))] oL_law_722 rfl rfl hK (ps8 rfl) (pCall_i.mono h (fun v33 M33 h => ?_))
                            refine st_istore (L2 := [some (.ref l0), some (.ref l1), some (.ref l2), some (.ref l3), some (.int l4), some (.int v32), some (.int v33), none, none]) oL_law_725 (by decide) rfl rfl ?_
                            refine st_aload oL_law_727 rfl ?_
                            obtain ⟨hK, h⟩ := h
                            refine st_callV0_i [] oL_law_728 rfl rfl hK (ps8 rfl) (pCall_i.mono h (fun v34 M34 h => ?_))
                            refine st_iload oL_law_731 rfl ?_
                            refine st_icmp oL_law_733 (fun g => ?_) (fun g => ?_)
                            · have h := h.1 g
                              refine st_iload oL_law_738 rfl ?_
                              refine st_if oL_law_740 (fun g => ?_) (fun g => ?_)
                              · have h := h.1 g
                                refine st_aload oL_law_743 rfl ?_
                                refine st_const oL_law_744 ?_
                                obtain ⟨n33, hK, hi, h⟩ := h
                                refine st_lald oL_law_745 hK hi ?_
                                refine st_iload oL_law_746 rfl ?_
                                refine st_i2l oL_law_748 ?_
                                refine st_lcmp oL_law_749 ?_
                                refine st_if oL_law_750 (fun g => ?_) (fun g => ?_)
                                · have h := h.1 g
                                  exact Go.wk (L := [some (.ref l0), some (.ref l1), some (.ref l2), some (.ref l3), some (.int l4), none, none, none, none]) (And.intro (Or.inr rfl) (And.intro (Or.inr rfl) (And.intro (Or.inr rfl) (And.intro (Or.inr rfl) (And.intro (Or.inr rfl) (And.intro (Or.inl rfl) (And.intro (Or.inl rfl) (And.intro (Or.inr rfl) (And.intro (Or.inr rfl) True.intro))))))))) h
                                · have h := h.2 g
                                  refine st_const oL_law_753 ?_
                                  exact st_zret oL_law_754 (Or.inl rfl) h
                              · have h := h.2 g
                                exact Go.wk (L := [some (.ref l0), some (.ref l1), some (.ref l2), some (.ref l3), some (.int l4), none, none, none, none]) (And.intro (Or.inr rfl) (And.intro (Or.inr rfl) (And.intro (Or.inr rfl) (And.intro (Or.inr rfl) (And.intro (Or.inr rfl) (And.intro (Or.inl rfl) (And.intro (Or.inl rfl) (And.intro (Or.inr rfl) (And.intro (Or.inr rfl) True.intro))))))))) h
                            · have h := h.2 g
                              refine st_const oL_law_736 ?_
                              exact st_zret oL_law_737 (Or.inl rfl) h
                          · have h := h.2 g
                            refine And.intro (fun g => ?_) (fun g => ?_)
                            · have h := h.1 g
                              refine st_aload oL_law_758 rfl ?_
                              refine st_aload oL_law_759 rfl ?_
                              refine st_iload oL_law_760 rfl ?_
                              refine st_const oL_law_762 ?_
                              refine st_ibin oL_law_763 ?_
                              obtain ⟨n42, hK, hi, h⟩ := h
                              refine st_sald oL_law_764 hK hi ?_
                              refine st_aload oL_law_765 rfl ?_
                              refine st_iload oL_law_766 rfl ?_
                              refine st_const oL_law_768 ?_
                              refine st_ibin oL_law_769 ?_
                              obtain ⟨n41, hK, hi, h⟩ := h
                              refine st_sald oL_law_770 hK hi ?_
                              refine st_aload oL_law_771 rfl ?_
                              obtain ⟨rs12, h1, h2, h⟩ := h
                              refine st_callS_i [.ref l1, .int (pI M l0 (Int32.toNatClampNeg (l4 + 1))), .int (pI M l0 (Int32.toNatClampNeg (l4 + 2))), .ref l3] oL_law_772 rfl rfl (ps8 rfl) h1 h2 (pCall_i.mono h (fun v35 M35 h => ?_))
                              refine st_istore (L2 := [some (.ref l0), some (.ref l1), some (.ref l2), some (.ref l3), some (.int l4), some (.int v35), none, none, none]) oL_law_775 (by decide) rfl rfl ?_
                              refine st_aload oL_law_777 rfl ?_
                              refine st_aload oL_law_778 rfl ?_
                              refine st_iload oL_law_779 rfl ?_
                              refine st_const oL_law_781 ?_
                              refine st_ibin oL_law_782 ?_
                              obtain ⟨n40, hK, hi, h⟩ := h
                              refine st_sald oL_law_783 hK hi ?_
                              refine st_aload oL_law_784 rfl ?_
                              refine st_iload oL_law_785 rfl ?_
                              refine st_const oL_law_787 ?_
                              refine st_ibin oL_law_788 ?_
                              obtain ⟨n39, hK, hi, h⟩ := h
                              refine st_sald oL_law_789 hK hi ?_
                              obtain ⟨hK, h⟩ := h
                              refine st_callV0_i [.int (pI M35 l0 (Int32.toNatClampNeg (l4 + 1))), .int (pI M35 l0 (Int32.toNatClampNeg (l4 + 2)))] oL_law_790 rfl rfl hK (ps8 rfl) (pCall_i.mono h (fun v36 M36 h => ?_))
                              refine st_istore (L2 := [some (.ref l0), some (.ref l1), some (.ref l2), some (.ref l3), some (.int l4), some (.int v35), some (.int v36), none, none]) oL_law_793 (by decide) rfl rfl ?_
                              refine st_aload oL_law_795 rfl ?_
                              obtain ⟨hK, h⟩ := h
                              refine st_callV0_i [] oL_law_796 rfl rfl hK (ps8 rfl) (pCall_i.mono h (fun v37 M37 h => ?_))
                              refine st_iload oL_law_799 rfl ?_
                              refine st_icmp oL_law_801 (fun g => ?_) (fun g => ?_)
                              · have h := h.1 g
                                refine st_iload oL_law_806 rfl ?_
                                refine st_if oL_law_808 (fun g => ?_) (fun g => ?_)
                                · have h := h.1 g
                                  refine st_aload oL_law_811 rfl ?_
                                  refine st_const oL_law_812 ?_
                                  obtain ⟨n38, hK, hi, h⟩ := h
                                  refine st_lald oL_law_813 hK hi ?_
                                  refine st_iload oL_law_814 rfl ?_
                                  refine st_i2l oL_law_816 ?_
                                  refine st_lcmp oL_law_817 ?_
                                  refine st_if oL_law_818 (fun g => ?_) (fun g => ?_)
                                  · have h := h.1 g
                                    exact Go.wk (L := [some (.ref l0), some (.ref l1), some (.ref l2), some (.ref l3), some (.int l4), none, none, none, none]) (And.intro (Or.inr rfl) (And.intro (Or.inr rfl) (And.intro (Or.inr rfl) (And.intro (Or.inr rfl) (And.intro (Or.inr rfl) (And.intro (Or.inl rfl) (And.intro (Or.inl rfl) (And.intro (Or.inr rfl) (And.intro (Or.inr rfl) True.intro))))))))) h
                                  · have h := h.2 g
                                    refine st_const oL_law_821 ?_
                                    exact st_zret oL_law_822 (Or.inl rfl) h
                                · have h := h.2 g
                                  exact Go.wk (L := [some (.ref l0), some (.ref l1), some (.ref l2), some (.ref l3), some (.int l4), none, none, none, none]) (And.intro (Or.inr rfl) (And.intro (Or.inr rfl) (And.intro (Or.inr rfl) (And.intro (Or.inr rfl) (And.intro (Or.inr rfl) (And.intro (Or.inl rfl) (And.intro (Or.inl rfl) (And.intro (Or.inr rfl) (And.intro (Or.inr rfl) True.intro))))))))) h
                              · have h := h.2 g
                                refine st_const oL_law_804 ?_
                                exact st_zret oL_law_805 (Or.inl rfl) h
                            · have h := h.2 g
                              refine And.intro (fun g => ?_) (fun g => ?_)
                              · have h := h.1 g
                                refine st_aload oL_law_826 rfl ?_
                                refine st_aload oL_law_827 rfl ?_
                                refine st_iload oL_law_828 rfl ?_
                                refine st_const oL_law_830 ?_
                                refine st_ibin oL_law_831 ?_
                                obtain ⟨n46, hK, hi, h⟩ := h
                                refine st_sald oL_law_832 hK hi ?_
                                refine st_aload oL_law_833 rfl ?_
                                refine st_iload oL_law_834 rfl ?_
                                refine st_const oL_law_836 ?_
                                refine st_ibin oL_law_837 ?_
                                obtain ⟨n45, hK, hi, h⟩ := h
                                refine st_sald oL_law_838 hK hi ?_
                                obtain ⟨hK, h⟩ := h
                                refine st_callV0_i [.int (pI M l0 (Int32.toNatClampNeg (l4 + 1))), .int (pI M l0 (Int32.toNatClampNeg (l4 + 2)))] oL_law_839 rfl rfl hK (ps8 rfl) (pCall_i.mono h (fun v38 M38 h => ?_))
                                refine st_aload oL_law_842 rfl ?_
                                refine st_aload oL_law_843 rfl ?_
                                refine st_iload oL_law_844 rfl ?_
                                refine st_const oL_law_846 ?_
                                refine st_ibin oL_law_847 ?_
                                obtain ⟨n44, hK, hi, h⟩ := h
                                refine st_sald oL_law_848 hK hi ?_
                                refine st_aload oL_law_849 rfl ?_
                                refine st_iload oL_law_850 rfl ?_
                                refine st_const oL_law_852 ?_
                                refine st_ibin oL_law_853 ?_
                                obtain ⟨n43, hK, hi, h⟩ := h
                                refine st_sald oL_law_854 hK hi ?_
                                obtain ⟨hK, h⟩ := h
                                refine st_callV0_i [.int (pI M38 l0 (Int32.toNatClampNeg (l4 + 1))), .int (pI M38 l0 (Int32.toNatClampNeg (l4 + 2)))] oL_law_855 rfl rfl hK (ps8 rfl) (pCall_i.mono h (fun v39 M39 h => ?_))
                                refine st_icmp oL_law_858 (fun g => ?_) (fun g => ?_)
                                · have h := h.1 g
                                  exact h
                                · have h := h.2 g
                                  refine st_const oL_law_861 ?_
                                  exact st_zret oL_law_862 (Or.inl rfl) h
                              · have h := h.2 g
                                refine And.intro (fun g => ?_) (fun g => ?_)
                                · have h := h.1 g
                                  refine st_aload oL_law_863 rfl ?_
                                  obtain ⟨hK, h⟩ := h
                                  refine st_callV0_i [] oL_law_864 rfl rfl hK (ps8 rfl) (pCall_i.mono h (fun v40 M40 h => ?_))
                                  refine st_aload oL_law_867 rfl ?_
                                  obtain ⟨hK, h⟩ := h
                                  refine st_callV0_i [] oL_law_868 rfl rfl hK (ps8 rfl) (pCall_i.mono h (fun v41 M41 h => ?_))
                                  refine st_icmp oL_law_871 (fun g => ?_) (fun g => ?_)
                                  · have h := h.1 g
                                    exact h
                                  · have h := h.2 g
                                    refine st_const oL_law_874 ?_
                                    exact st_zret oL_law_875 (Or.inl rfl) h
                                · have h := h.2 g
                                  refine And.intro (fun g => ?_) (fun g => ?_)
                                  · have h := h.1 g
                                    refine st_aload oL_law_876 rfl ?_
                                    refine st_aload oL_law_877 rfl ?_
                                    refine st_iload oL_law_878 rfl ?_
                                    refine st_const oL_law_880 ?_
                                    refine st_ibin oL_law_881 ?_
                                    obtain ⟨n49, hK, hi, h⟩ := h
                                    refine st_sald oL_law_882 hK hi ?_
                                    refine st_aload oL_law_883 rfl ?_
                                    obtain ⟨rs13, h1, h2, h⟩ := h
                                    refine st_callS_i [.ref l1, .int (pI M l0 (Int32.toNatClampNeg (l4 + 1))), .ref l3] oL_law_884 rfl rfl (ps8 rfl) h1 h2 (pCall_i.mono h (fun v42 M42 h => ?_))
                                    refine st_istore (L2 := [some (.ref l0), some (.ref l1), some (.ref l2), some (.ref l3), some (.int l4), some (.int v42), none, none, none]) oL_law_887 (by decide) rfl rfl ?_
                                    refine st_aload oL_law_889 rfl ?_
                                    refine st_aload oL_law_890 rfl ?_
                                    refine st_iload oL_law_891 rfl ?_
                                    refine st_const oL_law_893 ?_
                                    refine st_ibin oL_law_894 ?_
                                    obtain ⟨n48, hK, hi, h⟩ := h
                                    refine st_sald oL_law_895 hK hi ?_
                                    obtain ⟨hK, h⟩ := h
                                    refine st_callV0_i [.int (pI M42 l0 (Int32.toNatClampNeg (l4 + 1)))] oL_law_896 rfl rfl hK (ps8 rfl) (pCall_i.mono h (fun v43 M43 h => ?_))
                                    refine st_istore (L2 := [some (.ref l0), some (.ref l1), some (.ref l2), some (.ref l3), some (.int l4), some (.int v42), some (.int v43), none, none]) oL_law_899 (by decide) rfl rfl ?_
                                    refine st_aload oL_law_901 rfl ?_
                                    obtain ⟨hK, h⟩ := h
                                    refine st_callV0_i [] oL_law_902 rfl rfl hK (ps8 rfl) (pCall_i.mono h (fun v44 M44 h => ?_))
                                    refine st_iload oL_law_905 rfl ?_
                                    refine st_icmp oL_law_907 (fun g => ?_) (fun g => ?_)
                                    · have h := h.1 g
                                      refine st_iload oL_law_912 rfl ?_
                                      refine st_if oL_law_914 (fun g => ?_) (fun g => ?_)
                                      · have h := h.1 g
                                        refine st_aload oL_law_917 rfl ?_
                                        refine st_const oL_law_918 ?_
                                        obtain ⟨n47, hK, hi, h⟩ := h
                                        refine st_lald oL_law_919 hK hi ?_
                                        refine st_iload oL_law_920 rfl ?_
                                        refine st_i2l oL_law_922 ?_
                                        refine st_lcmp oL_law_923 ?_
                                        refine st_if oL_law_924 (fun g => ?_) (fun g => ?_)
                                        · have h := h.1 g
                                          exact Go.wk (L := [some (.ref l0), some (.ref l1), some (.ref l2), some (.ref l3), some (.int l4), none, none, none, none]) (And.intro (Or.inr rfl) (And.intro (Or.inr rfl) (And.intro (Or.inr rfl) (And.intro (Or.inr rfl) (And.intro (Or.inr rfl) (And.intro (Or.inl rfl) (And.intro (Or.inl rfl) (And.intro (Or.inr rfl) (And.intro (Or.inr rfl) True.intro))))))))) h
                                        · have h := h.2 g
                                          refine st_const oL_law_927 ?_
                                          exact st_zret oL_law_928 (Or.inl rfl) h
                                      · have h := h.2 g
                                        exact Go.wk (L := [some (.ref l0), some (.ref l1), some (.ref l2), some (.ref l3), some (.int l4), none, none, none, none]) (And.intro (Or.inr rfl) (And.intro (Or.inr rfl) (And.intro (Or.inr rfl) (And.intro (Or.inr rfl) (And.intro (Or.inr rfl) (And.intro (Or.inl rfl) (And.intro (Or.inl rfl) (And.intro (Or.inr rfl) (And.intro (Or.inr rfl) True.intro))))))))) h
                                    · have h := h.2 g
                                      refine st_const oL_law_910 ?_
                                      exact st_zret oL_law_911 (Or.inl rfl) h
                                  · have h := h.2 g
                                    refine And.intro (fun g => ?_) (fun g => ?_)
                                    · have h := h.1 g
                                      refine st_aload oL_law_932 rfl ?_
                                      refine st_aload oL_law_933 rfl ?_
                                      refine st_iload oL_law_934 rfl ?_
                                      refine st_const oL_law_936 ?_
                                      refine st_ibin oL_law_937 ?_
                                      obtain ⟨n52, hK, hi, h⟩ := h
                                      refine st_sald oL_law_938 hK hi ?_
                                      refine st_aload oL_law_939 rfl ?_
                                      obtain ⟨rs14, h1, h2, h⟩ := h
                                      refine st_callS_i [.ref l1, .int (pI M l0 (Int32.toNatClampNeg (l4 + 1))), .ref l3] oL_law_940 rfl rfl (ps8 rfl) h1 h2 (pCall_i.mono h (fun v45 M45 h => ?_))
                                      refine st_istore (L2 := [some (.ref l0), some (.ref l1), some (.ref l2), some (.ref l3), some (.int l4), some (.int v45), none, none, none]) oL_law_943 (by decide) rfl rfl ?_
                                      refine st_aload oL_law_945 rfl ?_
                                      refine st_aload oL_law_946 rfl ?_
                                      refine st_iload oL_law_947 rfl ?_
                                      refine st_const oL_law_949 ?_
                                      refine st_ibin oL_law_950 ?_
                                      obtain ⟨n51, hK, hi, h⟩ := h
                                      refine st_sald oL_law_951 hK hi ?_
                                      obtain ⟨hK, h⟩ := h
                                      refine st_callV0_i [.int (pI M45 l0 (Int32.toNatClampNeg (l4 + 1)))] oL_law_952 rfl rfl hK (ps8 rfl) (pCall_i.mono h (fun v46 M46 h => ?_))
                                      refine st_istore (L2 := [some (.ref l0), some (.ref l1), some (.ref l2), some (.ref l3), some (.int l4), some (.int v45), some (.int v46), none, none]) oL_law_955 (by decide) rfl rfl ?_
                                      refine st_aload oL_law_957 rfl ?_
                                      obtain ⟨hK, h⟩ := h
                                      refine st_callV0_i [] oL_law_958 rfl rfl hK (ps8 rfl) (pCall_i.mono h (fun v47 M47 h => ?_))
                                      refine st_iload oL_law_961 rfl ?_
                                      refine st_icmp oL_law_963 (fun g => ?_) (fun g => ?_)
                                      · have h := h.1 g
                                        refine st_iload oL_law_968 rfl ?_
                                        refine st_if oL_law_970 (fun g => ?_) (fun g => ?_)
                                        · have h := h.1 g
                                          refine st_aload oL_law_973 rfl ?_
                                          refine st_const oL_law_974 ?_
                                          obtain ⟨n50, hK, hi, h⟩ := h
                                          refine st_lald oL_law_975 hK hi ?_
                                          refine st_iload oL_law_976 rfl ?_
                                          refine st_i2l oL_law_978 ?_
                                          refine st_lcmp oL_law_979 ?_
                                          refine st_if oL_law_980 (fun g => ?_) (fun g => ?_)
                                          · have h := h.1 g
                                            exact Go.wk (L := [some (.ref l0), some (.ref l1), some (.ref l2), some (.ref l3), some (.int l4), none, none, none, none]) (And.intro (Or.inr rfl) (And.intro (Or.inr rfl) (And.intro (Or.inr rfl) (And.intro (Or.inr rfl) (And.intro (Or.inr rfl) (And.intro (Or.inl rfl) (And.intro (Or.inl rfl) (And.intro (Or.inr rfl) (And.intro (Or.inr rfl) True.intro))))))))) h
                                          · have h := h.2 g
                                            refine st_const oL_law_983 ?_
                                            exact st_zret oL_law_984 (Or.inl rfl) h
                                        · have h := h.2 g
                                          exact Go.wk (L := [some (.ref l0), some (.ref l1), some (.ref l2), some (.ref l3), some (.int l4), none, none, none, none]) (And.intro (Or.inr rfl) (And.intro (Or.inr rfl) (And.intro (Or.inr rfl) (And.intro (Or.inr rfl) (And.intro (Or.inr rfl) (And.intro (Or.inl rfl) (And.intro (Or.inl rfl) (And.intro (Or.inr rfl) (And.intro (Or.inr rfl) True.intro))))))))) h
                                      · have h := h.2 g
                                        refine st_const oL_law_966 ?_
                                        exact st_zret oL_law_967 (Or.inl rfl) h
                                    · have h := h.2 g
                                      refine And.intro (fun g => ?_) (fun g => ?_)
                                      · have h := h.1 g
                                        refine st_aload oL_law_988 rfl ?_
                                        refine st_aload oL_law_989 rfl ?_
                                        refine st_iload oL_law_990 rfl ?_
                                        refine st_const oL_law_992 ?_
                                        refine st_ibin oL_law_993 ?_
                                        obtain ⟨n55, hK, hi, h⟩ := h
                                        refine st_sald oL_law_994 hK hi ?_
                                        refine st_aload oL_law_995 rfl ?_
                                        obtain ⟨rs15, h1, h2, h⟩ := h
                                        refine st_callS_i [.ref l1, .int (pI M l0 (Int32.toNatClampNeg (l4 + 1))), .ref l3] oL_law_996 rfl rfl (ps8 rfl) h1 h2 (pCall_i.mono h (fun v48 M48 h => ?_))
                                        refine st_istore (L2 := [some (.ref l0), some (.ref l1), some (.ref l2), some (.ref l3), some (.int l4), some (.int v48), none, none, none]) oL_law_999 (by decide) rfl rfl ?_
                                        refine st_aload oL_law_1001 rfl ?_
                                        refine st_aload oL_law_1002 rfl ?_
                                        refine st_iload oL_law_1003 rfl ?_
                                        refine st_const oL_law_1005 ?_
                                        refine st_ibin oL_law_1006 ?_
                                        obtain ⟨n54, hK, hi, h⟩ := h
                                        refine st_sald oL_law_1007 hK hi ?_
                                        obtain ⟨hK, h⟩ := h
                                        refine st_callV0_i [.int (pI M48 l0 (Int32.toNatClampNeg (l4 + 1)))] oL_law_1008 rfl rfl hK (ps8 rfl) (pCall_i.mono h (fun v49 M49 h => ?_))
                                        refine st_istore (L2 := [some (.ref l0), some (.ref l1), some (.ref l2), some (.ref l3), some (.int l4), some (.int v48), some (.int v49), none, none]) oL_law_1011 (by decide) rfl rfl ?_
                                        refine st_aload oL_law_1013 rfl ?_
                                        obtain ⟨hK, h⟩ := h
                                        refine st_callV0_i [] oL_law_1014 rfl rfl hK (ps8 rfl) (pCall_i.mono h (fun v50 M50 h => ?_))
                                        refine st_iload oL_law_1017 rfl ?_
                                        refine st_icmp oL_law_1019 (fun g => ?_) (fun g => ?_)
                                        · have h := h.1 g
                                          refine st_iload oL_law_1024 rfl ?_
                                          refine st_if oL_law_1026 (fun g => ?_) (fun g => ?_)
                                          · have h := h.1 g
                                            refine st_aload oL_law_1029 rfl ?_
                                            refine st_const oL_law_1030 ?_
                                            obtain ⟨n53, hK, hi, h⟩ := h
                                            refine st_lald oL_law_1031 hK hi ?_
                                            refine st_iload oL_law_1032 rfl ?_
                                            refine st_i2l oL_law_1034 ?_
                                            refine st_lcmp oL_law_1035 ?_
                                            refine st_if oL_law_1036 (fun g => ?_) (fun g => ?_)
                                            · have h := h.1 g
                                              exact Go.wk (L := [some (.ref l0), some (.ref l1), some (.ref l2), some (.ref l3), some (.int l4), none, none, none, none]) (And.intro (Or.inr rfl) (And.intro (Or.inr rfl) (And.intro (Or.inr rfl) (And.intro (Or.inr rfl) (And.intro (Or.inr rfl) (And.intro (Or.inl rfl) (And.intro (Or.inl rfl) (And.intro (Or.inr rfl) (And.intro (Or.inr rfl) True.intro))))))))) h
                                            · have h := h.2 g
                                              refine st_const oL_law_1039 ?_
                                              exact st_zret oL_law_1040 (Or.inl rfl) h
                                          · have h := h.2 g
                                            exact Go.wk (L := [some (.ref l0), some (.ref l1), some (.ref l2), some (.ref l3), some (.int l4), none, none, none, none]) (And.intro (Or.inr rfl) (And.intro (Or.inr rfl) (And.intro (Or.inr rfl) (And.intro (Or.inr rfl) (And.intro (Or.inr rfl) (And.intro (Or.inl rfl) (And.intro (Or.inl rfl) (And.intro (Or.inr rfl) (And.intro (Or.inr rfl) True.intro))))))))) h
                                        · have h := h.2 g
                                          refine st_const oL_law_1022 ?_
                                          exact st_zret oL_law_1023 (Or.inl rfl) h
                                      · have h := h.2 g
                                        refine And.intro (fun g => ?_) (fun g => ?_)
                                        · have h := h.1 g
                                          refine st_aload oL_law_1044 rfl ?_
                                          obtain ⟨hK, h⟩ := h
                                          refine st_callV0_d [] oL_law_1045 rfl rfl hK (ps8 rfl) (pCall_d.mono h (fun v51 M51 h => ?_))
                                          refine st_dstore (L2 := [some (.ref l0), some (.ref l1), some (.ref l2), some (.ref l3), some (.int l4), some (.double v51), none, none, none]) oL_law_1048 (by decide) rfl rfl ?_
                                          refine st_aload oL_law_1050 rfl ?_
                                          obtain ⟨hK, h⟩ := h
                                          refine st_callV0_d [] oL_law_1051 rfl rfl hK (ps8 rfl) (pCall_d.mono h (fun v52 M52 h => ?_))
                                          refine st_dstore (L2 := [some (.ref l0), some (.ref l1), some (.ref l2), some (.ref l3), some (.int l4), some (.double v51), none, some (.double v52), none]) oL_law_1054 (by decide) rfl rfl ?_
                                          refine st_dload oL_law_1056 rfl ?_
                                          refine st_dload oL_law_1058 rfl ?_
                                          refine st_dcmp oL_law_1060 ?_
                                          refine st_if oL_law_1061 (fun g => ?_) (fun g => ?_)
                                          · have h := h.1 g
                                            exact Go.wk (L := [some (.ref l0), some (.ref l1), some (.ref l2), some (.ref l3), some (.int l4), none, none, none, none]) (And.intro (Or.inr rfl) (And.intro (Or.inr rfl) (And.intro (Or.inr rfl) (And.intro (Or.inr rfl) (And.intro (Or.inr rfl) (And.intro (Or.inl rfl) (And.intro (Or.inr rfl) (And.intro (Or.inl rfl) (And.intro (Or.inr rfl) True.intro))))))))) h
                                          · have h := h.2 g
                                            refine st_dload oL_law_1064 rfl ?_
                                            refine st_dload oL_law_1066 rfl ?_
                                            refine st_dcmp oL_law_1068 ?_
                                            refine st_if oL_law_1069 (fun g => ?_) (fun g => ?_)
                                            · have h := h.1 g
                                              refine st_const oL_law_1080 ?_
                                              exact st_zret oL_law_1081 (Or.inl rfl) h
                                            · have h := h.2 g
                                              refine st_dload oL_law_1072 rfl ?_
                                              refine st_dload oL_law_1074 rfl ?_
                                              refine st_dcmp oL_law_1076 ?_
                                              refine st_if oL_law_1077 (fun g => ?_) (fun g => ?_)
                                              · have h := h.1 g
                                                refine st_const oL_law_1080 ?_
                                                exact st_zret oL_law_1081 (Or.inl rfl) h
                                              · have h := h.2 g
                                                exact Go.wk (L := [some (.ref l0), some (.ref l1), some (.ref l2), some (.ref l3), some (.int l4), none, none, none, none]) (And.intro (Or.inr rfl) (And.intro (Or.inr rfl) (And.intro (Or.inr rfl) (And.intro (Or.inr rfl) (And.intro (Or.inr rfl) (And.intro (Or.inl rfl) (And.intro (Or.inr rfl) (And.intro (Or.inl rfl) (And.intro (Or.inr rfl) True.intro))))))))) h
                                        · have h := h.2 g
                                          refine And.intro (fun g => ?_) (fun g => ?_)
                                          · have h := h.1 g
                                            refine st_aload oL_law_1085 rfl ?_
                                            obtain ⟨hK, h⟩ := h
                                            refine st_callV0_l [] oL_law_1086 rfl rfl hK (ps8 rfl) (pCall_l.mono h (fun v53 M53 h => ?_))
                                            refine st_aload oL_law_1089 rfl ?_
                                            obtain ⟨hK, h⟩ := h
                                            refine st_callV0_l [] oL_law_1090 rfl rfl hK (ps8 rfl) (pCall_l.mono h (fun v54 M54 h => ?_))
                                            refine st_lcmp oL_law_1093 ?_
                                            refine st_if oL_law_1094 (fun g => ?_) (fun g => ?_)
                                            · have h := h.1 g
                                              exact h
                                            · have h := h.2 g
                                              refine st_const oL_law_1097 ?_
                                              exact st_zret oL_law_1098 (Or.inl rfl) h
                                          · have h := h.2 g
                                            exact h
theorem bL_law_237 {d : Nat} {Q : pR → pM → Prop} {c s : Nat} {M : pM} {l0 : Nat} {l1 : Nat} {l2 : Nat} {l3 : Nat} {l4 : Int32} (h : Go d mL_law Q 1099 ([some (.ref l0), some (.ref l1), some (.ref l2), some (.ref l3), some (.int l4), none, none, none, none], [], c, s) M) : Go d mL_law Q 237 ([some (.ref l0), some (.ref l1), some (.ref l2), some (.ref l3), some (.int l4), none, none, none, none], [], c, s) M := by
  refine st_goto oL_law_237 ?_
  exact h
theorem bL_law_293 {d : Nat} {Q : pR → pM → Prop} {c s : Nat} {M : pM} {l0 : Nat} {l1 : Nat} {l2 : Nat} {l3 : Nat} {l4 : Int32} (h : Go d mL_law Q 1099 ([some (.ref l0), some (.ref l1), some (.ref l2), some (.ref l3), some (.int l4), none, none, none, none], [], c, s) M) : Go d mL_law Q 293 ([some (.ref l0), some (.ref l1), some (.ref l2), some (.ref l3), some (.int l4), none, none, none, none], [], c, s) M := by
  refine st_goto oL_law_293 ?_
  exact h
theorem bL_law_375 {d : Nat} {Q : pR → pM → Prop} {c s : Nat} {M : pM} {l0 : Nat} {l1 : Nat} {l2 : Nat} {l3 : Nat} {l4 : Int32} (h : Go d mL_law Q 1099 ([some (.ref l0), some (.ref l1), some (.ref l2), some (.ref l3), some (.int l4), none, none, none, none], [], c, s) M) : Go d mL_law Q 375 ([some (.ref l0), some (.ref l1), some (.ref l2), some (.ref l3), some (.int l4), none, none, none, none], [], c, s) M := by
  refine st_goto oL_law_375 ?_
  exact h
theorem bL_law_431 {d : Nat} {Q : pR → pM → Prop} {c s : Nat} {M : pM} {l0 : Nat} {l1 : Nat} {l2 : Nat} {l3 : Nat} {l4 : Int32} (h : Go d mL_law Q 1099 ([some (.ref l0), some (.ref l1), some (.ref l2), some (.ref l3), some (.int l4), none, none, none, none], [], c, s) M) : Go d mL_law Q 431 ([some (.ref l0), some (.ref l1), some (.ref l2), some (.ref l3), some (.int l4), none, none, none, none], [], c, s) M := by
  refine st_goto oL_law_431 ?_
  exact h
theorem bL_law_475 {d : Nat} {Q : pR → pM → Prop} {c s : Nat} {M : pM} {l0 : Nat} {l1 : Nat} {l2 : Nat} {l3 : Nat} {l4 : Int32} (h : Go d mL_law Q 1099 ([some (.ref l0), some (.ref l1), some (.ref l2), some (.ref l3), some (.int l4), none, none, none, none], [], c, s) M) : Go d mL_law Q 475 ([some (.ref l0), some (.ref l1), some (.ref l2), some (.ref l3), some (.int l4), none, none, none, none], [], c, s) M := by
  refine st_goto oL_law_475 ?_
  exact h
theorem bL_law_531 {d : Nat} {Q : pR → pM → Prop} {c s : Nat} {M : pM} {l0 : Nat} {l1 : Nat} {l2 : Nat} {l3 : Nat} {l4 : Int32} (h : Go d mL_law Q 1099 ([some (.ref l0), some (.ref l1), some (.ref l2), some (.ref l3), some (.int l4), none, none, none, none], [], c, s) M) : Go d mL_law Q 531 ([some (.ref l0), some (.ref l1), some (.ref l2), some (.ref l3), some (.int l4), none, none, none, none], [], c, s) M := by
  refine st_goto oL_law_531 ?_
  exact h
theorem bL_law_575 {d : Nat} {Q : pR → pM → Prop} {c s : Nat} {M : pM} {l0 : Nat} {l1 : Nat} {l2 : Nat} {l3 : Nat} {l4 : Int32} (h : Go d mL_law Q 1099 ([some (.ref l0), some (.ref l1), some (.ref l2), some (.ref l3), some (.int l4), none, none, none, none], [], c, s) M) : Go d mL_law Q 575 ([some (.ref l0), some (.ref l1), some (.ref l2), some (.ref l3), some (.int l4), none, none, none, none], [], c, s) M := by
  refine st_goto oL_law_575 ?_
  exact h
theorem bL_law_631 {d : Nat} {Q : pR → pM → Prop} {c s : Nat} {M : pM} {l0 : Nat} {l1 : Nat} {l2 : Nat} {l3 : Nat} {l4 : Int32} (h : Go d mL_law Q 1099 ([some (.ref l0), some (.ref l1), some (.ref l2), some (.ref l3), some (.int l4), none, none, none, none], [], c, s) M) : Go d mL_law Q 631 ([some (.ref l0), some (.ref l1), some (.ref l2), some (.ref l3), some (.int l4), none, none, none, none], [], c, s) M := by
  refine st_goto oL_law_631 ?_
  exact h
theorem bL_law_687 {d : Nat} {Q : pR → pM → Prop} {c s : Nat} {M : pM} {l0 : Nat} {l1 : Nat} {l2 : Nat} {l3 : Nat} {l4 : Int32} (h : Go d mL_law Q 1099 ([some (.ref l0), some (.ref l1), some (.ref l2), some (.ref l3), some (.int l4), none, none, none, none], [], c, s) M) : Go d mL_law Q 687 ([some (.ref l0), some (.ref l1), some (.ref l2), some (.ref l3), some (.int l4), none, none, none, none], [], c, s) M := by
  refine st_goto oL_law_687 ?_
  exact h
theorem bL_law_755 {d : Nat} {Q : pR → pM → Prop} {c s : Nat} {M : pM} {l0 : Nat} {l1 : Nat} {l2 : Nat} {l3 : Nat} {l4 : Int32} (h : Go d mL_law Q 1099 ([some (.ref l0), some (.ref l1), some (.ref l2), some (.ref l3), some (.int l4), none, none, none, none], [], c, s) M) : Go d mL_law Q 755 ([some (.ref l0), some (.ref l1), some (.ref l2), some (.ref l3), some (.int l4), none, none, none, none], [], c, s) M := by
  refine st_goto oL_law_755 ?_
  exact h
theorem bL_law_823 {d : Nat} {Q : pR → pM → Prop} {c s : Nat} {M : pM} {l0 : Nat} {l1 : Nat} {l2 : Nat} {l3 : Nat} {l4 : Int32} (h : Go d mL_law Q 1099 ([some (.ref l0), some (.ref l1), some (.ref l2), some (.ref l3), some (.int l4), none, none, none, none], [], c, s) M) : Go d mL_law Q 823 ([some (.ref l0), some (.ref l1), some (.ref l2), some (.ref l3), some (.int l4), none, none, none, none], [], c, s) M := by
  refine st_goto oL_law_823 ?_
  exact h
theorem bL_law_929 {d : Nat} {Q : pR → pM → Prop} {c s : Nat} {M : pM} {l0 : Nat} {l1 : Nat} {l2 : Nat} {l3 : Nat} {l4 : Int32} (h : Go d mL_law Q 1099 ([some (.ref l0), some (.ref l1), some (.ref l2), some (.ref l3), some (.int l4), none, none, none, none], [], c, s) M) : Go d mL_law Q 929 ([some (.ref l0), some (.ref l1), some (.ref l2), some (.ref l3), some (.int l4), none, none, none, none], [], c, s) M := by
  refine st_goto oL_law_929 ?_
  exact h
theorem bL_law_985 {d : Nat} {Q : pR → pM → Prop} {c s : Nat} {M : pM} {l0 : Nat} {l1 : Nat} {l2 : Nat} {l3 : Nat} {l4 : Int32} (h : Go d mL_law Q 1099 ([some (.ref l0), some (.ref l1), some (.ref l2), some (.ref l3), some (.int l4), none, none, none, none], [], c, s) M) : Go d mL_law Q 985 ([some (.ref l0), some (.ref l1), some (.ref l2), some (.ref l3), some (.int l4), none, none, none, none], [], c, s) M := by
  refine st_goto oL_law_985 ?_
  exact h
theorem bL_law_1041 {d : Nat} {Q : pR → pM → Prop} {c s : Nat} {M : pM} {l0 : Nat} {l1 : Nat} {l2 : Nat} {l3 : Nat} {l4 : Int32} (h : Go d mL_law Q 1099 ([some (.ref l0), some (.ref l1), some (.ref l2), some (.ref l3), some (.int l4), none, none, none, none], [], c, s) M) : Go d mL_law Q 1041 ([some (.ref l0), some (.ref l1), some (.ref l2), some (.ref l3), some (.int l4), none, none, none, none], [], c, s) M := by
  refine st_goto oL_law_1041 ?_
  exact h
theorem bL_law_1082 {d : Nat} {Q : pR → pM → Prop} {c s : Nat} {M : pM} {l0 : Nat} {l1 : Nat} {l2 : Nat} {l3 : Nat} {l4 : Int32} (h : Go d mL_law Q 1099 ([some (.ref l0), some (.ref l1), some (.ref l2), some (.ref l3), some (.int l4), none, none, none, none], [], c, s) M) : Go d mL_law Q 1082 ([some (.ref l0), some (.ref l1), some (.ref l2), some (.ref l3), some (.int l4), none, none, none, none], [], c, s) M := by
  refine st_goto oL_law_1082 ?_
  exact h
theorem bL_law_1099 {d : Nat} {Q : pR → pM → Prop} {c s : Nat} {M : pM} {l0 : Nat} {l1 : Nat} {l2 : Nat} {l3 : Nat} {l4 : Int32} (h : Go d mL_law Q 23 ([some (.ref l0), some (.ref l1), some (.ref l2), some (.ref l3), some (.int (l4 + 6)), none, none, none, none], [], c, s) M) : Go d mL_law Q 1099 ([some (.ref l0), some (.ref l1), some (.ref l2), some (.ref l3), some (.int l4), none, none, none, none], [], c, s) M := by
  refine st_iinc (L2 := [some (.ref l0), some (.ref l1), some (.ref l2), some (.ref l3), some (.int (l4 + 6)), none, none, none, none]) oL_law_1099 rfl (by decide) rfl rfl ?_
  refine st_goto oL_law_1102 ?_
  exact h
