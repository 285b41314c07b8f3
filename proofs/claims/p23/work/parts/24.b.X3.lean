theorem oX3_init_0 : OpS mX3_init 0 (o_aload 0 1) := s_aload_n (by decide +kernel : decode cX3_init 0 = .ok (.aload_n 0, 1)) rfl
theorem oX3_init_1 : OpS mX3_init 1 (o_objinit 4) := s_objinit wd_680 wd_55 wd_56 (by decide +kernel : decode cX3_init 1 = .ok (.invokespecial 3, 3))
theorem oX3_init_4 : OpS mX3_init 4 (o_aload 0 5) := s_aload_n (by decide +kernel : decode cX3_init 4 = .ok (.aload_n 0, 1)) rfl
theorem oX3_init_5 : OpS mX3_init 5 (o_new 9 2 8) := s_new clsX9 defX9 wd_681 wd_426 wd_2 (by decide +kernel : decode cX3_init 5 = .ok (.new 9, 3))
theorem oX3_init_8 : OpS mX3_init 8 (o_dup 9) := s_dup (by decide +kernel : decode cX3_init 8 = .ok (.dup, 1))
theorem oX3_init_9 : OpS mX3_init 9 (o_const (.int 20) 11) := s_bipush (by decide +kernel : decode cX3_init 9 = .ok (.bipush 20, 2)) (by decide)
theorem oX3_init_11 : OpS mX3_init 11 (o_callI mX9_init 1 14) := s_callI ceX9_init rfl rfl (Or.inl wd_682) wd_428 (by decide +kernel : decode cX3_init 11 = .ok (.invokespecial 11, 3))
theorem oX3_init_14 : OpS mX3_init 14 (o_putP 3 0 17) := s_putP (k := 0) clsX3 (by decide) rfl (Or.inl ⟨wd_683, Or.inr ⟨rfl, rfl, rfl⟩⟩) (by decide +kernel : decode cX3_init 14 = .ok (.putfield 14, 3)) rfl (fun _ => rfl) (fun _ => rfl)
theorem oX3_init_17 : OpS mX3_init 17 (o_aload 0 18) := s_aload_n (by decide +kernel : decode cX3_init 17 = .ok (.aload_n 0, 1)) rfl
theorem oX3_init_18 : OpS mX3_init 18 (o_const (.int 0) 19) := s_iconst (by decide +kernel : decode cX3_init 18 = .ok (.iconst 0, 1)) (by decide)
theorem oX3_init_19 : OpS mX3_init 19 (o_putI 3 1 22) := s_putI (k := 1) clsX3 (by decide) rfl (Or.inl ⟨wd_687, Or.inl rfl⟩) (by decide +kernel : decode cX3_init 19 = .ok (.putfield 20, 3)) rfl rfl
theorem oX3_init_22 : OpS mX3_init 22 (o_aload 0 23) := s_aload_n (by decide +kernel : decode cX3_init 22 = .ok (.aload_n 0, 1)) rfl
theorem oX3_init_23 : OpS mX3_init 23 (o_const (.int (-1)) 24) := s_iconst (by decide +kernel : decode cX3_init 23 = .ok (.iconst (-1), 1)) (by decide)
theorem oX3_init_24 : OpS mX3_init 24 (o_putI 3 2 27) := s_putI (k := 2) clsX3 (by decide) rfl (Or.inl ⟨wd_690, Or.inl rfl⟩) (by decide +kernel : decode cX3_init 24 = .ok (.putfield 24, 3)) rfl rfl
theorem oX3_init_27 : OpS mX3_init 27 (o_aload 0 28) := s_aload_n (by decide +kernel : decode cX3_init 27 = .ok (.aload_n 0, 1)) rfl
theorem oX3_init_28 : OpS mX3_init 28 (o_const (.int 4) 29) := s_iconst (by decide +kernel : decode cX3_init 28 = .ok (.iconst 4, 1)) (by decide)
theorem oX3_init_29 : OpS mX3_init 29 (o_putI 3 3 32) := s_putI (k := 3) clsX3 (by decide) rfl (Or.inl ⟨wd_693, Or.inl rfl⟩) (by decide +kernel : decode cX3_init 29 = .ok (.putfield 27, 3)) rfl rfl
theorem oX3_init_32 : OpS mX3_init 32 (o_vret) := s_vret rfl (by decide +kernel : decode cX3_init 32 = .ok (.return_, 1))
theorem oX3_forget_0 : OpS mX3_forget 0 (o_aload 0 1) := s_aload_n (by decide +kernel : decode cX3_forget 0 = .ok (.aload_n 0, 1)) rfl
theorem oX3_forget_1 : OpS mX3_forget 1 (o_getP 3 0 4) := s_getP (k := 0) clsX3 (by decide) rfl (Or.inl wd_683) (by decide +kernel : decode cX3_forget 1 = .ok (.getfield 14, 3)) rfl
theorem oX3_forget_4 : OpS mX3_forget 4 (o_callV mX9_clear 9 0 7) := s_callV ceX9_clear clsX9 (Or.inl wd_373) wd_109 selX9_clear (by decide +kernel : decode cX3_forget 4 = .ok (.invokevirtual 30, 3))
theorem oX3_forget_7 : OpS mX3_forget 7 (o_aload 0 8) := s_aload_n (by decide +kernel : decode cX3_forget 7 = .ok (.aload_n 0, 1)) rfl
theorem oX3_forget_8 : OpS mX3_forget 8 (o_const (.int 0) 9) := s_iconst (by decide +kernel : decode cX3_forget 8 = .ok (.iconst 0, 1)) (by decide)
theorem oX3_forget_9 : OpS mX3_forget 9 (o_putI 3 1 12) := s_putI (k := 1) clsX3 (by decide) rfl (Or.inl ⟨wd_687, Or.inl rfl⟩) (by decide +kernel : decode cX3_forget 9 = .ok (.putfield 20, 3)) rfl rfl
theorem oX3_forget_12 : OpS mX3_forget 12 (o_aload 0 13) := s_aload_n (by decide +kernel : decode cX3_forget 12 = .ok (.aload_n 0, 1)) rfl
theorem oX3_forget_13 : OpS mX3_forget 13 (o_const (.int (-1)) 14) := s_iconst (by decide +kernel : decode cX3_forget 13 = .ok (.iconst (-1), 1)) (by decide)
theorem oX3_forget_14 : OpS mX3_forget 14 (o_putI 3 2 17) := s_putI (k := 2) clsX3 (by decide) rfl (Or.inl ⟨wd_690, Or.inl rfl⟩) (by decide +kernel : decode cX3_forget 14 = .ok (.putfield 24, 3)) rfl rfl
theorem oX3_forget_17 : OpS mX3_forget 17 (o_vret) := s_vret rfl (by decide +kernel : decode cX3_forget 17 = .ok (.return_, 1))
theorem oX3_supposeNothingTyped_0 : OpS mX3_supposeNothingTyped 0 (o_aload 0 1) := s_aload_n (by decide +kernel : decode cX3_supposeNothingTyped 0 = .ok (.aload_n 0, 1)) rfl
theorem oX3_supposeNothingTyped_1 : OpS mX3_supposeNothingTyped 1 (o_getP 3 0 4) := s_getP (k := 0) clsX3 (by decide) rfl (Or.inl wd_683) (by decide +kernel : decode cX3_supposeNothingTyped 1 = .ok (.getfield 14, 3)) rfl
theorem oX3_supposeNothingTyped_4 : OpS mX3_supposeNothingTyped 4 (o_callV mX9_clear 9 0 7) := s_callV ceX9_clear clsX9 (Or.inl wd_373) wd_109 selX9_clear (by decide +kernel : decode cX3_supposeNothingTyped 4 = .ok (.invokevirtual 30, 3))
theorem oX3_supposeNothingTyped_7 : OpS mX3_supposeNothingTyped 7 (o_aload 0 8) := s_aload_n (by decide +kernel : decode cX3_supposeNothingTyped 7 = .ok (.aload_n 0, 1)) rfl
theorem oX3_supposeNothingTyped_8 : OpS mX3_supposeNothingTyped 8 (o_aload 1 9) := s_aload_n (by decide +kernel : decode cX3_supposeNothingTyped 8 = .ok (.aload_n 1, 1)) rfl
theorem oX3_supposeNothingTyped_9 : OpS mX3_supposeNothingTyped 9 (o_getI 3 1 12) := s_getI (k := 1) clsX3 (by decide) rfl (Or.inl wd_687) (by decide +kernel : decode cX3_supposeNothingTyped 9 = .ok (.getfield 20, 3)) rfl
theorem oX3_supposeNothingTyped_12 : OpS mX3_supposeNothingTyped 12 (o_putI 3 1 15) := s_putI (k := 1) clsX3 (by decide) rfl (Or.inl ⟨wd_687, Or.inl rfl⟩) (by decide +kernel : decode cX3_supposeNothingTyped 12 = .ok (.putfield 20, 3)) rfl rfl
theorem oX3_supposeNothingTyped_15 : OpS mX3_supposeNothingTyped 15 (o_aload 0 16) := s_aload_n (by decide +kernel : decode cX3_supposeNothingTyped 15 = .ok (.aload_n 0, 1)) rfl
theorem oX3_supposeNothingTyped_16 : OpS mX3_supposeNothingTyped 16 (o_aload 1 17) := s_aload_n (by decide +kernel : decode cX3_supposeNothingTyped 16 = .ok (.aload_n 1, 1)) rfl
theorem oX3_supposeNothingTyped_17 : OpS mX3_supposeNothingTyped 17 (o_getI 3 2 20) := s_getI (k := 2) clsX3 (by decide) rfl (Or.inl wd_690) (by decide +kernel : decode cX3_supposeNothingTyped 17 = .ok (.getfield 24, 3)) rfl
theorem oX3_supposeNothingTyped_20 : OpS mX3_supposeNothingTyped 20 (o_putI 3 2 23) := s_putI (k := 2) clsX3 (by decide) rfl (Or.inl ⟨wd_690, Or.inl rfl⟩) (by decide +kernel : decode cX3_supposeNothingTyped 20 = .ok (.putfield 24, 3)) rfl rfl
theorem oX3_supposeNothingTyped_23 : OpS mX3_supposeNothingTyped 23 (o_aload 0 24) := s_aload_n (by decide +kernel : decode cX3_supposeNothingTyped 23 = .ok (.aload_n 0, 1)) rfl
theorem oX3_supposeNothingTyped_24 : OpS mX3_supposeNothingTyped 24 (o_aload 1 25) := s_aload_n (by decide +kernel : decode cX3_supposeNothingTyped 24 = .ok (.aload_n 1, 1)) rfl
theorem oX3_supposeNothingTyped_25 : OpS mX3_supposeNothingTyped 25 (o_getI 3 3 28) := s_getI (k := 3) clsX3 (by decide) rfl (Or.inl wd_693) (by decide +kernel : decode cX3_supposeNothingTyped 25 = .ok (.getfield 27, 3)) rfl
theorem oX3_supposeNothingTyped_28 : OpS mX3_supposeNothingTyped 28 (o_putI 3 3 31) := s_putI (k := 3) clsX3 (by decide) rfl (Or.inl ⟨wd_693, Or.inl rfl⟩) (by decide +kernel : decode cX3_supposeNothingTyped 28 = .ok (.putfield 27, 3)) rfl rfl
theorem oX3_supposeNothingTyped_31 : OpS mX3_supposeNothingTyped 31 (o_vret) := s_vret rfl (by decide +kernel : decode cX3_supposeNothingTyped 31 = .ok (.return_, 1))
