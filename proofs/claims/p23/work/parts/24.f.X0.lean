theorem oX0_init_0 : OpS mX0_init 0 (o_aload 0 1) := s_aload_n (by decide +kernel : decode cX0_init 0 = .ok (.aload_n 0, 1)) rfl
theorem oX0_init_1 : OpS mX0_init 1 (o_objinit 4) := s_objinit wd_569 wd_55 wd_56 (by decide +kernel : decode cX0_init 1 = .ok (.invokespecial 3, 3))
theorem oX0_init_4 : OpS mX0_init 4 (o_aload 0 5) := s_aload_n (by decide +kernel : decode cX0_init 4 = .ok (.aload_n 0, 1)) rfl
theorem oX0_init_5 : OpS mX0_init 5 (o_new 5 3 8) := s_new clsX5 defX5 wd_570 wd_453 wd_6 (by decide +kernel : decode cX0_init 5 = .ok (.new 9, 3))
theorem oX0_init_8 : OpS mX0_init 8 (o_dup 9) := s_dup (by decide +kernel : decode cX0_init 8 = .ok (.dup, 1))
theorem oX0_init_9 : OpS mX0_init 9 (o_const (.int 6) 11) := s_bipush (by decide +kernel : decode cX0_init 9 = .ok (.bipush 6, 2)) (by decide)
theorem oX0_init_11 : OpS mX0_init 11 (o_callI mX5_init 1 14) := s_callI ceX5_init rfl rfl (Or.inl wd_571) wd_455 (by decide +kernel : decode cX0_init 11 = .ok (.invokespecial 11, 3))
theorem oX0_init_14 : OpS mX0_init 14 (o_putP 0 0 17) := s_putP (k := 0) clsX0 (by decide) rfl (Or.inl ⟨wd_638, Or.inr ⟨rfl, rfl, rfl⟩⟩) (by decide +kernel : decode cX0_init 14 = .ok (.putfield 14, 3)) rfl (fun _ => rfl) (fun _ => rfl)
theorem oX0_init_17 : OpS mX0_init 17 (o_aload 0 18) := s_aload_n (by decide +kernel : decode cX0_init 17 = .ok (.aload_n 0, 1)) rfl
theorem oX0_init_18 : OpS mX0_init 18 (o_new 5 3 21) := s_new clsX5 defX5 wd_570 wd_453 wd_6 (by decide +kernel : decode cX0_init 18 = .ok (.new 9, 3))
theorem oX0_init_21 : OpS mX0_init 21 (o_dup 22) := s_dup (by decide +kernel : decode cX0_init 21 = .ok (.dup, 1))
theorem oX0_init_22 : OpS mX0_init 22 (o_const (.int 40) 24) := s_bipush (by decide +kernel : decode cX0_init 22 = .ok (.bipush 40, 2)) (by decide)
theorem oX0_init_24 : OpS mX0_init 24 (o_callI mX5_init 1 27) := s_callI ceX5_init rfl rfl (Or.inl wd_571) wd_455 (by decide +kernel : decode cX0_init 24 = .ok (.invokespecial 11, 3))
theorem oX0_init_27 : OpS mX0_init 27 (o_putP 0 1 30) := s_putP (k := 1) clsX0 (by decide) rfl (Or.inl ⟨wd_641, Or.inr ⟨rfl, rfl, rfl⟩⟩) (by decide +kernel : decode cX0_init 27 = .ok (.putfield 20, 3)) rfl (fun _ => rfl) (fun _ => rfl)
theorem oX0_init_30 : OpS mX0_init 30 (o_aload 0 31) := s_aload_n (by decide +kernel : decode cX0_init 30 = .ok (.aload_n 0, 1)) rfl
theorem oX0_init_31 : OpS mX0_init 31 (o_new 9 2 34) := s_new clsX9 defX9 wd_572 wd_426 wd_2 (by decide +kernel : decode cX0_init 31 = .ok (.new 23, 3))
theorem oX0_init_34 : OpS mX0_init 34 (o_dup 35) := s_dup (by decide +kernel : decode cX0_init 34 = .ok (.dup, 1))
theorem oX0_init_35 : OpS mX0_init 35 (o_const (.int 40) 37) := s_bipush (by decide +kernel : decode cX0_init 35 = .ok (.bipush 40, 2)) (by decide)
theorem oX0_init_37 : OpS mX0_init 37 (o_callI mX9_init 1 40) := s_callI ceX9_init rfl rfl (Or.inl wd_573) wd_428 (by decide +kernel : decode cX0_init 37 = .ok (.invokespecial 25, 3))
theorem oX0_init_40 : OpS mX0_init 40 (o_putP 0 2 43) := s_putP (k := 2) clsX0 (by decide) rfl (Or.inl ⟨wd_645, Or.inr ⟨rfl, rfl, rfl⟩⟩) (by decide +kernel : decode cX0_init 40 = .ok (.putfield 26, 3)) rfl (fun _ => rfl) (fun _ => rfl)
theorem oX0_init_43 : OpS mX0_init 43 (o_aload 0 44) := s_aload_n (by decide +kernel : decode cX0_init 43 = .ok (.aload_n 0, 1)) rfl
theorem oX0_init_44 : OpS mX0_init 44 (o_new 9 2 47) := s_new clsX9 defX9 wd_572 wd_426 wd_2 (by decide +kernel : decode cX0_init 44 = .ok (.new 23, 3))
theorem oX0_init_47 : OpS mX0_init 47 (o_dup 48) := s_dup (by decide +kernel : decode cX0_init 47 = .ok (.dup, 1))
theorem oX0_init_48 : OpS mX0_init 48 (o_const (.int 40) 50) := s_bipush (by decide +kernel : decode cX0_init 48 = .ok (.bipush 40, 2)) (by decide)
theorem oX0_init_50 : OpS mX0_init 50 (o_callI mX9_init 1 53) := s_callI ceX9_init rfl rfl (Or.inl wd_573) wd_428 (by decide +kernel : decode cX0_init 50 = .ok (.invokespecial 25, 3))
theorem oX0_init_53 : OpS mX0_init 53 (o_putP 0 3 56) := s_putP (k := 3) clsX0 (by decide) rfl (Or.inl ⟨wd_650, Or.inr ⟨rfl, rfl, rfl⟩⟩) (by decide +kernel : decode cX0_init 53 = .ok (.putfield 30, 3)) rfl (fun _ => rfl) (fun _ => rfl)
theorem oX0_init_56 : OpS mX0_init 56 (o_aload 0 57) := s_aload_n (by decide +kernel : decode cX0_init 56 = .ok (.aload_n 0, 1)) rfl
theorem oX0_init_57 : OpS mX0_init 57 (o_new 4 3 60) := s_new clsX4 defX4 wd_574 wd_575 wd_12 (by decide +kernel : decode cX0_init 57 = .ok (.new 33, 3))
theorem oX0_init_60 : OpS mX0_init 60 (o_dup 61) := s_dup (by decide +kernel : decode cX0_init 60 = .ok (.dup, 1))
theorem oX0_init_61 : OpS mX0_init 61 (o_callI mX4_init 0 64) := s_callI ceX4_init rfl rfl (Or.inl wd_576) wd_577 (by decide +kernel : decode cX0_init 61 = .ok (.invokespecial 35, 3))
theorem oX0_init_64 : OpS mX0_init 64 (o_putP 0 4 67) := s_putP (k := 4) clsX0 (by decide) rfl (Or.inl ⟨wd_654, Or.inr ⟨rfl, rfl, rfl⟩⟩) (by decide +kernel : decode cX0_init 64 = .ok (.putfield 36, 3)) rfl (fun _ => rfl) (fun _ => rfl)
theorem oX0_init_67 : OpS mX0_init 67 (o_aload 0 68) := s_aload_n (by decide +kernel : decode cX0_init 67 = .ok (.aload_n 0, 1)) rfl
theorem oX0_init_68 : OpS mX0_init 68 (o_new 1 7 71) := s_new clsX1 defX1 wd_597 wd_598 wd_13 (by decide +kernel : decode cX0_init 68 = .ok (.new 40, 3))
theorem oX0_init_71 : OpS mX0_init 71 (o_dup 72) := s_dup (by decide +kernel : decode cX0_init 71 = .ok (.dup, 1))
theorem oX0_init_72 : OpS mX0_init 72 (o_callI mX1_init 0 75) := s_callI ceX1_init rfl rfl (Or.inr ⟨_, wd_599⟩) wd_600 (by decide +kernel : decode cX0_init 72 = .ok (.invokespecial 42, 3))
theorem oX0_init_75 : OpS mX0_init 75 (o_putP 0 5 78) := s_putP (k := 5) clsX0 (by decide) rfl (Or.inl ⟨wd_658, Or.inr ⟨rfl, rfl, rfl⟩⟩) (by decide +kernel : decode cX0_init 75 = .ok (.putfield 43, 3)) rfl (fun _ => rfl) (fun _ => rfl)
theorem oX0_init_78 : OpS mX0_init 78 (o_vret) := s_vret rfl (by decide +kernel : decode cX0_init 78 = .ok (.return_, 1))
theorem oX0_clear_0 : OpS mX0_clear 0 (o_aload 0 1) := s_aload_n (by decide +kernel : decode cX0_clear 0 = .ok (.aload_n 0, 1)) rfl
theorem oX0_clear_1 : OpS mX0_clear 1 (o_getP 0 0 4) := s_getP (k := 0) clsX0 (by decide) rfl (Or.inl wd_638) (by decide +kernel : decode cX0_clear 1 = .ok (.getfield 14, 3)) rfl
theorem oX0_clear_4 : OpS mX0_clear 4 (o_callV mX5_clear 5 0 7) := s_callV ceX5_clear clsX5 (Or.inl wd_841) wd_842 selX5_clear (by decide +kernel : decode cX0_clear 4 = .ok (.invokevirtual 47, 3))
theorem oX0_clear_7 : OpS mX0_clear 7 (o_aload 0 8) := s_aload_n (by decide +kernel : decode cX0_clear 7 = .ok (.aload_n 0, 1)) rfl
theorem oX0_clear_8 : OpS mX0_clear 8 (o_getP 0 1 11) := s_getP (k := 1) clsX0 (by decide) rfl (Or.inl wd_641) (by decide +kernel : decode cX0_clear 8 = .ok (.getfield 20, 3)) rfl
theorem oX0_clear_11 : OpS mX0_clear 11 (o_callV mX5_clear 5 0 14) := s_callV ceX5_clear clsX5 (Or.inl wd_841) wd_842 selX5_clear (by decide +kernel : decode cX0_clear 11 = .ok (.invokevirtual 47, 3))
theorem oX0_clear_14 : OpS mX0_clear 14 (o_aload 0 15) := s_aload_n (by decide +kernel : decode cX0_clear 14 = .ok (.aload_n 0, 1)) rfl
theorem oX0_clear_15 : OpS mX0_clear 15 (o_getP 0 2 18) := s_getP (k := 2) clsX0 (by decide) rfl (Or.inl wd_645) (by decide +kernel : decode cX0_clear 15 = .ok (.getfield 26, 3)) rfl
theorem oX0_clear_18 : OpS mX0_clear 18 (o_callV mX9_clear 9 0 21) := s_callV ceX9_clear clsX9 (Or.inl wd_845) wd_109 selX9_clear (by decide +kernel : decode cX0_clear 18 = .ok (.invokevirtual 50, 3))
theorem oX0_clear_21 : OpS mX0_clear 21 (o_aload 0 22) := s_aload_n (by decide +kernel : decode cX0_clear 21 = .ok (.aload_n 0, 1)) rfl
theorem oX0_clear_22 : OpS mX0_clear 22 (o_getP 0 3 25) := s_getP (k := 3) clsX0 (by decide) rfl (Or.inl wd_650) (by decide +kernel : decode cX0_clear 22 = .ok (.getfield 30, 3)) rfl
theorem oX0_clear_25 : OpS mX0_clear 25 (o_callV mX9_clear 9 0 28) := s_callV ceX9_clear clsX9 (Or.inl wd_845) wd_109 selX9_clear (by decide +kernel : decode cX0_clear 25 = .ok (.invokevirtual 50, 3))
theorem oX0_clear_28 : OpS mX0_clear 28 (o_aload 0 29) := s_aload_n (by decide +kernel : decode cX0_clear 28 = .ok (.aload_n 0, 1)) rfl
theorem oX0_clear_29 : OpS mX0_clear 29 (o_getP 0 4 32) := s_getP (k := 4) clsX0 (by decide) rfl (Or.inl wd_654) (by decide +kernel : decode cX0_clear 29 = .ok (.getfield 36, 3)) rfl
theorem oX0_clear_32 : OpS mX0_clear 32 (o_callV mX4_clear 4 0 35) := s_callV ceX4_clear clsX4 (Or.inl wd_846) wd_583 selX4_clear (by decide +kernel : decode cX0_clear 32 = .ok (.invokevirtual 51, 3))
theorem oX0_clear_35 : OpS mX0_clear 35 (o_aload 0 36) := s_aload_n (by decide +kernel : decode cX0_clear 35 = .ok (.aload_n 0, 1)) rfl
theorem oX0_clear_36 : OpS mX0_clear 36 (o_getP 0 5 39) := s_getP (k := 5) clsX0 (by decide) rfl (Or.inl wd_658) (by decide +kernel : decode cX0_clear 36 = .ok (.getfield 43, 3)) rfl
theorem oX0_clear_39 : OpS mX0_clear 39 (o_callV mX1_clear 1 0 42) := s_callV ceX1_clear clsX1 (Or.inl wd_847) wd_848 selX1_clear (by decide +kernel : decode cX0_clear 39 = .ok (.invokevirtual 52, 3))
theorem oX0_clear_42 : OpS mX0_clear 42 (o_vret) := s_vret rfl (by decide +kernel : decode cX0_clear 42 = .ok (.return_, 1))
theorem oX0_hasWord_0 : OpS mX0_hasWord 0 (o_iload 1 1) := s_iload_n (by decide +kernel : decode cX0_hasWord 0 = .ok (.iload_n 1, 1)) rfl
theorem oX0_hasWord_1 : OpS mX0_hasWord 1 (o_if (fun x => x < 0) 19 4) := s_if_lt (by decide +kernel : decode cX0_hasWord 1 = .ok (.ifCond .lt 18, 3)) (by decide)
theorem oX0_hasWord_4 : OpS mX0_hasWord 4 (o_iload 1 5) := s_iload_n (by decide +kernel : decode cX0_hasWord 4 = .ok (.iload_n 1, 1)) rfl
theorem oX0_hasWord_5 : OpS mX0_hasWord 5 (o_aload 0 6) := s_aload_n (by decide +kernel : decode cX0_hasWord 5 = .ok (.aload_n 0, 1)) rfl
theorem oX0_hasWord_6 : OpS mX0_hasWord 6 (o_getP 0 1 9) := s_getP (k := 1) clsX0 (by decide) rfl (Or.inl wd_641) (by decide +kernel : decode cX0_hasWord 6 = .ok (.getfield 20, 3)) rfl
theorem oX0_hasWord_9 : OpS mX0_hasWord 9 (o_callV mX5_size 5 0 12) := s_callV ceX5_size clsX5 (Or.inl wd_239) wd_113 selX5_size (by decide +kernel : decode cX0_hasWord 9 = .ok (.invokevirtual 53, 3))
theorem oX0_hasWord_12 : OpS mX0_hasWord 12 (o_icmp (fun x y => y ≤ x) 19 15) := s_icmp_ge (by decide +kernel : decode cX0_hasWord 12 = .ok (.if_icmp .ge 7, 3)) (by decide)
theorem oX0_hasWord_15 : OpS mX0_hasWord 15 (o_const (.int 1) 16) := s_iconst (by decide +kernel : decode cX0_hasWord 15 = .ok (.iconst 1, 1)) (by decide)
theorem oX0_hasWord_16 : OpS mX0_hasWord 16 (o_goto 20) := s_goto (by decide +kernel : decode cX0_hasWord 16 = .ok (.goto 4, 3)) (by decide)
theorem oX0_hasWord_19 : OpS mX0_hasWord 19 (o_const (.int 0) 20) := s_iconst (by decide +kernel : decode cX0_hasWord 19 = .ok (.iconst 0, 1)) (by decide)
theorem oX0_hasWord_20 : OpS mX0_hasWord 20 (o_zret) := s_zret rfl (by decide +kernel : decode cX0_hasWord 20 = .ok (.ireturn, 1))
theorem oX0_addWord_0 : OpS mX0_addWord 0 (o_aload 0 1) := s_aload_n (by decide +kernel : decode cX0_addWord 0 = .ok (.aload_n 0, 1)) rfl
theorem oX0_addWord_1 : OpS mX0_addWord 1 (o_getP 0 2 4) := s_getP (k := 2) clsX0 (by decide) rfl (Or.inl wd_645) (by decide +kernel : decode cX0_addWord 1 = .ok (.getfield 26, 3)) rfl
theorem oX0_addWord_4 : OpS mX0_addWord 4 (o_const (.int 0) 5) := s_iconst (by decide +kernel : decode cX0_addWord 4 = .ok (.iconst 0, 1)) (by decide)
theorem oX0_addWord_5 : OpS mX0_addWord 5 (o_callV mX9_add 9 1 8) := s_callV ceX9_add clsX9 (Or.inl wd_1079) wd_129 selX9_add (by decide +kernel : decode cX0_addWord 5 = .ok (.invokevirtual 57, 3))
theorem oX0_addWord_8 : OpS mX0_addWord 8 (o_aload 0 9) := s_aload_n (by decide +kernel : decode cX0_addWord 8 = .ok (.aload_n 0, 1)) rfl
theorem oX0_addWord_9 : OpS mX0_addWord 9 (o_getP 0 3 12) := s_getP (k := 3) clsX0 (by decide) rfl (Or.inl wd_650) (by decide +kernel : decode cX0_addWord 9 = .ok (.getfield 30, 3)) rfl
theorem oX0_addWord_12 : OpS mX0_addWord 12 (o_const (.int (-1)) 13) := s_iconst (by decide +kernel : decode cX0_addWord 12 = .ok (.iconst (-1), 1)) (by decide)
theorem oX0_addWord_13 : OpS mX0_addWord 13 (o_callV mX9_add 9 1 16) := s_callV ceX9_add clsX9 (Or.inl wd_1079) wd_129 selX9_add (by decide +kernel : decode cX0_addWord 13 = .ok (.invokevirtual 57, 3))
theorem oX0_addWord_16 : OpS mX0_addWord 16 (o_aload 0 17) := s_aload_n (by decide +kernel : decode cX0_addWord 16 = .ok (.aload_n 0, 1)) rfl
theorem oX0_addWord_17 : OpS mX0_addWord 17 (o_getP 0 1 20) := s_getP (k := 1) clsX0 (by decide) rfl (Or.inl wd_641) (by decide +kernel : decode cX0_addWord 17 = .ok (.getfield 20, 3)) rfl
theorem oX0_addWord_20 : OpS mX0_addWord 20 (o_aload 1 21) := s_aload_n (by decide +kernel : decode cX0_addWord 20 = .ok (.aload_n 1, 1)) rfl
theorem oX0_addWord_21 : OpS mX0_addWord 21 (o_callV mX5_add 5 1 24) := s_callV ceX5_add clsX5 (Or.inl wd_1080) wd_525 selX5_add (by decide +kernel : decode cX0_addWord 21 = .ok (.invokevirtual 60, 3))
theorem oX0_addWord_24 : OpS mX0_addWord 24 (o_iret) := s_iret rfl (by decide +kernel : decode cX0_addWord 24 = .ok (.ireturn, 1))
theorem oX0_allWeights_0 : OpS mX0_allWeights 0 (o_const (.int 0) 1) := s_iconst (by decide +kernel : decode cX0_allWeights 0 = .ok (.iconst 0, 1)) (by decide)
theorem oX0_allWeights_1 : OpS mX0_allWeights 1 (o_istore 1 3 2) := s_istore_n (by decide +kernel : decode cX0_allWeights 1 = .ok (.istore_n 1, 1)) rfl rfl
theorem oX0_allWeights_2 : OpS mX0_allWeights 2 (o_const (.int 0) 3) := s_iconst (by decide +kernel : decode cX0_allWeights 2 = .ok (.iconst 0, 1)) (by decide)
theorem oX0_allWeights_3 : OpS mX0_allWeights 3 (o_istore 2 3 4) := s_istore_n (by decide +kernel : decode cX0_allWeights 3 = .ok (.istore_n 2, 1)) rfl rfl
theorem oX0_allWeights_4 : OpS mX0_allWeights 4 (o_iload 2 5) := s_iload_n (by decide +kernel : decode cX0_allWeights 4 = .ok (.iload_n 2, 1)) rfl
theorem oX0_allWeights_5 : OpS mX0_allWeights 5 (o_aload 0 6) := s_aload_n (by decide +kernel : decode cX0_allWeights 5 = .ok (.aload_n 0, 1)) rfl
theorem oX0_allWeights_6 : OpS mX0_allWeights 6 (o_getP 0 2 9) := s_getP (k := 2) clsX0 (by decide) rfl (Or.inl wd_645) (by decide +kernel : decode cX0_allWeights 6 = .ok (.getfield 26, 3)) rfl
theorem oX0_allWeights_9 : OpS mX0_allWeights 9 (o_callV mX9_size 9 0 12) := s_callV ceX9_size clsX9 (Or.inl wd_229) wd_125 selX9_size (by decide +kernel : decode cX0_allWeights 9 = .ok (.invokevirtual 63, 3))
theorem oX0_allWeights_12 : OpS mX0_allWeights 12 (o_icmp (fun x y => y ≤ x) 32 15) := s_icmp_ge (by decide +kernel : decode cX0_allWeights 12 = .ok (.if_icmp .ge 20, 3)) (by decide)
theorem oX0_allWeights_15 : OpS mX0_allWeights 15 (o_iload 1 16) := s_iload_n (by decide +kernel : decode cX0_allWeights 15 = .ok (.iload_n 1, 1)) rfl
theorem oX0_allWeights_16 : OpS mX0_allWeights 16 (o_aload 0 17) := s_aload_n (by decide +kernel : decode cX0_allWeights 16 = .ok (.aload_n 0, 1)) rfl
theorem oX0_allWeights_17 : OpS mX0_allWeights 17 (o_getP 0 2 20) := s_getP (k := 2) clsX0 (by decide) rfl (Or.inl wd_645) (by decide +kernel : decode cX0_allWeights 17 = .ok (.getfield 26, 3)) rfl
theorem oX0_allWeights_20 : OpS mX0_allWeights 20 (o_iload 2 21) := s_iload_n (by decide +kernel : decode cX0_allWeights 20 = .ok (.iload_n 2, 1)) rfl
theorem oX0_allWeights_21 : OpS mX0_allWeights 21 (o_callV mX9_at 9 1 24) := s_callV ceX9_at clsX9 (Or.inl wd_230) wd_133 selX9_at (by decide +kernel : decode cX0_allWeights 21 = .ok (.invokevirtual 64, 3))
theorem oX0_allWeights_24 : OpS mX0_allWeights 24 (o_ibin (fun x y => x + y) 25) := s_iadd (by decide +kernel : decode cX0_allWeights 24 = .ok (.iadd, 1))
theorem oX0_allWeights_25 : OpS mX0_allWeights 25 (o_istore 1 3 26) := s_istore_n (by decide +kernel : decode cX0_allWeights 25 = .ok (.istore_n 1, 1)) rfl rfl
theorem oX0_allWeights_26 : OpS mX0_allWeights 26 (o_iinc 2 3 1 29) := s_iinc (by decide +kernel : decode cX0_allWeights 26 = .ok (.iinc 2 1, 3)) (by decide) rfl
theorem oX0_allWeights_29 : OpS mX0_allWeights 29 (o_goto 4) := s_goto (by decide +kernel : decode cX0_allWeights 29 = .ok (.goto (-25), 3)) (by decide)
theorem oX0_allWeights_32 : OpS mX0_allWeights 32 (o_iload 1 33) := s_iload_n (by decide +kernel : decode cX0_allWeights 32 = .ok (.iload_n 1, 1)) rfl
theorem oX0_allWeights_33 : OpS mX0_allWeights 33 (o_iret) := s_iret rfl (by decide +kernel : decode cX0_allWeights 33 = .ok (.ireturn, 1))
theorem oX0_fade_0 : OpS mX0_fade 0 (o_const (.int 0) 1) := s_iconst (by decide +kernel : decode cX0_fade 0 = .ok (.iconst 0, 1)) (by decide)
theorem oX0_fade_1 : OpS mX0_fade 1 (o_istore 1 3 2) := s_istore_n (by decide +kernel : decode cX0_fade 1 = .ok (.istore_n 1, 1)) rfl rfl
theorem oX0_fade_2 : OpS mX0_fade 2 (o_iload 1 3) := s_iload_n (by decide +kernel : decode cX0_fade 2 = .ok (.iload_n 1, 1)) rfl
theorem oX0_fade_3 : OpS mX0_fade 3 (o_aload 0 4) := s_aload_n (by decide +kernel : decode cX0_fade 3 = .ok (.aload_n 0, 1)) rfl
theorem oX0_fade_4 : OpS mX0_fade 4 (o_getP 0 2 7) := s_getP (k := 2) clsX0 (by decide) rfl (Or.inl wd_645) (by decide +kernel : decode cX0_fade 4 = .ok (.getfield 26, 3)) rfl
theorem oX0_fade_7 : OpS mX0_fade 7 (o_callV mX9_size 9 0 10) := s_callV ceX9_size clsX9 (Or.inl wd_229) wd_125 selX9_size (by decide +kernel : decode cX0_fade 7 = .ok (.invokevirtual 63, 3))
theorem oX0_fade_10 : OpS mX0_fade 10 (o_icmp (fun x y => y ≤ x) 42 13) := s_icmp_ge (by decide +kernel : decode cX0_fade 10 = .ok (.if_icmp .ge 32, 3)) (by decide)
theorem oX0_fade_13 : OpS mX0_fade 13 (o_aload 0 14) := s_aload_n (by decide +kernel : decode cX0_fade 13 = .ok (.aload_n 0, 1)) rfl
theorem oX0_fade_14 : OpS mX0_fade 14 (o_getP 0 2 17) := s_getP (k := 2) clsX0 (by decide) rfl (Or.inl wd_645) (by decide +kernel : decode cX0_fade 14 = .ok (.getfield 26, 3)) rfl
theorem oX0_fade_17 : OpS mX0_fade 17 (o_iload 1 18) := s_iload_n (by decide +kernel : decode cX0_fade 17 = .ok (.iload_n 1, 1)) rfl
theorem oX0_fade_18 : OpS mX0_fade 18 (o_callV mX9_at 9 1 21) := s_callV ceX9_at clsX9 (Or.inl wd_230) wd_133 selX9_at (by decide +kernel : decode cX0_fade 18 = .ok (.invokevirtual 64, 3))
theorem oX0_fade_21 : OpS mX0_fade 21 (o_istore 2 3 22) := s_istore_n (by decide +kernel : decode cX0_fade 21 = .ok (.istore_n 2, 1)) rfl rfl
theorem oX0_fade_22 : OpS mX0_fade 22 (o_aload 0 23) := s_aload_n (by decide +kernel : decode cX0_fade 22 = .ok (.aload_n 0, 1)) rfl
theorem oX0_fade_23 : OpS mX0_fade 23 (o_getP 0 2 26) := s_getP (k := 2) clsX0 (by decide) rfl (Or.inl wd_645) (by decide +kernel : decode cX0_fade 23 = .ok (.getfield 26, 3)) rfl
theorem oX0_fade_26 : OpS mX0_fade 26 (o_iload 1 27) := s_iload_n (by decide +kernel : decode cX0_fade 26 = .ok (.iload_n 1, 1)) rfl
theorem oX0_fade_27 : OpS mX0_fade 27 (o_iload 2 28) := s_iload_n (by decide +kernel : decode cX0_fade 27 = .ok (.iload_n 2, 1)) rfl
theorem oX0_fade_28 : OpS mX0_fade 28 (o_iload 2 29) := s_iload_n (by decide +kernel : decode cX0_fade 28 = .ok (.iload_n 2, 1)) rfl
theorem oX0_fade_29 : OpS mX0_fade 29 (o_const (.int 8) 31) := s_bipush (by decide +kernel : decode cX0_fade 29 = .ok (.bipush 8, 2)) (by decide)
theorem oX0_fade_31 : OpS mX0_fade 31 (o_idiv 32) := s_idiv (by decide +kernel : decode cX0_fade 31 = .ok (.idiv, 1))
theorem oX0_fade_32 : OpS mX0_fade 32 (o_ibin (fun x y => x - y) 33) := s_isub (by decide +kernel : decode cX0_fade 32 = .ok (.isub, 1))
theorem oX0_fade_33 : OpS mX0_fade 33 (o_callV mX9_put 9 2 36) := s_callV ceX9_put clsX9 (Or.inl wd_320) wd_142 selX9_put (by decide +kernel : decode cX0_fade 33 = .ok (.invokevirtual 68, 3))
theorem oX0_fade_36 : OpS mX0_fade 36 (o_iinc 1 3 1 39) := s_iinc (by decide +kernel : decode cX0_fade 36 = .ok (.iinc 1 1, 3)) (by decide) rfl
theorem oX0_fade_39 : OpS mX0_fade 39 (o_goto 2) := s_goto (by decide +kernel : decode cX0_fade 39 = .ok (.goto (-37), 3)) (by decide)
theorem oX0_fade_42 : OpS mX0_fade 42 (o_vret) := s_vret rfl (by decide +kernel : decode cX0_fade 42 = .ok (.return_, 1))
theorem oX0_wordsThatBegin_0 : OpS mX0_wordsThatBegin 0 (o_const (.int 0) 1) := s_iconst (by decide +kernel : decode cX0_wordsThatBegin 0 = .ok (.iconst 0, 1)) (by decide)
theorem oX0_wordsThatBegin_1 : OpS mX0_wordsThatBegin 1 (o_istore 2 4 2) := s_istore_n (by decide +kernel : decode cX0_wordsThatBegin 1 = .ok (.istore_n 2, 1)) rfl rfl
theorem oX0_wordsThatBegin_2 : OpS mX0_wordsThatBegin 2 (o_const (.int 0) 3) := s_iconst (by decide +kernel : decode cX0_wordsThatBegin 2 = .ok (.iconst 0, 1)) (by decide)
theorem oX0_wordsThatBegin_3 : OpS mX0_wordsThatBegin 3 (o_istore 3 4 4) := s_istore_n (by decide +kernel : decode cX0_wordsThatBegin 3 = .ok (.istore_n 3, 1)) rfl rfl
theorem oX0_wordsThatBegin_4 : OpS mX0_wordsThatBegin 4 (o_iload 3 5) := s_iload_n (by decide +kernel : decode cX0_wordsThatBegin 4 = .ok (.iload_n 3, 1)) rfl
theorem oX0_wordsThatBegin_5 : OpS mX0_wordsThatBegin 5 (o_aload 0 6) := s_aload_n (by decide +kernel : decode cX0_wordsThatBegin 5 = .ok (.aload_n 0, 1)) rfl
theorem oX0_wordsThatBegin_6 : OpS mX0_wordsThatBegin 6 (o_getP 0 1 9) := s_getP (k := 1) clsX0 (by decide) rfl (Or.inl wd_641) (by decide +kernel : decode cX0_wordsThatBegin 6 = .ok (.getfield 20, 3)) rfl
theorem oX0_wordsThatBegin_9 : OpS mX0_wordsThatBegin 9 (o_callV mX5_size 5 0 12) := s_callV ceX5_size clsX5 (Or.inl wd_239) wd_113 selX5_size (by decide +kernel : decode cX0_wordsThatBegin 9 = .ok (.invokevirtual 53, 3))
theorem oX0_wordsThatBegin_12 : OpS mX0_wordsThatBegin 12 (o_icmp (fun x y => y ≤ x) 39 15) := s_icmp_ge (by decide +kernel : decode cX0_wordsThatBegin 12 = .ok (.if_icmp .ge 27, 3)) (by decide)
theorem oX0_wordsThatBegin_15 : OpS mX0_wordsThatBegin 15 (o_aload 0 16) := s_aload_n (by decide +kernel : decode cX0_wordsThatBegin 15 = .ok (.aload_n 0, 1)) rfl
theorem oX0_wordsThatBegin_16 : OpS mX0_wordsThatBegin 16 (o_getP 0 1 19) := s_getP (k := 1) clsX0 (by decide) rfl (Or.inl wd_641) (by decide +kernel : decode cX0_wordsThatBegin 16 = .ok (.getfield 20, 3)) rfl
theorem oX0_wordsThatBegin_19 : OpS mX0_wordsThatBegin 19 (o_iload 3 20) := s_iload_n (by decide +kernel : decode cX0_wordsThatBegin 19 = .ok (.iload_n 3, 1)) rfl
theorem oX0_wordsThatBegin_20 : OpS mX0_wordsThatBegin 20 (o_callV mX5_at 5 1 23) := s_callV ceX5_at clsX5 (Or.inl wd_240) wd_117 selX5_at (by decide +kernel : decode cX0_wordsThatBegin 20 = .ok (.invokevirtual 72, 3))
theorem oX0_wordsThatBegin_23 : OpS mX0_wordsThatBegin 23 (o_aload 1 24) := s_aload_n (by decide +kernel : decode cX0_wordsThatBegin 23 = .ok (.aload_n 1, 1)) rfl
theorem oX0_wordsThatBegin_24 : OpS mX0_wordsThatBegin 24 (o_callV mX9_beginsWith 9 1 27) := s_callV ceX9_beginsWith clsX9 (Or.inl wd_241) wd_172 selX9_beginsWith (by decide +kernel : decode cX0_wordsThatBegin 24 = .ok (.invokevirtual 75, 3))
theorem oX0_wordsThatBegin_27 : OpS mX0_wordsThatBegin 27 (o_if (fun x => x = 0) 33 30) := s_if_eq (by decide +kernel : decode cX0_wordsThatBegin 27 = .ok (.ifCond .eq 6, 3)) (by decide)
theorem oX0_wordsThatBegin_30 : OpS mX0_wordsThatBegin 30 (o_iinc 2 4 1 33) := s_iinc (by decide +kernel : decode cX0_wordsThatBegin 30 = .ok (.iinc 2 1, 3)) (by decide) rfl
theorem oX0_wordsThatBegin_33 : OpS mX0_wordsThatBegin 33 (o_iinc 3 4 1 36) := s_iinc (by decide +kernel : decode cX0_wordsThatBegin 33 = .ok (.iinc 3 1, 3)) (by decide) rfl
theorem oX0_wordsThatBegin_36 : OpS mX0_wordsThatBegin 36 (o_goto 4) := s_goto (by decide +kernel : decode cX0_wordsThatBegin 36 = .ok (.goto (-32), 3)) (by decide)
theorem oX0_wordsThatBegin_39 : OpS mX0_wordsThatBegin 39 (o_iload 2 40) := s_iload_n (by decide +kernel : decode cX0_wordsThatBegin 39 = .ok (.iload_n 2, 1)) rfl
theorem oX0_wordsThatBegin_40 : OpS mX0_wordsThatBegin 40 (o_iret) := s_iret rfl (by decide +kernel : decode cX0_wordsThatBegin 40 = .ok (.ireturn, 1))
theorem oX0_weightBehind_0 : OpS mX0_weightBehind 0 (o_const (.int (-1)) 1) := s_iconst (by decide +kernel : decode cX0_weightBehind 0 = .ok (.iconst (-1), 1)) (by decide)
theorem oX0_weightBehind_1 : OpS mX0_weightBehind 1 (o_istore 3 6 2) := s_istore_n (by decide +kernel : decode cX0_weightBehind 1 = .ok (.istore_n 3, 1)) rfl rfl
theorem oX0_weightBehind_2 : OpS mX0_weightBehind 2 (o_const (.int 0) 3) := s_iconst (by decide +kernel : decode cX0_weightBehind 2 = .ok (.iconst 0, 1)) (by decide)
theorem oX0_weightBehind_3 : OpS mX0_weightBehind 3 (o_istore 4 6 5) := s_istore (by decide +kernel : decode cX0_weightBehind 3 = .ok (.istore 4, 2)) rfl
theorem oX0_weightBehind_5 : OpS mX0_weightBehind 5 (o_iload 4 7) := s_iload (by decide +kernel : decode cX0_weightBehind 5 = .ok (.iload 4, 2))
theorem oX0_weightBehind_7 : OpS mX0_weightBehind 7 (o_aload 0 8) := s_aload_n (by decide +kernel : decode cX0_weightBehind 7 = .ok (.aload_n 0, 1)) rfl
theorem oX0_weightBehind_8 : OpS mX0_weightBehind 8 (o_getP 0 1 11) := s_getP (k := 1) clsX0 (by decide) rfl (Or.inl wd_641) (by decide +kernel : decode cX0_weightBehind 8 = .ok (.getfield 20, 3)) rfl
theorem oX0_weightBehind_11 : OpS mX0_weightBehind 11 (o_callV mX5_size 5 0 14) := s_callV ceX5_size clsX5 (Or.inl wd_239) wd_113 selX5_size (by decide +kernel : decode cX0_weightBehind 11 = .ok (.invokevirtual 53, 3))
theorem oX0_weightBehind_14 : OpS mX0_weightBehind 14 (o_icmp (fun x y => y ≤ x) 72 17) := s_icmp_ge (by decide +kernel : decode cX0_weightBehind 14 = .ok (.if_icmp .ge 58, 3)) (by decide)
theorem oX0_weightBehind_17 : OpS mX0_weightBehind 17 (o_aload 0 18) := s_aload_n (by decide +kernel : decode cX0_weightBehind 17 = .ok (.aload_n 0, 1)) rfl
theorem oX0_weightBehind_18 : OpS mX0_weightBehind 18 (o_getP 0 1 21) := s_getP (k := 1) clsX0 (by decide) rfl (Or.inl wd_641) (by decide +kernel : decode cX0_weightBehind 18 = .ok (.getfield 20, 3)) rfl
theorem oX0_weightBehind_21 : OpS mX0_weightBehind 21 (o_iload 4 23) := s_iload (by decide +kernel : decode cX0_weightBehind 21 = .ok (.iload 4, 2))
theorem oX0_weightBehind_23 : OpS mX0_weightBehind 23 (o_callV mX5_at 5 1 26) := s_callV ceX5_at clsX5 (Or.inl wd_240) wd_117 selX5_at (by decide +kernel : decode cX0_weightBehind 23 = .ok (.invokevirtual 72, 3))
theorem oX0_weightBehind_26 : OpS mX0_weightBehind 26 (o_astore 5 6 28) := s_astore (by decide +kernel : decode cX0_weightBehind 26 = .ok (.astore 5, 2)) rfl
theorem oX0_weightBehind_28 : OpS mX0_weightBehind 28 (o_aload 5 30) := s_aload (by decide +kernel : decode cX0_weightBehind 28 = .ok (.aload 5, 2))
theorem oX0_weightBehind_30 : OpS mX0_weightBehind 30 (o_aload 1 31) := s_aload_n (by decide +kernel : decode cX0_weightBehind 30 = .ok (.aload_n 1, 1)) rfl
theorem oX0_weightBehind_31 : OpS mX0_weightBehind 31 (o_callV mX9_size 9 0 34) := s_callV ceX9_size clsX9 (Or.inl wd_229) wd_125 selX9_size (by decide +kernel : decode cX0_weightBehind 31 = .ok (.invokevirtual 63, 3))
theorem oX0_weightBehind_34 : OpS mX0_weightBehind 34 (o_callV mX9_at 9 1 37) := s_callV ceX9_at clsX9 (Or.inl wd_230) wd_133 selX9_at (by decide +kernel : decode cX0_weightBehind 34 = .ok (.invokevirtual 64, 3))
theorem oX0_weightBehind_37 : OpS mX0_weightBehind 37 (o_iload 2 38) := s_iload_n (by decide +kernel : decode cX0_weightBehind 37 = .ok (.iload_n 2, 1)) rfl
theorem oX0_weightBehind_38 : OpS mX0_weightBehind 38 (o_icmp (fun x y => x = y) 41 66) := s_icmp_ne (by decide +kernel : decode cX0_weightBehind 38 = .ok (.if_icmp .ne 28, 3)) (by decide)
theorem oX0_weightBehind_41 : OpS mX0_weightBehind 41 (o_aload 5 43) := s_aload (by decide +kernel : decode cX0_weightBehind 41 = .ok (.aload 5, 2))
theorem oX0_weightBehind_43 : OpS mX0_weightBehind 43 (o_aload 1 44) := s_aload_n (by decide +kernel : decode cX0_weightBehind 43 = .ok (.aload_n 1, 1)) rfl
theorem oX0_weightBehind_44 : OpS mX0_weightBehind 44 (o_callV mX9_beginsWith 9 1 47) := s_callV ceX9_beginsWith clsX9 (Or.inl wd_241) wd_172 selX9_beginsWith (by decide +kernel : decode cX0_weightBehind 44 = .ok (.invokevirtual 75, 3))
theorem oX0_weightBehind_47 : OpS mX0_weightBehind 47 (o_if (fun x => x = 0) 66 50) := s_if_eq (by decide +kernel : decode cX0_weightBehind 47 = .ok (.ifCond .eq 19, 3)) (by decide)
theorem oX0_weightBehind_50 : OpS mX0_weightBehind 50 (o_const (.int 0) 51) := s_iconst (by decide +kernel : decode cX0_weightBehind 50 = .ok (.iconst 0, 1)) (by decide)
theorem oX0_weightBehind_51 : OpS mX0_weightBehind 51 (o_iload 3 52) := s_iload_n (by decide +kernel : decode cX0_weightBehind 51 = .ok (.iload_n 3, 1)) rfl
theorem oX0_weightBehind_52 : OpS mX0_weightBehind 52 (o_max 55) := s_max wd_247 wd_193 wd_3 wd_194 (by decide +kernel : decode cX0_weightBehind 52 = .ok (.invokestatic 79, 3))
theorem oX0_weightBehind_55 : OpS mX0_weightBehind 55 (o_aload 0 56) := s_aload_n (by decide +kernel : decode cX0_weightBehind 55 = .ok (.aload_n 0, 1)) rfl
theorem oX0_weightBehind_56 : OpS mX0_weightBehind 56 (o_getP 0 2 59) := s_getP (k := 2) clsX0 (by decide) rfl (Or.inl wd_645) (by decide +kernel : decode cX0_weightBehind 56 = .ok (.getfield 26, 3)) rfl
theorem oX0_weightBehind_59 : OpS mX0_weightBehind 59 (o_iload 4 61) := s_iload (by decide +kernel : decode cX0_weightBehind 59 = .ok (.iload 4, 2))
theorem oX0_weightBehind_61 : OpS mX0_weightBehind 61 (o_callV mX9_at 9 1 64) := s_callV ceX9_at clsX9 (Or.inl wd_230) wd_133 selX9_at (by decide +kernel : decode cX0_weightBehind 61 = .ok (.invokevirtual 64, 3))
theorem oX0_weightBehind_64 : OpS mX0_weightBehind 64 (o_ibin (fun x y => x + y) 65) := s_iadd (by decide +kernel : decode cX0_weightBehind 64 = .ok (.iadd, 1))
theorem oX0_weightBehind_65 : OpS mX0_weightBehind 65 (o_istore 3 6 66) := s_istore_n (by decide +kernel : decode cX0_weightBehind 65 = .ok (.istore_n 3, 1)) rfl rfl
theorem oX0_weightBehind_66 : OpS mX0_weightBehind 66 (o_iinc 4 6 1 69) := s_iinc (by decide +kernel : decode cX0_weightBehind 66 = .ok (.iinc 4 1, 3)) (by decide) rfl
theorem oX0_weightBehind_69 : OpS mX0_weightBehind 69 (o_goto 5) := s_goto (by decide +kernel : decode cX0_weightBehind 69 = .ok (.goto (-64), 3)) (by decide)
theorem oX0_weightBehind_72 : OpS mX0_weightBehind 72 (o_iload 3 73) := s_iload_n (by decide +kernel : decode cX0_weightBehind 72 = .ok (.iload_n 3, 1)) rfl
theorem oX0_weightBehind_73 : OpS mX0_weightBehind 73 (o_iret) := s_iret rfl (by decide +kernel : decode cX0_weightBehind 73 = .ok (.ireturn, 1))
theorem oX0_trieNodes_0 : OpS mX0_trieNodes 0 (o_const (.int 1) 1) := s_iconst (by decide +kernel : decode cX0_trieNodes 0 = .ok (.iconst 1, 1)) (by decide)
theorem oX0_trieNodes_1 : OpS mX0_trieNodes 1 (o_istore 1 5 2) := s_istore_n (by decide +kernel : decode cX0_trieNodes 1 = .ok (.istore_n 1, 1)) rfl rfl
theorem oX0_trieNodes_2 : OpS mX0_trieNodes 2 (o_const (.int 0) 3) := s_iconst (by decide +kernel : decode cX0_trieNodes 2 = .ok (.iconst 0, 1)) (by decide)
theorem oX0_trieNodes_3 : OpS mX0_trieNodes 3 (o_istore 2 5 4) := s_istore_n (by decide +kernel : decode cX0_trieNodes 3 = .ok (.istore_n 2, 1)) rfl rfl
theorem oX0_trieNodes_4 : OpS mX0_trieNodes 4 (o_iload 2 5) := s_iload_n (by decide +kernel : decode cX0_trieNodes 4 = .ok (.iload_n 2, 1)) rfl
theorem oX0_trieNodes_5 : OpS mX0_trieNodes 5 (o_aload 0 6) := s_aload_n (by decide +kernel : decode cX0_trieNodes 5 = .ok (.aload_n 0, 1)) rfl
theorem oX0_trieNodes_6 : OpS mX0_trieNodes 6 (o_getP 0 1 9) := s_getP (k := 1) clsX0 (by decide) rfl (Or.inl wd_641) (by decide +kernel : decode cX0_trieNodes 6 = .ok (.getfield 20, 3)) rfl
theorem oX0_trieNodes_9 : OpS mX0_trieNodes 9 (o_callV mX5_size 5 0 12) := s_callV ceX5_size clsX5 (Or.inl wd_239) wd_113 selX5_size (by decide +kernel : decode cX0_trieNodes 9 = .ok (.invokevirtual 53, 3))
theorem oX0_trieNodes_12 : OpS mX0_trieNodes 12 (o_icmp (fun x y => y ≤ x) 79 15) := s_icmp_ge (by decide +kernel : decode cX0_trieNodes 12 = .ok (.if_icmp .ge 67, 3)) (by decide)
theorem oX0_trieNodes_15 : OpS mX0_trieNodes 15 (o_const (.int 0) 16) := s_iconst (by decide +kernel : decode cX0_trieNodes 15 = .ok (.iconst 0, 1)) (by decide)
theorem oX0_trieNodes_16 : OpS mX0_trieNodes 16 (o_istore 3 5 17) := s_istore_n (by decide +kernel : decode cX0_trieNodes 16 = .ok (.istore_n 3, 1)) rfl rfl
theorem oX0_trieNodes_17 : OpS mX0_trieNodes 17 (o_const (.int 0) 18) := s_iconst (by decide +kernel : decode cX0_trieNodes 17 = .ok (.iconst 0, 1)) (by decide)
theorem oX0_trieNodes_18 : OpS mX0_trieNodes 18 (o_istore 4 5 20) := s_istore (by decide +kernel : decode cX0_trieNodes 18 = .ok (.istore 4, 2)) rfl
theorem oX0_trieNodes_20 : OpS mX0_trieNodes 20 (o_iload 4 22) := s_iload (by decide +kernel : decode cX0_trieNodes 20 = .ok (.iload 4, 2))
theorem oX0_trieNodes_22 : OpS mX0_trieNodes 22 (o_iload 2 23) := s_iload_n (by decide +kernel : decode cX0_trieNodes 22 = .ok (.iload_n 2, 1)) rfl
theorem oX0_trieNodes_23 : OpS mX0_trieNodes 23 (o_icmp (fun x y => y ≤ x) 57 26) := s_icmp_ge (by decide +kernel : decode cX0_trieNodes 23 = .ok (.if_icmp .ge 34, 3)) (by decide)
theorem oX0_trieNodes_26 : OpS mX0_trieNodes 26 (o_iload 3 27) := s_iload_n (by decide +kernel : decode cX0_trieNodes 26 = .ok (.iload_n 3, 1)) rfl
theorem oX0_trieNodes_27 : OpS mX0_trieNodes 27 (o_aload 0 28) := s_aload_n (by decide +kernel : decode cX0_trieNodes 27 = .ok (.aload_n 0, 1)) rfl
theorem oX0_trieNodes_28 : OpS mX0_trieNodes 28 (o_getP 0 1 31) := s_getP (k := 1) clsX0 (by decide) rfl (Or.inl wd_641) (by decide +kernel : decode cX0_trieNodes 28 = .ok (.getfield 20, 3)) rfl
theorem oX0_trieNodes_31 : OpS mX0_trieNodes 31 (o_iload 2 32) := s_iload_n (by decide +kernel : decode cX0_trieNodes 31 = .ok (.iload_n 2, 1)) rfl
theorem oX0_trieNodes_32 : OpS mX0_trieNodes 32 (o_callV mX5_at 5 1 35) := s_callV ceX5_at clsX5 (Or.inl wd_240) wd_117 selX5_at (by decide +kernel : decode cX0_trieNodes 32 = .ok (.invokevirtual 72, 3))
theorem oX0_trieNodes_35 : OpS mX0_trieNodes 35 (o_aload 0 36) := s_aload_n (by decide +kernel : decode cX0_trieNodes 35 = .ok (.aload_n 0, 1)) rfl
theorem oX0_trieNodes_36 : OpS mX0_trieNodes 36 (o_getP 0 1 39) := s_getP (k := 1) clsX0 (by decide) rfl (Or.inl wd_641) (by decide +kernel : decode cX0_trieNodes 36 = .ok (.getfield 20, 3)) rfl
theorem oX0_trieNodes_39 : OpS mX0_trieNodes 39 (o_iload 4 41) := s_iload (by decide +kernel : decode cX0_trieNodes 39 = .ok (.iload 4, 2))
theorem oX0_trieNodes_41 : OpS mX0_trieNodes 41 (o_callV mX5_at 5 1 44) := s_callV ceX5_at clsX5 (Or.inl wd_240) wd_117 selX5_at (by decide +kernel : decode cX0_trieNodes 41 = .ok (.invokevirtual 72, 3))
theorem oX0_trieNodes_44 : OpS mX0_trieNodes 44 (o_callV mX9_sameAhead 9 1 47) := s_callV ceX9_sameAhead clsX9 (Or.inl wd_246) wd_176 selX9_sameAhead (by decide +kernel : decode cX0_trieNodes 44 = .ok (.invokevirtual 85, 3))
theorem oX0_trieNodes_47 : OpS mX0_trieNodes 47 (o_max 50) := s_max wd_247 wd_193 wd_3 wd_194 (by decide +kernel : decode cX0_trieNodes 47 = .ok (.invokestatic 79, 3))
theorem oX0_trieNodes_50 : OpS mX0_trieNodes 50 (o_istore 3 5 51) := s_istore_n (by decide +kernel : decode cX0_trieNodes 50 = .ok (.istore_n 3, 1)) rfl rfl
theorem oX0_trieNodes_51 : OpS mX0_trieNodes 51 (o_iinc 4 5 1 54) := s_iinc (by decide +kernel : decode cX0_trieNodes 51 = .ok (.iinc 4 1, 3)) (by decide) rfl
theorem oX0_trieNodes_54 : OpS mX0_trieNodes 54 (o_goto 20) := s_goto (by decide +kernel : decode cX0_trieNodes 54 = .ok (.goto (-34), 3)) (by decide)
theorem oX0_trieNodes_57 : OpS mX0_trieNodes 57 (o_iload 1 58) := s_iload_n (by decide +kernel : decode cX0_trieNodes 57 = .ok (.iload_n 1, 1)) rfl
theorem oX0_trieNodes_58 : OpS mX0_trieNodes 58 (o_aload 0 59) := s_aload_n (by decide +kernel : decode cX0_trieNodes 58 = .ok (.aload_n 0, 1)) rfl
theorem oX0_trieNodes_59 : OpS mX0_trieNodes 59 (o_getP 0 1 62) := s_getP (k := 1) clsX0 (by decide) rfl (Or.inl wd_641) (by decide +kernel : decode cX0_trieNodes 59 = .ok (.getfield 20, 3)) rfl
theorem oX0_trieNodes_62 : OpS mX0_trieNodes 62 (o_iload 2 63) := s_iload_n (by decide +kernel : decode cX0_trieNodes 62 = .ok (.iload_n 2, 1)) rfl
theorem oX0_trieNodes_63 : OpS mX0_trieNodes 63 (o_callV mX5_at 5 1 66) := s_callV ceX5_at clsX5 (Or.inl wd_240) wd_117 selX5_at (by decide +kernel : decode cX0_trieNodes 63 = .ok (.invokevirtual 72, 3))
theorem oX0_trieNodes_66 : OpS mX0_trieNodes 66 (o_callV mX9_size 9 0 69) := s_callV ceX9_size clsX9 (Or.inl wd_229) wd_125 selX9_size (by decide +kernel : decode cX0_trieNodes 66 = .ok (.invokevirtual 63, 3))
theorem oX0_trieNodes_69 : OpS mX0_trieNodes 69 (o_iload 3 70) := s_iload_n (by decide +kernel : decode cX0_trieNodes 69 = .ok (.iload_n 3, 1)) rfl
theorem oX0_trieNodes_70 : OpS mX0_trieNodes 70 (o_ibin (fun x y => x - y) 71) := s_isub (by decide +kernel : decode cX0_trieNodes 70 = .ok (.isub, 1))
theorem oX0_trieNodes_71 : OpS mX0_trieNodes 71 (o_ibin (fun x y => x + y) 72) := s_iadd (by decide +kernel : decode cX0_trieNodes 71 = .ok (.iadd, 1))
theorem oX0_trieNodes_72 : OpS mX0_trieNodes 72 (o_istore 1 5 73) := s_istore_n (by decide +kernel : decode cX0_trieNodes 72 = .ok (.istore_n 1, 1)) rfl rfl
theorem oX0_trieNodes_73 : OpS mX0_trieNodes 73 (o_iinc 2 5 1 76) := s_iinc (by decide +kernel : decode cX0_trieNodes 73 = .ok (.iinc 2 1, 3)) (by decide) rfl
theorem oX0_trieNodes_76 : OpS mX0_trieNodes 76 (o_goto 4) := s_goto (by decide +kernel : decode cX0_trieNodes 76 = .ok (.goto (-72), 3)) (by decide)
theorem oX0_trieNodes_79 : OpS mX0_trieNodes 79 (o_iload 1 80) := s_iload_n (by decide +kernel : decode cX0_trieNodes 79 = .ok (.iload_n 1, 1)) rfl
theorem oX0_trieNodes_80 : OpS mX0_trieNodes 80 (o_iret) := s_iret rfl (by decide +kernel : decode cX0_trieNodes 80 = .ok (.ireturn, 1))
