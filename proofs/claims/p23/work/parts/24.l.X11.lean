theorem oX11_init_0 : OpS mX11_init 0 (o_aload 0 1) := s_aload_n (by decide +kernel : decode cX11_init 0 = .ok (.aload_n 0, 1)) rfl
theorem oX11_init_1 : OpS mX11_init 1 (o_objinit 4) := s_objinit wd_424 wd_55 wd_56 (by decide +kernel : decode cX11_init 1 = .ok (.invokespecial 1, 3))
theorem oX11_init_4 : OpS mX11_init 4 (o_aload 0 5) := s_aload_n (by decide +kernel : decode cX11_init 4 = .ok (.aload_n 0, 1)) rfl
theorem oX11_init_5 : OpS mX11_init 5 (o_new 9 2 8) := s_new clsX9 defX9 wd_425 wd_426 wd_2 (by decide +kernel : decode cX11_init 5 = .ok (.new 7, 3))
theorem oX11_init_8 : OpS mX11_init 8 (o_dup 9) := s_dup (by decide +kernel : decode cX11_init 8 = .ok (.dup, 1))
theorem oX11_init_9 : OpS mX11_init 9 (o_const (.int 2000) 12) := s_sipush (by decide +kernel : decode cX11_init 9 = .ok (.sipush 2000, 3)) (by decide)
theorem oX11_init_12 : OpS mX11_init 12 (o_callI mX9_init 1 15) := s_callI ceX9_init rfl rfl (Or.inl wd_427) wd_428 (by decide +kernel : decode cX11_init 12 = .ok (.invokespecial 11, 3))
theorem oX11_init_15 : OpS mX11_init 15 (o_putP 11 0 18) := s_putP (k := 0) clsX11 (by decide) rfl (Or.inl ⟨wd_746, Or.inr ⟨rfl, rfl, rfl⟩⟩) (by decide +kernel : decode cX11_init 15 = .ok (.putfield 14, 3)) rfl (fun _ => rfl) (fun _ => rfl)
theorem oX11_init_18 : OpS mX11_init 18 (o_aload 0 19) := s_aload_n (by decide +kernel : decode cX11_init 18 = .ok (.aload_n 0, 1)) rfl
theorem oX11_init_19 : OpS mX11_init 19 (o_new 7 3 22) := s_new clsX7 defX7 wd_440 wd_441 wd_4 (by decide +kernel : decode cX11_init 19 = .ok (.new 18, 3))
theorem oX11_init_22 : OpS mX11_init 22 (o_dup 23) := s_dup (by decide +kernel : decode cX11_init 22 = .ok (.dup, 1))
theorem oX11_init_23 : OpS mX11_init 23 (o_callI mX7_init 0 26) := s_callI ceX7_init rfl rfl (Or.inr ⟨_, wd_442⟩) wd_443 (by decide +kernel : decode cX11_init 23 = .ok (.invokespecial 20, 3))
theorem oX11_init_26 : OpS mX11_init 26 (o_putP 11 1 29) := s_putP (k := 1) clsX11 (by decide) rfl (Or.inl ⟨wd_747, Or.inr ⟨rfl, rfl, rfl⟩⟩) (by decide +kernel : decode cX11_init 26 = .ok (.putfield 21, 3)) rfl (fun _ => rfl) (fun _ => rfl)
theorem oX11_init_29 : OpS mX11_init 29 (o_aload 0 30) := s_aload_n (by decide +kernel : decode cX11_init 29 = .ok (.aload_n 0, 1)) rfl
theorem oX11_init_30 : OpS mX11_init 30 (o_new 0 6 33) := s_new clsX0 defX0 wd_564 wd_565 wd_11 (by decide +kernel : decode cX11_init 30 = .ok (.new 25, 3))
theorem oX11_init_33 : OpS mX11_init 33 (o_dup 34) := s_dup (by decide +kernel : decode cX11_init 33 = .ok (.dup, 1))
theorem oX11_init_34 : OpS mX11_init 34 (o_callI mX0_init 0 37) := s_callI ceX0_init rfl rfl (Or.inr ⟨_, wd_566⟩) wd_567 (by decide +kernel : decode cX11_init 34 = .ok (.invokespecial 27, 3))
theorem oX11_init_37 : OpS mX11_init 37 (o_putP 11 2 40) := s_putP (k := 2) clsX11 (by decide) rfl (Or.inl ⟨wd_748, Or.inl rfl⟩) (by decide +kernel : decode cX11_init 37 = .ok (.putfield 28, 3)) rfl (fun _ => rfl) (fun _ => rfl)
theorem oX11_init_40 : OpS mX11_init 40 (o_aload 0 41) := s_aload_n (by decide +kernel : decode cX11_init 40 = .ok (.aload_n 0, 1)) rfl
theorem oX11_init_41 : OpS mX11_init 41 (o_new 0 6 44) := s_new clsX0 defX0 wd_564 wd_565 wd_11 (by decide +kernel : decode cX11_init 41 = .ok (.new 25, 3))
theorem oX11_init_44 : OpS mX11_init 44 (o_dup 45) := s_dup (by decide +kernel : decode cX11_init 44 = .ok (.dup, 1))
theorem oX11_init_45 : OpS mX11_init 45 (o_callI mX0_init 0 48) := s_callI ceX0_init rfl rfl (Or.inr ⟨_, wd_566⟩) wd_567 (by decide +kernel : decode cX11_init 45 = .ok (.invokespecial 27, 3))
theorem oX11_init_48 : OpS mX11_init 48 (o_putP 11 3 51) := s_putP (k := 3) clsX11 (by decide) rfl (Or.inl ⟨wd_749, Or.inl rfl⟩) (by decide +kernel : decode cX11_init 48 = .ok (.putfield 32, 3)) rfl (fun _ => rfl) (fun _ => rfl)
theorem oX11_init_51 : OpS mX11_init 51 (o_aload 0 52) := s_aload_n (by decide +kernel : decode cX11_init 51 = .ok (.aload_n 0, 1)) rfl
theorem oX11_init_52 : OpS mX11_init 52 (o_new 3 4 55) := s_new clsX3 defX3 wd_675 wd_676 wd_14 (by decide +kernel : decode cX11_init 52 = .ok (.new 35, 3))
theorem oX11_init_55 : OpS mX11_init 55 (o_dup 56) := s_dup (by decide +kernel : decode cX11_init 55 = .ok (.dup, 1))
theorem oX11_init_56 : OpS mX11_init 56 (o_callI mX3_init 0 59) := s_callI ceX3_init rfl rfl (Or.inr ⟨_, wd_677⟩) wd_678 (by decide +kernel : decode cX11_init 56 = .ok (.invokespecial 37, 3))
theorem oX11_init_59 : OpS mX11_init 59 (o_putP 11 4 62) := s_putP (k := 4) clsX11 (by decide) rfl (Or.inl ⟨wd_750, Or.inr ⟨rfl, rfl, rfl⟩⟩) (by decide +kernel : decode cX11_init 59 = .ok (.putfield 38, 3)) rfl (fun _ => rfl) (fun _ => rfl)
theorem oX11_init_62 : OpS mX11_init 62 (o_aload 0 63) := s_aload_n (by decide +kernel : decode cX11_init 62 = .ok (.aload_n 0, 1)) rfl
theorem oX11_init_63 : OpS mX11_init 63 (o_new 6 7 66) := s_new clsX6 defX6 wd_706 wd_139 wd_15 (by decide +kernel : decode cX11_init 63 = .ok (.new 42, 3))
theorem oX11_init_66 : OpS mX11_init 66 (o_dup 67) := s_dup (by decide +kernel : decode cX11_init 66 = .ok (.dup, 1))
theorem oX11_init_67 : OpS mX11_init 67 (o_callI mX6_init 0 70) := s_callI ceX6_init rfl rfl (Or.inr ⟨_, wd_707⟩) wd_708 (by decide +kernel : decode cX11_init 67 = .ok (.invokespecial 44, 3))
theorem oX11_init_70 : OpS mX11_init 70 (o_putP 11 5 73) := s_putP (k := 5) clsX11 (by decide) rfl (Or.inl ⟨wd_751, Or.inr ⟨rfl, rfl, rfl⟩⟩) (by decide +kernel : decode cX11_init 70 = .ok (.putfield 45, 3)) rfl (fun _ => rfl) (fun _ => rfl)
theorem oX11_init_73 : OpS mX11_init 73 (o_aload 0 74) := s_aload_n (by decide +kernel : decode cX11_init 73 = .ok (.aload_n 0, 1)) rfl
theorem oX11_init_74 : OpS mX11_init 74 (o_const (.int 0) 75) := s_iconst (by decide +kernel : decode cX11_init 74 = .ok (.iconst 0, 1)) (by decide)
theorem oX11_init_75 : OpS mX11_init 75 (o_putZ 11 6 78) := s_putZ (k := 6) clsX11 (by decide) rfl (Or.inl ⟨wd_752, Or.inl rfl⟩) (by decide +kernel : decode cX11_init 75 = .ok (.putfield 49, 3)) rfl rfl
theorem oX11_init_78 : OpS mX11_init 78 (o_aload 0 79) := s_aload_n (by decide +kernel : decode cX11_init 78 = .ok (.aload_n 0, 1)) rfl
theorem oX11_init_79 : OpS mX11_init 79 (o_new 3 4 82) := s_new clsX3 defX3 wd_675 wd_676 wd_14 (by decide +kernel : decode cX11_init 79 = .ok (.new 35, 3))
theorem oX11_init_82 : OpS mX11_init 82 (o_dup 83) := s_dup (by decide +kernel : decode cX11_init 82 = .ok (.dup, 1))
theorem oX11_init_83 : OpS mX11_init 83 (o_callI mX3_init 0 86) := s_callI ceX3_init rfl rfl (Or.inr ⟨_, wd_677⟩) wd_678 (by decide +kernel : decode cX11_init 83 = .ok (.invokespecial 37, 3))
theorem oX11_init_86 : OpS mX11_init 86 (o_putP 11 7 89) := s_putP (k := 7) clsX11 (by decide) rfl (Or.inl ⟨wd_753, Or.inr ⟨rfl, rfl, rfl⟩⟩) (by decide +kernel : decode cX11_init 86 = .ok (.putfield 53, 3)) rfl (fun _ => rfl) (fun _ => rfl)
theorem oX11_init_89 : OpS mX11_init 89 (o_aload 0 90) := s_aload_n (by decide +kernel : decode cX11_init 89 = .ok (.aload_n 0, 1)) rfl
theorem oX11_init_90 : OpS mX11_init 90 (o_new 6 7 93) := s_new clsX6 defX6 wd_706 wd_139 wd_15 (by decide +kernel : decode cX11_init 90 = .ok (.new 42, 3))
theorem oX11_init_93 : OpS mX11_init 93 (o_dup 94) := s_dup (by decide +kernel : decode cX11_init 93 = .ok (.dup, 1))
theorem oX11_init_94 : OpS mX11_init 94 (o_callI mX6_init 0 97) := s_callI ceX6_init rfl rfl (Or.inr ⟨_, wd_707⟩) wd_708 (by decide +kernel : decode cX11_init 94 = .ok (.invokespecial 44, 3))
theorem oX11_init_97 : OpS mX11_init 97 (o_putP 11 8 100) := s_putP (k := 8) clsX11 (by decide) rfl (Or.inl ⟨wd_754, Or.inr ⟨rfl, rfl, rfl⟩⟩) (by decide +kernel : decode cX11_init 97 = .ok (.putfield 56, 3)) rfl (fun _ => rfl) (fun _ => rfl)
theorem oX11_init_100 : OpS mX11_init 100 (o_aload 0 101) := s_aload_n (by decide +kernel : decode cX11_init 100 = .ok (.aload_n 0, 1)) rfl
theorem oX11_init_101 : OpS mX11_init 101 (o_const (.int (-1)) 102) := s_iconst (by decide +kernel : decode cX11_init 101 = .ok (.iconst (-1), 1)) (by decide)
theorem oX11_init_102 : OpS mX11_init 102 (o_putI 11 9 105) := s_putI (k := 9) clsX11 (by decide) rfl (Or.inl ⟨wd_755, Or.inl rfl⟩) (by decide +kernel : decode cX11_init 102 = .ok (.putfield 59, 3)) rfl rfl
theorem oX11_init_105 : OpS mX11_init 105 (o_vret) := s_vret rfl (by decide +kernel : decode cX11_init 105 = .ok (.return_, 1))
theorem oX11_feed_0 : OpS mX11_feed 0 (o_aload 0 1) := s_aload_n (by decide +kernel : decode cX11_feed 0 = .ok (.aload_n 0, 1)) rfl
theorem oX11_feed_1 : OpS mX11_feed 1 (o_getP 11 0 4) := s_getP (k := 0) clsX11 (by decide) rfl (Or.inl wd_746) (by decide +kernel : decode cX11_feed 1 = .ok (.getfield 14, 3)) rfl
theorem oX11_feed_4 : OpS mX11_feed 4 (o_callV mX9_size 9 0 7) := s_callV ceX9_size clsX9 (Or.inl wd_224) wd_125 selX9_size (by decide +kernel : decode cX11_feed 4 = .ok (.invokevirtual 63, 3))
theorem oX11_feed_7 : OpS mX11_feed 7 (o_const (.int 20) 9) := s_bipush (by decide +kernel : decode cX11_feed 7 = .ok (.bipush 20, 2)) (by decide)
theorem oX11_feed_9 : OpS mX11_feed 9 (o_ibin (fun x y => x + y) 10) := s_iadd (by decide +kernel : decode cX11_feed 9 = .ok (.iadd, 1))
theorem oX11_feed_10 : OpS mX11_feed 10 (o_const (.int 2000) 13) := s_sipush (by decide +kernel : decode cX11_feed 10 = .ok (.sipush 2000, 3)) (by decide)
theorem oX11_feed_13 : OpS mX11_feed 13 (o_icmp (fun x y => x ≤ y) 26 16) := s_icmp_le (by decide +kernel : decode cX11_feed 13 = .ok (.if_icmp .le 13, 3)) (by decide)
theorem oX11_feed_16 : OpS mX11_feed 16 (o_throw "java/lang/IllegalStateException") := s_throw (E := "java/lang/IllegalStateException") (i := 2) (ic := 71) (names := thNames) (by decide +kernel) thNames_ok rfl rfl wd_275 wd_21 rfl thw_X11_71 (by decide +kernel) (by decide +kernel : decode cX11_feed 16 = .ok (.new 67, 3)) (by decide +kernel : decode cX11_feed 19 = .ok (.dup, 1)) (by decide +kernel : decode cX11_feed 20 = .ok (.ldc 69, 2)) (by decide +kernel : decode cX11_feed 22 = .ok (.invokespecial 71, 3)) (by decide +kernel : decode cX11_feed 25 = .ok (.athrow, 1))
theorem oX11_feed_26 : OpS mX11_feed 26 (o_aload 0 27) := s_aload_n (by decide +kernel : decode cX11_feed 26 = .ok (.aload_n 0, 1)) rfl
theorem oX11_feed_27 : OpS mX11_feed 27 (o_iload 1 28) := s_iload_n (by decide +kernel : decode cX11_feed 27 = .ok (.iload_n 1, 1)) rfl
theorem oX11_feed_28 : OpS mX11_feed 28 (o_callV mX11_appendBytes 11 1 31) := s_callV ceX11_appendBytes clsX11 (Or.inl wd_794) wd_796 selX11_appendBytes (by decide +kernel : decode cX11_feed 28 = .ok (.invokevirtual 74, 3))
theorem oX11_feed_31 : OpS mX11_feed 31 (o_aload 0 32) := s_aload_n (by decide +kernel : decode cX11_feed 31 = .ok (.aload_n 0, 1)) rfl
theorem oX11_feed_32 : OpS mX11_feed 32 (o_iload 2 33) := s_iload_n (by decide +kernel : decode cX11_feed 32 = .ok (.iload_n 2, 1)) rfl
theorem oX11_feed_33 : OpS mX11_feed 33 (o_callV mX11_appendBytes 11 1 36) := s_callV ceX11_appendBytes clsX11 (Or.inl wd_794) wd_796 selX11_appendBytes (by decide +kernel : decode cX11_feed 33 = .ok (.invokevirtual 74, 3))
theorem oX11_feed_36 : OpS mX11_feed 36 (o_aload 0 37) := s_aload_n (by decide +kernel : decode cX11_feed 36 = .ok (.aload_n 0, 1)) rfl
theorem oX11_feed_37 : OpS mX11_feed 37 (o_iload 3 38) := s_iload_n (by decide +kernel : decode cX11_feed 37 = .ok (.iload_n 3, 1)) rfl
theorem oX11_feed_38 : OpS mX11_feed 38 (o_callV mX11_appendBytes 11 1 41) := s_callV ceX11_appendBytes clsX11 (Or.inl wd_794) wd_796 selX11_appendBytes (by decide +kernel : decode cX11_feed 38 = .ok (.invokevirtual 74, 3))
theorem oX11_feed_41 : OpS mX11_feed 41 (o_aload 0 42) := s_aload_n (by decide +kernel : decode cX11_feed 41 = .ok (.aload_n 0, 1)) rfl
theorem oX11_feed_42 : OpS mX11_feed 42 (o_iload 4 44) := s_iload (by decide +kernel : decode cX11_feed 42 = .ok (.iload 4, 2))
theorem oX11_feed_44 : OpS mX11_feed 44 (o_callV mX11_appendBytes 11 1 47) := s_callV ceX11_appendBytes clsX11 (Or.inl wd_794) wd_796 selX11_appendBytes (by decide +kernel : decode cX11_feed 44 = .ok (.invokevirtual 74, 3))
theorem oX11_feed_47 : OpS mX11_feed 47 (o_aload 0 48) := s_aload_n (by decide +kernel : decode cX11_feed 47 = .ok (.aload_n 0, 1)) rfl
theorem oX11_feed_48 : OpS mX11_feed 48 (o_iload 5 50) := s_iload (by decide +kernel : decode cX11_feed 48 = .ok (.iload 5, 2))
theorem oX11_feed_50 : OpS mX11_feed 50 (o_callV mX11_appendBytes 11 1 53) := s_callV ceX11_appendBytes clsX11 (Or.inl wd_794) wd_796 selX11_appendBytes (by decide +kernel : decode cX11_feed 50 = .ok (.invokevirtual 74, 3))
theorem oX11_feed_53 : OpS mX11_feed 53 (o_aload 0 54) := s_aload_n (by decide +kernel : decode cX11_feed 53 = .ok (.aload_n 0, 1)) rfl
theorem oX11_feed_54 : OpS mX11_feed 54 (o_getP 11 0 57) := s_getP (k := 0) clsX11 (by decide) rfl (Or.inl wd_746) (by decide +kernel : decode cX11_feed 54 = .ok (.getfield 14, 3)) rfl
theorem oX11_feed_57 : OpS mX11_feed 57 (o_callV mX9_size 9 0 60) := s_callV ceX9_size clsX9 (Or.inl wd_224) wd_125 selX9_size (by decide +kernel : decode cX11_feed 57 = .ok (.invokevirtual 63, 3))
theorem oX11_feed_60 : OpS mX11_feed 60 (o_iret) := s_iret rfl (by decide +kernel : decode cX11_feed 60 = .ok (.ireturn, 1))
theorem oX11_trim_0 : OpS mX11_trim 0 (o_iload 1 1) := s_iload_n (by decide +kernel : decode cX11_trim 0 = .ok (.iload_n 1, 1)) rfl
theorem oX11_trim_1 : OpS mX11_trim 1 (o_if (fun x => x < 0) 15 4) := s_if_lt (by decide +kernel : decode cX11_trim 1 = .ok (.ifCond .lt 14, 3)) (by decide)
theorem oX11_trim_4 : OpS mX11_trim 4 (o_iload 1 5) := s_iload_n (by decide +kernel : decode cX11_trim 4 = .ok (.iload_n 1, 1)) rfl
theorem oX11_trim_5 : OpS mX11_trim 5 (o_aload 0 6) := s_aload_n (by decide +kernel : decode cX11_trim 5 = .ok (.aload_n 0, 1)) rfl
theorem oX11_trim_6 : OpS mX11_trim 6 (o_getP 11 0 9) := s_getP (k := 0) clsX11 (by decide) rfl (Or.inl wd_746) (by decide +kernel : decode cX11_trim 6 = .ok (.getfield 14, 3)) rfl
theorem oX11_trim_9 : OpS mX11_trim 9 (o_callV mX9_size 9 0 12) := s_callV ceX9_size clsX9 (Or.inl wd_224) wd_125 selX9_size (by decide +kernel : decode cX11_trim 9 = .ok (.invokevirtual 63, 3))
theorem oX11_trim_12 : OpS mX11_trim 12 (o_icmp (fun x y => x ≤ y) 25 15) := s_icmp_le (by decide +kernel : decode cX11_trim 12 = .ok (.if_icmp .le 13, 3)) (by decide)
theorem oX11_trim_15 : OpS mX11_trim 15 (o_throw "java/lang/IllegalArgumentException") := s_throw (E := "java/lang/IllegalArgumentException") (i := 3) (ic := 81) (names := thNames) (by decide +kernel) thNames_ok rfl rfl wd_255 wd_22 rfl thw_X11_81 (by decide +kernel) (by decide +kernel : decode cX11_trim 15 = .ok (.new 77, 3)) (by decide +kernel : decode cX11_trim 18 = .ok (.dup, 1)) (by decide +kernel : decode cX11_trim 19 = .ok (.ldc 79, 2)) (by decide +kernel : decode cX11_trim 21 = .ok (.invokespecial 81, 3)) (by decide +kernel : decode cX11_trim 24 = .ok (.athrow, 1))
theorem oX11_trim_25 : OpS mX11_trim 25 (o_aload 0 26) := s_aload_n (by decide +kernel : decode cX11_trim 25 = .ok (.aload_n 0, 1)) rfl
theorem oX11_trim_26 : OpS mX11_trim 26 (o_getP 11 0 29) := s_getP (k := 0) clsX11 (by decide) rfl (Or.inl wd_746) (by decide +kernel : decode cX11_trim 26 = .ok (.getfield 14, 3)) rfl
theorem oX11_trim_29 : OpS mX11_trim 29 (o_iload 1 30) := s_iload_n (by decide +kernel : decode cX11_trim 29 = .ok (.iload_n 1, 1)) rfl
theorem oX11_trim_30 : OpS mX11_trim 30 (o_callV mX9_shorten 9 1 33) := s_callV ceX9_shorten clsX9 (Or.inl wd_803) wd_804 selX9_shorten (by decide +kernel : decode cX11_trim 30 = .ok (.invokevirtual 82, 3))
theorem oX11_trim_33 : OpS mX11_trim 33 (o_iload 1 34) := s_iload_n (by decide +kernel : decode cX11_trim 33 = .ok (.iload_n 1, 1)) rfl
theorem oX11_trim_34 : OpS mX11_trim 34 (o_iret) := s_iret rfl (by decide +kernel : decode cX11_trim 34 = .ok (.ireturn, 1))
theorem oX11_teach_0 : OpS mX11_teach 0 (o_aload 0 1) := s_aload_n (by decide +kernel : decode cX11_teach 0 = .ok (.aload_n 0, 1)) rfl
theorem oX11_teach_1 : OpS mX11_teach 1 (o_getP 11 1 4) := s_getP (k := 1) clsX11 (by decide) rfl (Or.inl wd_747) (by decide +kernel : decode cX11_teach 1 = .ok (.getfield 21, 3)) rfl
theorem oX11_teach_4 : OpS mX11_teach 4 (o_aload 0 5) := s_aload_n (by decide +kernel : decode cX11_teach 4 = .ok (.aload_n 0, 1)) rfl
theorem oX11_teach_5 : OpS mX11_teach 5 (o_getP 11 0 8) := s_getP (k := 0) clsX11 (by decide) rfl (Or.inl wd_746) (by decide +kernel : decode cX11_teach 5 = .ok (.getfield 14, 3)) rfl
theorem oX11_teach_8 : OpS mX11_teach 8 (o_aload 0 9) := s_aload_n (by decide +kernel : decode cX11_teach 8 = .ok (.aload_n 0, 1)) rfl
theorem oX11_teach_9 : OpS mX11_teach 9 (o_getP 11 3 12) := s_getP (k := 3) clsX11 (by decide) rfl (Or.inl wd_749) (by decide +kernel : decode cX11_teach 9 = .ok (.getfield 32, 3)) rfl
theorem oX11_teach_12 : OpS mX11_teach 12 (o_callV mX7_read 7 2 15) := s_callV ceX7_read clsX7 (Or.inl wd_833) wd_834 selX7_read (by decide +kernel : decode cX11_teach 12 = .ok (.invokevirtual 85, 3))
theorem oX11_teach_15 : OpS mX11_teach 15 (o_istore 1 3 16) := s_istore_n (by decide +kernel : decode cX11_teach 15 = .ok (.istore_n 1, 1)) rfl rfl
theorem oX11_teach_16 : OpS mX11_teach 16 (o_aload 0 17) := s_aload_n (by decide +kernel : decode cX11_teach 16 = .ok (.aload_n 0, 1)) rfl
theorem oX11_teach_17 : OpS mX11_teach 17 (o_aload 0 18) := s_aload_n (by decide +kernel : decode cX11_teach 17 = .ok (.aload_n 0, 1)) rfl
theorem oX11_teach_18 : OpS mX11_teach 18 (o_getP 11 1 21) := s_getP (k := 1) clsX11 (by decide) rfl (Or.inl wd_747) (by decide +kernel : decode cX11_teach 18 = .ok (.getfield 21, 3)) rfl
theorem oX11_teach_21 : OpS mX11_teach 21 (o_callV mX7_errorPosition 7 0 24) := s_callV ceX7_errorPosition clsX7 (Or.inl wd_1100) wd_1101 selX7_errorPosition (by decide +kernel : decode cX11_teach 21 = .ok (.invokevirtual 89, 3))
theorem oX11_teach_24 : OpS mX11_teach 24 (o_putI 11 9 27) := s_putI (k := 9) clsX11 (by decide) rfl (Or.inl ⟨wd_755, Or.inl rfl⟩) (by decide +kernel : decode cX11_teach 24 = .ok (.putfield 59, 3)) rfl rfl
theorem oX11_teach_27 : OpS mX11_teach 27 (o_aload 0 28) := s_aload_n (by decide +kernel : decode cX11_teach 27 = .ok (.aload_n 0, 1)) rfl
theorem oX11_teach_28 : OpS mX11_teach 28 (o_getP 11 0 31) := s_getP (k := 0) clsX11 (by decide) rfl (Or.inl wd_746) (by decide +kernel : decode cX11_teach 28 = .ok (.getfield 14, 3)) rfl
theorem oX11_teach_31 : OpS mX11_teach 31 (o_callV mX9_clear 9 0 34) := s_callV ceX9_clear clsX9 (Or.inl wd_315) wd_109 selX9_clear (by decide +kernel : decode cX11_teach 31 = .ok (.invokevirtual 91, 3))
theorem oX11_teach_34 : OpS mX11_teach 34 (o_iload 1 35) := s_iload_n (by decide +kernel : decode cX11_teach 34 = .ok (.iload_n 1, 1)) rfl
theorem oX11_teach_35 : OpS mX11_teach 35 (o_if (fun x => x = 0) 38 68) := s_if_ne (by decide +kernel : decode cX11_teach 35 = .ok (.ifCond .ne 33, 3)) (by decide)
theorem oX11_teach_38 : OpS mX11_teach 38 (o_aload 0 39) := s_aload_n (by decide +kernel : decode cX11_teach 38 = .ok (.aload_n 0, 1)) rfl
theorem oX11_teach_39 : OpS mX11_teach 39 (o_getP 11 2 42) := s_getP (k := 2) clsX11 (by decide) rfl (Or.inl wd_748) (by decide +kernel : decode cX11_teach 39 = .ok (.getfield 28, 3)) rfl
theorem oX11_teach_42 : OpS mX11_teach 42 (o_astore 2 3 43) := s_astore_n (by decide +kernel : decode cX11_teach 42 = .ok (.astore_n 2, 1)) rfl rfl
theorem oX11_teach_43 : OpS mX11_teach 43 (o_aload 0 44) := s_aload_n (by decide +kernel : decode cX11_teach 43 = .ok (.aload_n 0, 1)) rfl
theorem oX11_teach_44 : OpS mX11_teach 44 (o_aload 0 45) := s_aload_n (by decide +kernel : decode cX11_teach 44 = .ok (.aload_n 0, 1)) rfl
theorem oX11_teach_45 : OpS mX11_teach 45 (o_getP 11 3 48) := s_getP (k := 3) clsX11 (by decide) rfl (Or.inl wd_749) (by decide +kernel : decode cX11_teach 45 = .ok (.getfield 32, 3)) rfl
theorem oX11_teach_48 : OpS mX11_teach 48 (o_putP 11 2 51) := s_putP (k := 2) clsX11 (by decide) rfl (Or.inl ⟨wd_748, Or.inl rfl⟩) (by decide +kernel : decode cX11_teach 48 = .ok (.putfield 28, 3)) rfl (fun _ => rfl) (fun _ => rfl)
theorem oX11_teach_51 : OpS mX11_teach 51 (o_aload 0 52) := s_aload_n (by decide +kernel : decode cX11_teach 51 = .ok (.aload_n 0, 1)) rfl
theorem oX11_teach_52 : OpS mX11_teach 52 (o_aload 2 53) := s_aload_n (by decide +kernel : decode cX11_teach 52 = .ok (.aload_n 2, 1)) rfl
theorem oX11_teach_53 : OpS mX11_teach 53 (o_putP 11 3 56) := s_putP (k := 3) clsX11 (by decide) rfl (Or.inl ⟨wd_749, Or.inl rfl⟩) (by decide +kernel : decode cX11_teach 53 = .ok (.putfield 32, 3)) rfl (fun _ => rfl) (fun _ => rfl)
theorem oX11_teach_56 : OpS mX11_teach 56 (o_aload 0 57) := s_aload_n (by decide +kernel : decode cX11_teach 56 = .ok (.aload_n 0, 1)) rfl
theorem oX11_teach_57 : OpS mX11_teach 57 (o_getP 11 4 60) := s_getP (k := 4) clsX11 (by decide) rfl (Or.inl wd_750) (by decide +kernel : decode cX11_teach 57 = .ok (.getfield 38, 3)) rfl
theorem oX11_teach_60 : OpS mX11_teach 60 (o_callV mX3_forget 3 0 63) := s_callV ceX3_forget clsX3 (Or.inl wd_1104) wd_1105 selX3_forget (by decide +kernel : decode cX11_teach 60 = .ok (.invokevirtual 94, 3))
theorem oX11_teach_63 : OpS mX11_teach 63 (o_aload 0 64) := s_aload_n (by decide +kernel : decode cX11_teach 63 = .ok (.aload_n 0, 1)) rfl
theorem oX11_teach_64 : OpS mX11_teach 64 (o_const (.int 0) 65) := s_iconst (by decide +kernel : decode cX11_teach 64 = .ok (.iconst 0, 1)) (by decide)
theorem oX11_teach_65 : OpS mX11_teach 65 (o_putZ 11 6 68) := s_putZ (k := 6) clsX11 (by decide) rfl (Or.inl ⟨wd_752, Or.inl rfl⟩) (by decide +kernel : decode cX11_teach 65 = .ok (.putfield 49, 3)) rfl rfl
theorem oX11_teach_68 : OpS mX11_teach 68 (o_iload 1 69) := s_iload_n (by decide +kernel : decode cX11_teach 68 = .ok (.iload_n 1, 1)) rfl
theorem oX11_teach_69 : OpS mX11_teach 69 (o_iret) := s_iret rfl (by decide +kernel : decode cX11_teach 69 = .ok (.ireturn, 1))
theorem oX11_count_0 : OpS mX11_count 0 (o_iload 1 1) := s_iload_n (by decide +kernel : decode cX11_count 0 = .ok (.iload_n 1, 1)) rfl
theorem oX11_count_1 : OpS mX11_count 1 (o_if (fun x => x < 0) 10 4) := s_if_lt (by decide +kernel : decode cX11_count 1 = .ok (.ifCond .lt 9, 3)) (by decide)
theorem oX11_count_4 : OpS mX11_count 4 (o_iload 1 5) := s_iload_n (by decide +kernel : decode cX11_count 4 = .ok (.iload_n 1, 1)) rfl
theorem oX11_count_5 : OpS mX11_count 5 (o_const (.int 13) 7) := s_bipush (by decide +kernel : decode cX11_count 5 = .ok (.bipush 13, 2)) (by decide)
theorem oX11_count_7 : OpS mX11_count 7 (o_icmp (fun x y => x < y) 20 10) := s_icmp_lt (by decide +kernel : decode cX11_count 7 = .ok (.if_icmp .lt 13, 3)) (by decide)
theorem oX11_count_10 : OpS mX11_count 10 (o_throw "java/lang/IndexOutOfBoundsException") := s_throw (E := "java/lang/IndexOutOfBoundsException") (i := 4) (ic := 101) (names := thNames) (by decide +kernel) thNames_ok rfl rfl wd_29 wd_20 rfl thw_X11_101 (by decide +kernel) (by decide +kernel : decode cX11_count 10 = .ok (.new 97, 3)) (by decide +kernel : decode cX11_count 13 = .ok (.dup, 1)) (by decide +kernel : decode cX11_count 14 = .ok (.ldc 99, 2)) (by decide +kernel : decode cX11_count 16 = .ok (.invokespecial 101, 3)) (by decide +kernel : decode cX11_count 19 = .ok (.athrow, 1))
theorem oX11_count_20 : OpS mX11_count 20 (o_aload 0 21) := s_aload_n (by decide +kernel : decode cX11_count 20 = .ok (.aload_n 0, 1)) rfl
theorem oX11_count_21 : OpS mX11_count 21 (o_callV mX11_rank 11 0 24) := s_callV ceX11_rank clsX11 (Or.inl wd_99) wd_101 selX11_rank (by decide +kernel : decode cX11_count 21 = .ok (.invokevirtual 102, 3))
theorem oX11_count_24 : OpS mX11_count 24 (o_aload 0 25) := s_aload_n (by decide +kernel : decode cX11_count 24 = .ok (.aload_n 0, 1)) rfl
theorem oX11_count_25 : OpS mX11_count 25 (o_iload 1 26) := s_iload_n (by decide +kernel : decode cX11_count 25 = .ok (.iload_n 1, 1)) rfl
theorem oX11_count_26 : OpS mX11_count 26 (o_callV mX11_figure 11 1 29) := s_callV ceX11_figure clsX11 (Or.inl wd_214) wd_216 selX11_figure (by decide +kernel : decode cX11_count 26 = .ok (.invokevirtual 105, 3))
theorem oX11_count_29 : OpS mX11_count 29 (o_iret) := s_iret rfl (by decide +kernel : decode cX11_count 29 = .ok (.ireturn, 1))
theorem oX11_type_0 : OpS mX11_type 0 (o_iload 1 1) := s_iload_n (by decide +kernel : decode cX11_type 0 = .ok (.iload_n 1, 1)) rfl
theorem oX11_type_1 : OpS mX11_type 1 (o_callS mX11_isLetter 1 4) := s_callS ceX11_isLetter (Or.inl wd_252) wd_253 (by decide +kernel : decode cX11_type 1 = .ok (.invokestatic 109, 3))
theorem oX11_type_4 : OpS mX11_type 4 (o_if (fun x => x = 0) 7 17) := s_if_ne (by decide +kernel : decode cX11_type 4 = .ok (.ifCond .ne 13, 3)) (by decide)
theorem oX11_type_7 : OpS mX11_type 7 (o_throw "java/lang/IllegalArgumentException") := s_throw (E := "java/lang/IllegalArgumentException") (i := 5) (ic := 81) (names := thNames) (by decide +kernel) thNames_ok rfl rfl wd_255 wd_22 rfl thw_X11_81 (by decide +kernel) (by decide +kernel : decode cX11_type 7 = .ok (.new 77, 3)) (by decide +kernel : decode cX11_type 10 = .ok (.dup, 1)) (by decide +kernel : decode cX11_type 11 = .ok (.ldc 113, 2)) (by decide +kernel : decode cX11_type 13 = .ok (.invokespecial 81, 3)) (by decide +kernel : decode cX11_type 16 = .ok (.athrow, 1))
theorem oX11_type_17 : OpS mX11_type 17 (o_aload 0 18) := s_aload_n (by decide +kernel : decode cX11_type 17 = .ok (.aload_n 0, 1)) rfl
theorem oX11_type_18 : OpS mX11_type 18 (o_getP 11 4 21) := s_getP (k := 4) clsX11 (by decide) rfl (Or.inl wd_750) (by decide +kernel : decode cX11_type 18 = .ok (.getfield 38, 3)) rfl
theorem oX11_type_21 : OpS mX11_type 21 (o_getP 3 0 24) := s_getP (k := 0) clsX3 (by decide) rfl (Or.inr ⟨_, wd_685⟩) (by decide +kernel : decode cX11_type 21 = .ok (.getfield 115, 3)) rfl
theorem oX11_type_24 : OpS mX11_type 24 (o_callV mX9_isFull 9 0 27) := s_callV ceX9_isFull clsX9 (Or.inl wd_271) wd_272 selX9_isFull (by decide +kernel : decode cX11_type 24 = .ok (.invokevirtual 118, 3))
theorem oX11_type_27 : OpS mX11_type 27 (o_if (fun x => x = 0) 40 30) := s_if_eq (by decide +kernel : decode cX11_type 27 = .ok (.ifCond .eq 13, 3)) (by decide)
theorem oX11_type_30 : OpS mX11_type 30 (o_throw "java/lang/IllegalStateException") := s_throw (E := "java/lang/IllegalStateException") (i := 6) (ic := 71) (names := thNames) (by decide +kernel) thNames_ok rfl rfl wd_275 wd_21 rfl thw_X11_71 (by decide +kernel) (by decide +kernel : decode cX11_type 30 = .ok (.new 67, 3)) (by decide +kernel : decode cX11_type 33 = .ok (.dup, 1)) (by decide +kernel : decode cX11_type 34 = .ok (.ldc 122, 2)) (by decide +kernel : decode cX11_type 36 = .ok (.invokespecial 71, 3)) (by decide +kernel : decode cX11_type 39 = .ok (.athrow, 1))
theorem oX11_type_40 : OpS mX11_type 40 (o_aload 0 41) := s_aload_n (by decide +kernel : decode cX11_type 40 = .ok (.aload_n 0, 1)) rfl
theorem oX11_type_41 : OpS mX11_type 41 (o_getP 11 4 44) := s_getP (k := 4) clsX11 (by decide) rfl (Or.inl wd_750) (by decide +kernel : decode cX11_type 41 = .ok (.getfield 38, 3)) rfl
theorem oX11_type_44 : OpS mX11_type 44 (o_getP 3 0 47) := s_getP (k := 0) clsX3 (by decide) rfl (Or.inr ⟨_, wd_685⟩) (by decide +kernel : decode cX11_type 44 = .ok (.getfield 115, 3)) rfl
theorem oX11_type_47 : OpS mX11_type 47 (o_iload 1 48) := s_iload_n (by decide +kernel : decode cX11_type 47 = .ok (.iload_n 1, 1)) rfl
theorem oX11_type_48 : OpS mX11_type 48 (o_callV mX9_add 9 1 51) := s_callV ceX9_add clsX9 (Or.inl wd_291) wd_129 selX9_add (by decide +kernel : decode cX11_type 48 = .ok (.invokevirtual 124, 3))
theorem oX11_type_51 : OpS mX11_type 51 (o_aload 0 52) := s_aload_n (by decide +kernel : decode cX11_type 51 = .ok (.aload_n 0, 1)) rfl
theorem oX11_type_52 : OpS mX11_type 52 (o_const (.int 0) 53) := s_iconst (by decide +kernel : decode cX11_type 52 = .ok (.iconst 0, 1)) (by decide)
theorem oX11_type_53 : OpS mX11_type 53 (o_putZ 11 6 56) := s_putZ (k := 6) clsX11 (by decide) rfl (Or.inl ⟨wd_752, Or.inl rfl⟩) (by decide +kernel : decode cX11_type 53 = .ok (.putfield 49, 3)) rfl rfl
theorem oX11_type_56 : OpS mX11_type 56 (o_aload 0 57) := s_aload_n (by decide +kernel : decode cX11_type 56 = .ok (.aload_n 0, 1)) rfl
theorem oX11_type_57 : OpS mX11_type 57 (o_getP 11 4 60) := s_getP (k := 4) clsX11 (by decide) rfl (Or.inl wd_750) (by decide +kernel : decode cX11_type 57 = .ok (.getfield 38, 3)) rfl
theorem oX11_type_60 : OpS mX11_type 60 (o_getP 3 0 63) := s_getP (k := 0) clsX3 (by decide) rfl (Or.inr ⟨_, wd_685⟩) (by decide +kernel : decode cX11_type 60 = .ok (.getfield 115, 3)) rfl
theorem oX11_type_63 : OpS mX11_type 63 (o_callV mX9_size 9 0 66) := s_callV ceX9_size clsX9 (Or.inl wd_224) wd_125 selX9_size (by decide +kernel : decode cX11_type 63 = .ok (.invokevirtual 63, 3))
theorem oX11_type_66 : OpS mX11_type 66 (o_iret) := s_iret rfl (by decide +kernel : decode cX11_type 66 = .ok (.ireturn, 1))
theorem oX11_back_0 : OpS mX11_back 0 (o_aload 0 1) := s_aload_n (by decide +kernel : decode cX11_back 0 = .ok (.aload_n 0, 1)) rfl
theorem oX11_back_1 : OpS mX11_back 1 (o_getP 11 4 4) := s_getP (k := 4) clsX11 (by decide) rfl (Or.inl wd_750) (by decide +kernel : decode cX11_back 1 = .ok (.getfield 38, 3)) rfl
theorem oX11_back_4 : OpS mX11_back 4 (o_getP 3 0 7) := s_getP (k := 0) clsX3 (by decide) rfl (Or.inr ⟨_, wd_685⟩) (by decide +kernel : decode cX11_back 4 = .ok (.getfield 115, 3)) rfl
theorem oX11_back_7 : OpS mX11_back 7 (o_callV mX9_size 9 0 10) := s_callV ceX9_size clsX9 (Or.inl wd_224) wd_125 selX9_size (by decide +kernel : decode cX11_back 7 = .ok (.invokevirtual 63, 3))
theorem oX11_back_10 : OpS mX11_back 10 (o_if (fun x => x = 0) 13 23) := s_if_ne (by decide +kernel : decode cX11_back 10 = .ok (.ifCond .ne 13, 3)) (by decide)
theorem oX11_back_13 : OpS mX11_back 13 (o_throw "java/lang/IllegalStateException") := s_throw (E := "java/lang/IllegalStateException") (i := 7) (ic := 71) (names := thNames) (by decide +kernel) thNames_ok rfl rfl wd_275 wd_21 rfl thw_X11_71 (by decide +kernel) (by decide +kernel : decode cX11_back 13 = .ok (.new 67, 3)) (by decide +kernel : decode cX11_back 16 = .ok (.dup, 1)) (by decide +kernel : decode cX11_back 17 = .ok (.ldc 127, 2)) (by decide +kernel : decode cX11_back 19 = .ok (.invokespecial 71, 3)) (by decide +kernel : decode cX11_back 22 = .ok (.athrow, 1))
theorem oX11_back_23 : OpS mX11_back 23 (o_aload 0 24) := s_aload_n (by decide +kernel : decode cX11_back 23 = .ok (.aload_n 0, 1)) rfl
theorem oX11_back_24 : OpS mX11_back 24 (o_const (.int 0) 25) := s_iconst (by decide +kernel : decode cX11_back 24 = .ok (.iconst 0, 1)) (by decide)
theorem oX11_back_25 : OpS mX11_back 25 (o_putZ 11 6 28) := s_putZ (k := 6) clsX11 (by decide) rfl (Or.inl ⟨wd_752, Or.inl rfl⟩) (by decide +kernel : decode cX11_back 25 = .ok (.putfield 49, 3)) rfl rfl
theorem oX11_back_28 : OpS mX11_back 28 (o_aload 0 29) := s_aload_n (by decide +kernel : decode cX11_back 28 = .ok (.aload_n 0, 1)) rfl
theorem oX11_back_29 : OpS mX11_back 29 (o_getP 11 4 32) := s_getP (k := 4) clsX11 (by decide) rfl (Or.inl wd_750) (by decide +kernel : decode cX11_back 29 = .ok (.getfield 38, 3)) rfl
theorem oX11_back_32 : OpS mX11_back 32 (o_getP 3 0 35) := s_getP (k := 0) clsX3 (by decide) rfl (Or.inr ⟨_, wd_685⟩) (by decide +kernel : decode cX11_back 32 = .ok (.getfield 115, 3)) rfl
theorem oX11_back_35 : OpS mX11_back 35 (o_callV mX9_removeLast 9 0 38) := s_callV ceX9_removeLast clsX9 (Or.inl wd_297) wd_185 selX9_removeLast (by decide +kernel : decode cX11_back 35 = .ok (.invokevirtual 129, 3))
theorem oX11_back_38 : OpS mX11_back 38 (o_iret) := s_iret rfl (by decide +kernel : decode cX11_back 38 = .ok (.ireturn, 1))
theorem oX11_take_0 : OpS mX11_take 0 (o_iload 1 1) := s_iload_n (by decide +kernel : decode cX11_take 0 = .ok (.iload_n 1, 1)) rfl
theorem oX11_take_1 : OpS mX11_take 1 (o_if (fun x => x < 0) 9 4) := s_if_lt (by decide +kernel : decode cX11_take 1 = .ok (.ifCond .lt 8, 3)) (by decide)
theorem oX11_take_4 : OpS mX11_take 4 (o_iload 1 5) := s_iload_n (by decide +kernel : decode cX11_take 4 = .ok (.iload_n 1, 1)) rfl
theorem oX11_take_5 : OpS mX11_take 5 (o_const (.int 5) 6) := s_iconst (by decide +kernel : decode cX11_take 5 = .ok (.iconst 5, 1)) (by decide)
theorem oX11_take_6 : OpS mX11_take 6 (o_icmp (fun x y => x < y) 19 9) := s_icmp_lt (by decide +kernel : decode cX11_take 6 = .ok (.if_icmp .lt 13, 3)) (by decide)
theorem oX11_take_9 : OpS mX11_take 9 (o_throw "java/lang/IndexOutOfBoundsException") := s_throw (E := "java/lang/IndexOutOfBoundsException") (i := 8) (ic := 101) (names := thNames) (by decide +kernel) thNames_ok rfl rfl wd_29 wd_20 rfl thw_X11_101 (by decide +kernel) (by decide +kernel : decode cX11_take 9 = .ok (.new 97, 3)) (by decide +kernel : decode cX11_take 12 = .ok (.dup, 1)) (by decide +kernel : decode cX11_take 13 = .ok (.ldc 132, 2)) (by decide +kernel : decode cX11_take 15 = .ok (.invokespecial 101, 3)) (by decide +kernel : decode cX11_take 18 = .ok (.athrow, 1))
theorem oX11_take_19 : OpS mX11_take 19 (o_aload 0 20) := s_aload_n (by decide +kernel : decode cX11_take 19 = .ok (.aload_n 0, 1)) rfl
theorem oX11_take_20 : OpS mX11_take 20 (o_callV mX11_rank 11 0 23) := s_callV ceX11_rank clsX11 (Or.inl wd_99) wd_101 selX11_rank (by decide +kernel : decode cX11_take 20 = .ok (.invokevirtual 102, 3))
theorem oX11_take_23 : OpS mX11_take 23 (o_aload 0 24) := s_aload_n (by decide +kernel : decode cX11_take 23 = .ok (.aload_n 0, 1)) rfl
theorem oX11_take_24 : OpS mX11_take 24 (o_getP 11 5 27) := s_getP (k := 5) clsX11 (by decide) rfl (Or.inl wd_751) (by decide +kernel : decode cX11_take 24 = .ok (.getfield 45, 3)) rfl
theorem oX11_take_27 : OpS mX11_take 27 (o_iload 1 28) := s_iload_n (by decide +kernel : decode cX11_take 27 = .ok (.iload_n 1, 1)) rfl
theorem oX11_take_28 : OpS mX11_take 28 (o_callV mX6_offered 6 1 31) := s_callV ceX6_offered clsX6 (Or.inl wd_303) wd_304 selX6_offered (by decide +kernel : decode cX11_take 28 = .ok (.invokevirtual 134, 3))
theorem oX11_take_31 : OpS mX11_take 31 (o_istore 2 3 32) := s_istore_n (by decide +kernel : decode cX11_take 31 = .ok (.istore_n 2, 1)) rfl rfl
theorem oX11_take_32 : OpS mX11_take 32 (o_iload 2 33) := s_iload_n (by decide +kernel : decode cX11_take 32 = .ok (.iload_n 2, 1)) rfl
theorem oX11_take_33 : OpS mX11_take 33 (o_if (fun x => 0 ≤ x) 46 36) := s_if_ge (by decide +kernel : decode cX11_take 33 = .ok (.ifCond .ge 13, 3)) (by decide)
theorem oX11_take_36 : OpS mX11_take 36 (o_throw "java/lang/IllegalStateException") := s_throw (E := "java/lang/IllegalStateException") (i := 9) (ic := 71) (names := thNames) (by decide +kernel) thNames_ok rfl rfl wd_275 wd_21 rfl thw_X11_71 (by decide +kernel) (by decide +kernel : decode cX11_take 36 = .ok (.new 67, 3)) (by decide +kernel : decode cX11_take 39 = .ok (.dup, 1)) (by decide +kernel : decode cX11_take 40 = .ok (.ldc 137, 2)) (by decide +kernel : decode cX11_take 42 = .ok (.invokespecial 71, 3)) (by decide +kernel : decode cX11_take 45 = .ok (.athrow, 1))
theorem oX11_take_46 : OpS mX11_take 46 (o_aload 0 47) := s_aload_n (by decide +kernel : decode cX11_take 46 = .ok (.aload_n 0, 1)) rfl
theorem oX11_take_47 : OpS mX11_take 47 (o_iload 2 48) := s_iload_n (by decide +kernel : decode cX11_take 47 = .ok (.iload_n 2, 1)) rfl
theorem oX11_take_48 : OpS mX11_take 48 (o_callV mX11_takeWord 11 1 51) := s_callV ceX11_takeWord clsX11 (Or.inl wd_308) wd_310 selX11_takeWord (by decide +kernel : decode cX11_take 48 = .ok (.invokevirtual 139, 3))
theorem oX11_take_51 : OpS mX11_take 51 (o_iload 2 52) := s_iload_n (by decide +kernel : decode cX11_take 51 = .ok (.iload_n 2, 1)) rfl
theorem oX11_take_52 : OpS mX11_take 52 (o_iret) := s_iret rfl (by decide +kernel : decode cX11_take 52 = .ok (.ireturn, 1))
theorem oX11_setLimit_0 : OpS mX11_setLimit 0 (o_iload 1 1) := s_iload_n (by decide +kernel : decode cX11_setLimit 0 = .ok (.iload_n 1, 1)) rfl
theorem oX11_setLimit_1 : OpS mX11_setLimit 1 (o_if (fun x => x < 0) 10 4) := s_if_lt (by decide +kernel : decode cX11_setLimit 1 = .ok (.ifCond .lt 9, 3)) (by decide)
theorem oX11_setLimit_4 : OpS mX11_setLimit 4 (o_iload 1 5) := s_iload_n (by decide +kernel : decode cX11_setLimit 4 = .ok (.iload_n 1, 1)) rfl
theorem oX11_setLimit_5 : OpS mX11_setLimit 5 (o_const (.int 9) 7) := s_bipush (by decide +kernel : decode cX11_setLimit 5 = .ok (.bipush 9, 2)) (by decide)
theorem oX11_setLimit_7 : OpS mX11_setLimit 7 (o_icmp (fun x y => x ≤ y) 20 10) := s_icmp_le (by decide +kernel : decode cX11_setLimit 7 = .ok (.if_icmp .le 13, 3)) (by decide)
theorem oX11_setLimit_10 : OpS mX11_setLimit 10 (o_throw "java/lang/IllegalArgumentException") := s_throw (E := "java/lang/IllegalArgumentException") (i := 10) (ic := 81) (names := thNames) (by decide +kernel) thNames_ok rfl rfl wd_255 wd_22 rfl thw_X11_81 (by decide +kernel) (by decide +kernel : decode cX11_setLimit 10 = .ok (.new 77, 3)) (by decide +kernel : decode cX11_setLimit 13 = .ok (.dup, 1)) (by decide +kernel : decode cX11_setLimit 14 = .ok (.ldc 167, 2)) (by decide +kernel : decode cX11_setLimit 16 = .ok (.invokespecial 81, 3)) (by decide +kernel : decode cX11_setLimit 19 = .ok (.athrow, 1))
theorem oX11_setLimit_20 : OpS mX11_setLimit 20 (o_aload 0 21) := s_aload_n (by decide +kernel : decode cX11_setLimit 20 = .ok (.aload_n 0, 1)) rfl
theorem oX11_setLimit_21 : OpS mX11_setLimit 21 (o_getP 11 4 24) := s_getP (k := 4) clsX11 (by decide) rfl (Or.inl wd_750) (by decide +kernel : decode cX11_setLimit 21 = .ok (.getfield 38, 3)) rfl
theorem oX11_setLimit_24 : OpS mX11_setLimit 24 (o_getI 3 3 27) := s_getI (k := 3) clsX3 (by decide) rfl (Or.inr ⟨_, wd_696⟩) (by decide +kernel : decode cX11_setLimit 24 = .ok (.getfield 169, 3)) rfl
theorem oX11_setLimit_27 : OpS mX11_setLimit 27 (o_istore 2 3 28) := s_istore_n (by decide +kernel : decode cX11_setLimit 27 = .ok (.istore_n 2, 1)) rfl rfl
theorem oX11_setLimit_28 : OpS mX11_setLimit 28 (o_aload 0 29) := s_aload_n (by decide +kernel : decode cX11_setLimit 28 = .ok (.aload_n 0, 1)) rfl
theorem oX11_setLimit_29 : OpS mX11_setLimit 29 (o_getP 11 4 32) := s_getP (k := 4) clsX11 (by decide) rfl (Or.inl wd_750) (by decide +kernel : decode cX11_setLimit 29 = .ok (.getfield 38, 3)) rfl
theorem oX11_setLimit_32 : OpS mX11_setLimit 32 (o_iload 1 33) := s_iload_n (by decide +kernel : decode cX11_setLimit 32 = .ok (.iload_n 1, 1)) rfl
theorem oX11_setLimit_33 : OpS mX11_setLimit 33 (o_putI 3 3 36) := s_putI (k := 3) clsX3 (by decide) rfl (Or.inr ⟨rfl, _, wd_696⟩) (by decide +kernel : decode cX11_setLimit 33 = .ok (.putfield 169, 3)) rfl rfl
theorem oX11_setLimit_36 : OpS mX11_setLimit 36 (o_aload 0 37) := s_aload_n (by decide +kernel : decode cX11_setLimit 36 = .ok (.aload_n 0, 1)) rfl
theorem oX11_setLimit_37 : OpS mX11_setLimit 37 (o_const (.int 0) 38) := s_iconst (by decide +kernel : decode cX11_setLimit 37 = .ok (.iconst 0, 1)) (by decide)
theorem oX11_setLimit_38 : OpS mX11_setLimit 38 (o_putZ 11 6 41) := s_putZ (k := 6) clsX11 (by decide) rfl (Or.inl ⟨wd_752, Or.inl rfl⟩) (by decide +kernel : decode cX11_setLimit 38 = .ok (.putfield 49, 3)) rfl rfl
theorem oX11_setLimit_41 : OpS mX11_setLimit 41 (o_iload 2 42) := s_iload_n (by decide +kernel : decode cX11_setLimit 41 = .ok (.iload_n 2, 1)) rfl
theorem oX11_setLimit_42 : OpS mX11_setLimit 42 (o_iret) := s_iret rfl (by decide +kernel : decode cX11_setLimit 42 = .ok (.ireturn, 1))
theorem oX11_offer_0 : OpS mX11_offer 0 (o_iload 1 1) := s_iload_n (by decide +kernel : decode cX11_offer 0 = .ok (.iload_n 1, 1)) rfl
theorem oX11_offer_1 : OpS mX11_offer 1 (o_if (fun x => x < 0) 9 4) := s_if_lt (by decide +kernel : decode cX11_offer 1 = .ok (.ifCond .lt 8, 3)) (by decide)
theorem oX11_offer_4 : OpS mX11_offer 4 (o_iload 1 5) := s_iload_n (by decide +kernel : decode cX11_offer 4 = .ok (.iload_n 1, 1)) rfl
theorem oX11_offer_5 : OpS mX11_offer 5 (o_const (.int 5) 6) := s_iconst (by decide +kernel : decode cX11_offer 5 = .ok (.iconst 5, 1)) (by decide)
theorem oX11_offer_6 : OpS mX11_offer 6 (o_icmp (fun x y => x < y) 19 9) := s_icmp_lt (by decide +kernel : decode cX11_offer 6 = .ok (.if_icmp .lt 13, 3)) (by decide)
theorem oX11_offer_9 : OpS mX11_offer 9 (o_throw "java/lang/IndexOutOfBoundsException") := s_throw (E := "java/lang/IndexOutOfBoundsException") (i := 8) (ic := 101) (names := thNames) (by decide +kernel) thNames_ok rfl rfl wd_29 wd_20 rfl thw_X11_101 (by decide +kernel) (by decide +kernel : decode cX11_offer 9 = .ok (.new 97, 3)) (by decide +kernel : decode cX11_offer 12 = .ok (.dup, 1)) (by decide +kernel : decode cX11_offer 13 = .ok (.ldc 132, 2)) (by decide +kernel : decode cX11_offer 15 = .ok (.invokespecial 101, 3)) (by decide +kernel : decode cX11_offer 18 = .ok (.athrow, 1))
theorem oX11_offer_19 : OpS mX11_offer 19 (o_aload 0 20) := s_aload_n (by decide +kernel : decode cX11_offer 19 = .ok (.aload_n 0, 1)) rfl
theorem oX11_offer_20 : OpS mX11_offer 20 (o_callV mX11_rank 11 0 23) := s_callV ceX11_rank clsX11 (Or.inl wd_99) wd_101 selX11_rank (by decide +kernel : decode cX11_offer 20 = .ok (.invokevirtual 102, 3))
theorem oX11_offer_23 : OpS mX11_offer 23 (o_aload 0 24) := s_aload_n (by decide +kernel : decode cX11_offer 23 = .ok (.aload_n 0, 1)) rfl
theorem oX11_offer_24 : OpS mX11_offer 24 (o_getP 11 5 27) := s_getP (k := 5) clsX11 (by decide) rfl (Or.inl wd_751) (by decide +kernel : decode cX11_offer 24 = .ok (.getfield 45, 3)) rfl
theorem oX11_offer_27 : OpS mX11_offer 27 (o_iload 1 28) := s_iload_n (by decide +kernel : decode cX11_offer 27 = .ok (.iload_n 1, 1)) rfl
theorem oX11_offer_28 : OpS mX11_offer 28 (o_callV mX6_offered 6 1 31) := s_callV ceX6_offered clsX6 (Or.inl wd_303) wd_304 selX6_offered (by decide +kernel : decode cX11_offer 28 = .ok (.invokevirtual 134, 3))
theorem oX11_offer_31 : OpS mX11_offer 31 (o_iret) := s_iret rfl (by decide +kernel : decode cX11_offer 31 = .ok (.ireturn, 1))
theorem oX11_word_0 : OpS mX11_word 0 (o_aload 0 1) := s_aload_n (by decide +kernel : decode cX11_word 0 = .ok (.aload_n 0, 1)) rfl
theorem oX11_word_1 : OpS mX11_word 1 (o_getP 11 2 4) := s_getP (k := 2) clsX11 (by decide) rfl (Or.inl wd_748) (by decide +kernel : decode cX11_word 1 = .ok (.getfield 28, 3)) rfl
theorem oX11_word_4 : OpS mX11_word 4 (o_iload 1 5) := s_iload_n (by decide +kernel : decode cX11_word 4 = .ok (.iload_n 1, 1)) rfl
theorem oX11_word_5 : OpS mX11_word 5 (o_callV mX0_hasWord 0 1 8) := s_callV ceX0_hasWord clsX0 (Or.inl wd_334) wd_335 selX0_hasWord (by decide +kernel : decode cX11_word 5 = .ok (.invokevirtual 172, 3))
theorem oX11_word_8 : OpS mX11_word 8 (o_if (fun x => x = 0) 21 11) := s_if_eq (by decide +kernel : decode cX11_word 8 = .ok (.ifCond .eq 13, 3)) (by decide)
theorem oX11_word_11 : OpS mX11_word 11 (o_iload 2 12) := s_iload_n (by decide +kernel : decode cX11_word 11 = .ok (.iload_n 2, 1)) rfl
theorem oX11_word_12 : OpS mX11_word 12 (o_if (fun x => x < 0) 21 15) := s_if_lt (by decide +kernel : decode cX11_word 12 = .ok (.ifCond .lt 9, 3)) (by decide)
theorem oX11_word_15 : OpS mX11_word 15 (o_iload 2 16) := s_iload_n (by decide +kernel : decode cX11_word 15 = .ok (.iload_n 2, 1)) rfl
theorem oX11_word_16 : OpS mX11_word 16 (o_const (.int 6) 18) := s_bipush (by decide +kernel : decode cX11_word 16 = .ok (.bipush 6, 2)) (by decide)
theorem oX11_word_18 : OpS mX11_word 18 (o_icmp (fun x y => x < y) 31 21) := s_icmp_lt (by decide +kernel : decode cX11_word 18 = .ok (.if_icmp .lt 13, 3)) (by decide)
theorem oX11_word_21 : OpS mX11_word 21 (o_throw "java/lang/IndexOutOfBoundsException") := s_throw (E := "java/lang/IndexOutOfBoundsException") (i := 11) (ic := 101) (names := thNames) (by decide +kernel) thNames_ok rfl rfl wd_29 wd_20 rfl thw_X11_101 (by decide +kernel) (by decide +kernel : decode cX11_word 21 = .ok (.new 97, 3)) (by decide +kernel : decode cX11_word 24 = .ok (.dup, 1)) (by decide +kernel : decode cX11_word 25 = .ok (.ldc 175, 2)) (by decide +kernel : decode cX11_word 27 = .ok (.invokespecial 101, 3)) (by decide +kernel : decode cX11_word 30 = .ok (.athrow, 1))
theorem oX11_word_31 : OpS mX11_word 31 (o_aload 0 32) := s_aload_n (by decide +kernel : decode cX11_word 31 = .ok (.aload_n 0, 1)) rfl
theorem oX11_word_32 : OpS mX11_word 32 (o_callV mX11_rank 11 0 35) := s_callV ceX11_rank clsX11 (Or.inl wd_99) wd_101 selX11_rank (by decide +kernel : decode cX11_word 32 = .ok (.invokevirtual 102, 3))
theorem oX11_word_35 : OpS mX11_word 35 (o_aload 0 36) := s_aload_n (by decide +kernel : decode cX11_word 35 = .ok (.aload_n 0, 1)) rfl
theorem oX11_word_36 : OpS mX11_word 36 (o_iload 1 37) := s_iload_n (by decide +kernel : decode cX11_word 36 = .ok (.iload_n 1, 1)) rfl
theorem oX11_word_37 : OpS mX11_word 37 (o_iload 2 38) := s_iload_n (by decide +kernel : decode cX11_word 37 = .ok (.iload_n 2, 1)) rfl
theorem oX11_word_38 : OpS mX11_word 38 (o_callV mX11_wordFigure 11 2 41) := s_callV ceX11_wordFigure clsX11 (Or.inl wd_339) wd_341 selX11_wordFigure (by decide +kernel : decode cX11_word 38 = .ok (.invokevirtual 177, 3))
theorem oX11_word_41 : OpS mX11_word 41 (o_iret) := s_iret rfl (by decide +kernel : decode cX11_word 41 = .ok (.ireturn, 1))
theorem oX11_best_0 : OpS mX11_best 0 (o_const (.int (-1)) 1) := s_iconst (by decide +kernel : decode cX11_best 0 = .ok (.iconst (-1), 1)) (by decide)
theorem oX11_best_1 : OpS mX11_best 1 (o_istore 1 5 2) := s_istore_n (by decide +kernel : decode cX11_best 1 = .ok (.istore_n 1, 1)) rfl rfl
theorem oX11_best_2 : OpS mX11_best 2 (o_const (.int (-1)) 3) := s_iconst (by decide +kernel : decode cX11_best 2 = .ok (.iconst (-1), 1)) (by decide)
theorem oX11_best_3 : OpS mX11_best 3 (o_istore 2 5 4) := s_istore_n (by decide +kernel : decode cX11_best 3 = .ok (.istore_n 2, 1)) rfl rfl
theorem oX11_best_4 : OpS mX11_best 4 (o_const (.int 97) 6) := s_bipush (by decide +kernel : decode cX11_best 4 = .ok (.bipush 97, 2)) (by decide)
theorem oX11_best_6 : OpS mX11_best 6 (o_istore 3 5 7) := s_istore_n (by decide +kernel : decode cX11_best 6 = .ok (.istore_n 3, 1)) rfl rfl
theorem oX11_best_7 : OpS mX11_best 7 (o_iload 3 8) := s_iload_n (by decide +kernel : decode cX11_best 7 = .ok (.iload_n 3, 1)) rfl
theorem oX11_best_8 : OpS mX11_best 8 (o_const (.int 122) 10) := s_bipush (by decide +kernel : decode cX11_best 8 = .ok (.bipush 122, 2)) (by decide)
theorem oX11_best_10 : OpS mX11_best 10 (o_icmp (fun x y => y < x) 47 13) := s_icmp_gt (by decide +kernel : decode cX11_best 10 = .ok (.if_icmp .gt 37, 3)) (by decide)
theorem oX11_best_13 : OpS mX11_best 13 (o_aload 0 14) := s_aload_n (by decide +kernel : decode cX11_best 13 = .ok (.aload_n 0, 1)) rfl
theorem oX11_best_14 : OpS mX11_best 14 (o_getP 11 2 17) := s_getP (k := 2) clsX11 (by decide) rfl (Or.inl wd_748) (by decide +kernel : decode cX11_best 14 = .ok (.getfield 28, 3)) rfl
theorem oX11_best_17 : OpS mX11_best 17 (o_aload 0 18) := s_aload_n (by decide +kernel : decode cX11_best 17 = .ok (.aload_n 0, 1)) rfl
theorem oX11_best_18 : OpS mX11_best 18 (o_getP 11 4 21) := s_getP (k := 4) clsX11 (by decide) rfl (Or.inl wd_750) (by decide +kernel : decode cX11_best 18 = .ok (.getfield 38, 3)) rfl
theorem oX11_best_21 : OpS mX11_best 21 (o_getP 3 0 24) := s_getP (k := 0) clsX3 (by decide) rfl (Or.inr ⟨_, wd_685⟩) (by decide +kernel : decode cX11_best 21 = .ok (.getfield 115, 3)) rfl
theorem oX11_best_24 : OpS mX11_best 24 (o_iload 3 25) := s_iload_n (by decide +kernel : decode cX11_best 24 = .ok (.iload_n 3, 1)) rfl
theorem oX11_best_25 : OpS mX11_best 25 (o_callV mX0_weightBehind 0 2 28) := s_callV ceX0_weightBehind clsX0 (Or.inl wd_360) wd_361 selX0_weightBehind (by decide +kernel : decode cX11_best 25 = .ok (.invokevirtual 199, 3))
theorem oX11_best_28 : OpS mX11_best 28 (o_istore 4 5 30) := s_istore (by decide +kernel : decode cX11_best 28 = .ok (.istore 4, 2)) rfl
theorem oX11_best_30 : OpS mX11_best 30 (o_iload 4 32) := s_iload (by decide +kernel : decode cX11_best 30 = .ok (.iload 4, 2))
theorem oX11_best_32 : OpS mX11_best 32 (o_iload 2 33) := s_iload_n (by decide +kernel : decode cX11_best 32 = .ok (.iload_n 2, 1)) rfl
theorem oX11_best_33 : OpS mX11_best 33 (o_icmp (fun x y => x ≤ y) 41 36) := s_icmp_le (by decide +kernel : decode cX11_best 33 = .ok (.if_icmp .le 8, 3)) (by decide)
theorem oX11_best_36 : OpS mX11_best 36 (o_iload 4 38) := s_iload (by decide +kernel : decode cX11_best 36 = .ok (.iload 4, 2))
theorem oX11_best_38 : OpS mX11_best 38 (o_istore 2 5 39) := s_istore_n (by decide +kernel : decode cX11_best 38 = .ok (.istore_n 2, 1)) rfl rfl
theorem oX11_best_39 : OpS mX11_best 39 (o_iload 3 40) := s_iload_n (by decide +kernel : decode cX11_best 39 = .ok (.iload_n 3, 1)) rfl
theorem oX11_best_40 : OpS mX11_best 40 (o_istore 1 5 41) := s_istore_n (by decide +kernel : decode cX11_best 40 = .ok (.istore_n 1, 1)) rfl rfl
theorem oX11_best_41 : OpS mX11_best 41 (o_iinc 3 5 1 44) := s_iinc (by decide +kernel : decode cX11_best 41 = .ok (.iinc 3 1, 3)) (by decide) rfl
theorem oX11_best_44 : OpS mX11_best 44 (o_goto 7) := s_goto (by decide +kernel : decode cX11_best 44 = .ok (.goto (-37), 3)) (by decide)
theorem oX11_best_47 : OpS mX11_best 47 (o_iload 1 48) := s_iload_n (by decide +kernel : decode cX11_best 47 = .ok (.iload_n 1, 1)) rfl
theorem oX11_best_48 : OpS mX11_best 48 (o_iret) := s_iret rfl (by decide +kernel : decode cX11_best 48 = .ok (.ireturn, 1))
theorem oX11_strokes_0 : OpS mX11_strokes 0 (o_aload 0 1) := s_aload_n (by decide +kernel : decode cX11_strokes 0 = .ok (.aload_n 0, 1)) rfl
theorem oX11_strokes_1 : OpS mX11_strokes 1 (o_getP 11 2 4) := s_getP (k := 2) clsX11 (by decide) rfl (Or.inl wd_748) (by decide +kernel : decode cX11_strokes 1 = .ok (.getfield 28, 3)) rfl
theorem oX11_strokes_4 : OpS mX11_strokes 4 (o_iload 1 5) := s_iload_n (by decide +kernel : decode cX11_strokes 4 = .ok (.iload_n 1, 1)) rfl
theorem oX11_strokes_5 : OpS mX11_strokes 5 (o_callV mX0_hasWord 0 1 8) := s_callV ceX0_hasWord clsX0 (Or.inl wd_334) wd_335 selX0_hasWord (by decide +kernel : decode cX11_strokes 5 = .ok (.invokevirtual 172, 3))
theorem oX11_strokes_8 : OpS mX11_strokes 8 (o_if (fun x => x = 0) 11 21) := s_if_ne (by decide +kernel : decode cX11_strokes 8 = .ok (.ifCond .ne 13, 3)) (by decide)
theorem oX11_strokes_11 : OpS mX11_strokes 11 (o_throw "java/lang/IndexOutOfBoundsException") := s_throw (E := "java/lang/IndexOutOfBoundsException") (i := 12) (ic := 101) (names := thNames) (by decide +kernel) thNames_ok rfl rfl wd_29 wd_20 rfl thw_X11_101 (by decide +kernel) (by decide +kernel : decode cX11_strokes 11 = .ok (.new 97, 3)) (by decide +kernel : decode cX11_strokes 14 = .ok (.dup, 1)) (by decide +kernel : decode cX11_strokes 15 = .ok (.ldc 203, 2)) (by decide +kernel : decode cX11_strokes 17 = .ok (.invokespecial 101, 3)) (by decide +kernel : decode cX11_strokes 20 = .ok (.athrow, 1))
theorem oX11_strokes_21 : OpS mX11_strokes 21 (o_aload 0 22) := s_aload_n (by decide +kernel : decode cX11_strokes 21 = .ok (.aload_n 0, 1)) rfl
theorem oX11_strokes_22 : OpS mX11_strokes 22 (o_getP 11 2 25) := s_getP (k := 2) clsX11 (by decide) rfl (Or.inl wd_748) (by decide +kernel : decode cX11_strokes 22 = .ok (.getfield 28, 3)) rfl
theorem oX11_strokes_25 : OpS mX11_strokes 25 (o_getP 0 1 28) := s_getP (k := 1) clsX0 (by decide) rfl (Or.inr ⟨_, wd_644⟩) (by decide +kernel : decode cX11_strokes 25 = .ok (.getfield 144, 3)) rfl
theorem oX11_strokes_28 : OpS mX11_strokes 28 (o_iload 1 29) := s_iload_n (by decide +kernel : decode cX11_strokes 28 = .ok (.iload_n 1, 1)) rfl
theorem oX11_strokes_29 : OpS mX11_strokes 29 (o_callV mX5_at 5 1 32) := s_callV ceX5_at clsX5 (Or.inl wd_343) wd_117 selX5_at (by decide +kernel : decode cX11_strokes 29 = .ok (.invokevirtual 181, 3))
theorem oX11_strokes_32 : OpS mX11_strokes 32 (o_astore 2 4 33) := s_astore_n (by decide +kernel : decode cX11_strokes 32 = .ok (.astore_n 2, 1)) rfl rfl
theorem oX11_strokes_33 : OpS mX11_strokes 33 (o_aload 0 34) := s_aload_n (by decide +kernel : decode cX11_strokes 33 = .ok (.aload_n 0, 1)) rfl
theorem oX11_strokes_34 : OpS mX11_strokes 34 (o_getP 11 7 37) := s_getP (k := 7) clsX11 (by decide) rfl (Or.inl wd_753) (by decide +kernel : decode cX11_strokes 34 = .ok (.getfield 53, 3)) rfl
theorem oX11_strokes_37 : OpS mX11_strokes 37 (o_aload 0 38) := s_aload_n (by decide +kernel : decode cX11_strokes 37 = .ok (.aload_n 0, 1)) rfl
theorem oX11_strokes_38 : OpS mX11_strokes 38 (o_getP 11 4 41) := s_getP (k := 4) clsX11 (by decide) rfl (Or.inl wd_750) (by decide +kernel : decode cX11_strokes 38 = .ok (.getfield 38, 3)) rfl
theorem oX11_strokes_41 : OpS mX11_strokes 41 (o_callV mX3_supposeNothingTyped 3 1 44) := s_callV ceX3_supposeNothingTyped clsX3 (Or.inl wd_369) wd_370 selX3_supposeNothingTyped (by decide +kernel : decode cX11_strokes 41 = .ok (.invokevirtual 205, 3))
theorem oX11_strokes_44 : OpS mX11_strokes 44 (o_const (.int 0) 45) := s_iconst (by decide +kernel : decode cX11_strokes 44 = .ok (.iconst 0, 1)) (by decide)
theorem oX11_strokes_45 : OpS mX11_strokes 45 (o_istore 3 4 46) := s_istore_n (by decide +kernel : decode cX11_strokes 45 = .ok (.istore_n 3, 1)) rfl rfl
theorem oX11_strokes_46 : OpS mX11_strokes 46 (o_iload 3 47) := s_iload_n (by decide +kernel : decode cX11_strokes 46 = .ok (.iload_n 3, 1)) rfl
theorem oX11_strokes_47 : OpS mX11_strokes 47 (o_aload 2 48) := s_aload_n (by decide +kernel : decode cX11_strokes 47 = .ok (.aload_n 2, 1)) rfl
theorem oX11_strokes_48 : OpS mX11_strokes 48 (o_callV mX9_size 9 0 51) := s_callV ceX9_size clsX9 (Or.inl wd_224) wd_125 selX9_size (by decide +kernel : decode cX11_strokes 48 = .ok (.invokevirtual 63, 3))
theorem oX11_strokes_51 : OpS mX11_strokes 51 (o_icmp (fun x y => y ≤ x) 118 54) := s_icmp_ge (by decide +kernel : decode cX11_strokes 51 = .ok (.if_icmp .ge 67, 3)) (by decide)
theorem oX11_strokes_54 : OpS mX11_strokes 54 (o_aload 0 55) := s_aload_n (by decide +kernel : decode cX11_strokes 54 = .ok (.aload_n 0, 1)) rfl
theorem oX11_strokes_55 : OpS mX11_strokes 55 (o_getP 11 8 58) := s_getP (k := 8) clsX11 (by decide) rfl (Or.inl wd_754) (by decide +kernel : decode cX11_strokes 55 = .ok (.getfield 56, 3)) rfl
theorem oX11_strokes_58 : OpS mX11_strokes 58 (o_aload 0 59) := s_aload_n (by decide +kernel : decode cX11_strokes 58 = .ok (.aload_n 0, 1)) rfl
theorem oX11_strokes_59 : OpS mX11_strokes 59 (o_getP 11 2 62) := s_getP (k := 2) clsX11 (by decide) rfl (Or.inl wd_748) (by decide +kernel : decode cX11_strokes 59 = .ok (.getfield 28, 3)) rfl
theorem oX11_strokes_62 : OpS mX11_strokes 62 (o_aload 0 63) := s_aload_n (by decide +kernel : decode cX11_strokes 62 = .ok (.aload_n 0, 1)) rfl
theorem oX11_strokes_63 : OpS mX11_strokes 63 (o_getP 11 7 66) := s_getP (k := 7) clsX11 (by decide) rfl (Or.inl wd_753) (by decide +kernel : decode cX11_strokes 63 = .ok (.getfield 53, 3)) rfl
theorem oX11_strokes_66 : OpS mX11_strokes 66 (o_callV mX6_renew 6 2 69) := s_callV ceX6_renew clsX6 (Or.inl wd_104) wd_105 selX6_renew (by decide +kernel : decode cX11_strokes 66 = .ok (.invokevirtual 209, 3))
theorem oX11_strokes_69 : OpS mX11_strokes 69 (o_aload 0 70) := s_aload_n (by decide +kernel : decode cX11_strokes 69 = .ok (.aload_n 0, 1)) rfl
theorem oX11_strokes_70 : OpS mX11_strokes 70 (o_getP 11 8 73) := s_getP (k := 8) clsX11 (by decide) rfl (Or.inl wd_754) (by decide +kernel : decode cX11_strokes 70 = .ok (.getfield 56, 3)) rfl
theorem oX11_strokes_73 : OpS mX11_strokes 73 (o_iload 1 74) := s_iload_n (by decide +kernel : decode cX11_strokes 73 = .ok (.iload_n 1, 1)) rfl
theorem oX11_strokes_74 : OpS mX11_strokes 74 (o_callV mX6_isOffered 6 1 77) := s_callV ceX6_isOffered clsX6 (Or.inl wd_374) wd_375 selX6_isOffered (by decide +kernel : decode cX11_strokes 74 = .ok (.invokevirtual 213, 3))
theorem oX11_strokes_77 : OpS mX11_strokes 77 (o_if (fun x => x = 0) 84 80) := s_if_eq (by decide +kernel : decode cX11_strokes 77 = .ok (.ifCond .eq 7, 3)) (by decide)
theorem oX11_strokes_80 : OpS mX11_strokes 80 (o_iload 3 81) := s_iload_n (by decide +kernel : decode cX11_strokes 80 = .ok (.iload_n 3, 1)) rfl
theorem oX11_strokes_81 : OpS mX11_strokes 81 (o_const (.int 1) 82) := s_iconst (by decide +kernel : decode cX11_strokes 81 = .ok (.iconst 1, 1)) (by decide)
theorem oX11_strokes_82 : OpS mX11_strokes 82 (o_ibin (fun x y => x + y) 83) := s_iadd (by decide +kernel : decode cX11_strokes 82 = .ok (.iadd, 1))
theorem oX11_strokes_83 : OpS mX11_strokes 83 (o_iret) := s_iret rfl (by decide +kernel : decode cX11_strokes 83 = .ok (.ireturn, 1))
theorem oX11_strokes_84 : OpS mX11_strokes 84 (o_aload 2 85) := s_aload_n (by decide +kernel : decode cX11_strokes 84 = .ok (.aload_n 2, 1)) rfl
theorem oX11_strokes_85 : OpS mX11_strokes 85 (o_iload 3 86) := s_iload_n (by decide +kernel : decode cX11_strokes 85 = .ok (.iload_n 3, 1)) rfl
theorem oX11_strokes_86 : OpS mX11_strokes 86 (o_callV mX9_at 9 1 89) := s_callV ceX9_at clsX9 (Or.inl wd_312) wd_133 selX9_at (by decide +kernel : decode cX11_strokes 86 = .ok (.invokevirtual 187, 3))
theorem oX11_strokes_89 : OpS mX11_strokes 89 (o_callS mX11_isLetter 1 92) := s_callS ceX11_isLetter (Or.inl wd_252) wd_253 (by decide +kernel : decode cX11_strokes 89 = .ok (.invokestatic 109, 3))
theorem oX11_strokes_92 : OpS mX11_strokes 92 (o_if (fun x => x = 0) 95 97) := s_if_ne (by decide +kernel : decode cX11_strokes 92 = .ok (.ifCond .ne 5, 3)) (by decide)
theorem oX11_strokes_95 : OpS mX11_strokes 95 (o_const (.int (-1)) 96) := s_iconst (by decide +kernel : decode cX11_strokes 95 = .ok (.iconst (-1), 1)) (by decide)
theorem oX11_strokes_96 : OpS mX11_strokes 96 (o_iret) := s_iret rfl (by decide +kernel : decode cX11_strokes 96 = .ok (.ireturn, 1))
theorem oX11_strokes_97 : OpS mX11_strokes 97 (o_aload 0 98) := s_aload_n (by decide +kernel : decode cX11_strokes 97 = .ok (.aload_n 0, 1)) rfl
theorem oX11_strokes_98 : OpS mX11_strokes 98 (o_getP 11 7 101) := s_getP (k := 7) clsX11 (by decide) rfl (Or.inl wd_753) (by decide +kernel : decode cX11_strokes 98 = .ok (.getfield 53, 3)) rfl
theorem oX11_strokes_101 : OpS mX11_strokes 101 (o_getP 3 0 104) := s_getP (k := 0) clsX3 (by decide) rfl (Or.inr ⟨_, wd_685⟩) (by decide +kernel : decode cX11_strokes 101 = .ok (.getfield 115, 3)) rfl
theorem oX11_strokes_104 : OpS mX11_strokes 104 (o_aload 2 105) := s_aload_n (by decide +kernel : decode cX11_strokes 104 = .ok (.aload_n 2, 1)) rfl
theorem oX11_strokes_105 : OpS mX11_strokes 105 (o_iload 3 106) := s_iload_n (by decide +kernel : decode cX11_strokes 105 = .ok (.iload_n 3, 1)) rfl
theorem oX11_strokes_106 : OpS mX11_strokes 106 (o_callV mX9_at 9 1 109) := s_callV ceX9_at clsX9 (Or.inl wd_312) wd_133 selX9_at (by decide +kernel : decode cX11_strokes 106 = .ok (.invokevirtual 187, 3))
theorem oX11_strokes_109 : OpS mX11_strokes 109 (o_callV mX9_add 9 1 112) := s_callV ceX9_add clsX9 (Or.inl wd_291) wd_129 selX9_add (by decide +kernel : decode cX11_strokes 109 = .ok (.invokevirtual 124, 3))
theorem oX11_strokes_112 : OpS mX11_strokes 112 (o_iinc 3 4 1 115) := s_iinc (by decide +kernel : decode cX11_strokes 112 = .ok (.iinc 3 1, 3)) (by decide) rfl
theorem oX11_strokes_115 : OpS mX11_strokes 115 (o_goto 46) := s_goto (by decide +kernel : decode cX11_strokes 115 = .ok (.goto (-69), 3)) (by decide)
theorem oX11_strokes_118 : OpS mX11_strokes 118 (o_aload 2 119) := s_aload_n (by decide +kernel : decode cX11_strokes 118 = .ok (.aload_n 2, 1)) rfl
theorem oX11_strokes_119 : OpS mX11_strokes 119 (o_callV mX9_size 9 0 122) := s_callV ceX9_size clsX9 (Or.inl wd_224) wd_125 selX9_size (by decide +kernel : decode cX11_strokes 119 = .ok (.invokevirtual 63, 3))
theorem oX11_strokes_122 : OpS mX11_strokes 122 (o_const (.int 1) 123) := s_iconst (by decide +kernel : decode cX11_strokes 122 = .ok (.iconst 1, 1)) (by decide)
theorem oX11_strokes_123 : OpS mX11_strokes 123 (o_ibin (fun x y => x + y) 124) := s_iadd (by decide +kernel : decode cX11_strokes 123 = .ok (.iadd, 1))
theorem oX11_strokes_124 : OpS mX11_strokes 124 (o_iret) := s_iret rfl (by decide +kernel : decode cX11_strokes 124 = .ok (.ireturn, 1))
theorem oX11_needs_0 : OpS mX11_needs 0 (o_aload 0 1) := s_aload_n (by decide +kernel : decode cX11_needs 0 = .ok (.aload_n 0, 1)) rfl
theorem oX11_needs_1 : OpS mX11_needs 1 (o_getP 11 2 4) := s_getP (k := 2) clsX11 (by decide) rfl (Or.inl wd_748) (by decide +kernel : decode cX11_needs 1 = .ok (.getfield 28, 3)) rfl
theorem oX11_needs_4 : OpS mX11_needs 4 (o_iload 1 5) := s_iload_n (by decide +kernel : decode cX11_needs 4 = .ok (.iload_n 1, 1)) rfl
theorem oX11_needs_5 : OpS mX11_needs 5 (o_callV mX0_hasWord 0 1 8) := s_callV ceX0_hasWord clsX0 (Or.inl wd_334) wd_335 selX0_hasWord (by decide +kernel : decode cX11_needs 5 = .ok (.invokevirtual 172, 3))
theorem oX11_needs_8 : OpS mX11_needs 8 (o_if (fun x => x = 0) 11 21) := s_if_ne (by decide +kernel : decode cX11_needs 8 = .ok (.ifCond .ne 13, 3)) (by decide)
theorem oX11_needs_11 : OpS mX11_needs 11 (o_throw "java/lang/IndexOutOfBoundsException") := s_throw (E := "java/lang/IndexOutOfBoundsException") (i := 12) (ic := 101) (names := thNames) (by decide +kernel) thNames_ok rfl rfl wd_29 wd_20 rfl thw_X11_101 (by decide +kernel) (by decide +kernel : decode cX11_needs 11 = .ok (.new 97, 3)) (by decide +kernel : decode cX11_needs 14 = .ok (.dup, 1)) (by decide +kernel : decode cX11_needs 15 = .ok (.ldc 203, 2)) (by decide +kernel : decode cX11_needs 17 = .ok (.invokespecial 101, 3)) (by decide +kernel : decode cX11_needs 20 = .ok (.athrow, 1))
theorem oX11_needs_21 : OpS mX11_needs 21 (o_aload 0 22) := s_aload_n (by decide +kernel : decode cX11_needs 21 = .ok (.aload_n 0, 1)) rfl
theorem oX11_needs_22 : OpS mX11_needs 22 (o_callV mX11_rank 11 0 25) := s_callV ceX11_rank clsX11 (Or.inl wd_99) wd_101 selX11_rank (by decide +kernel : decode cX11_needs 22 = .ok (.invokevirtual 102, 3))
theorem oX11_needs_25 : OpS mX11_needs 25 (o_aload 0 26) := s_aload_n (by decide +kernel : decode cX11_needs 25 = .ok (.aload_n 0, 1)) rfl
theorem oX11_needs_26 : OpS mX11_needs 26 (o_getP 11 5 29) := s_getP (k := 5) clsX11 (by decide) rfl (Or.inl wd_751) (by decide +kernel : decode cX11_needs 26 = .ok (.getfield 45, 3)) rfl
theorem oX11_needs_29 : OpS mX11_needs 29 (o_aload 0 30) := s_aload_n (by decide +kernel : decode cX11_needs 29 = .ok (.aload_n 0, 1)) rfl
theorem oX11_needs_30 : OpS mX11_needs 30 (o_getP 11 2 33) := s_getP (k := 2) clsX11 (by decide) rfl (Or.inl wd_748) (by decide +kernel : decode cX11_needs 30 = .ok (.getfield 28, 3)) rfl
theorem oX11_needs_33 : OpS mX11_needs 33 (o_iload 1 34) := s_iload_n (by decide +kernel : decode cX11_needs 33 = .ok (.iload_n 1, 1)) rfl
theorem oX11_needs_34 : OpS mX11_needs 34 (o_callV mX6_leastScoreToLead 6 2 37) := s_callV ceX6_leastScoreToLead clsX6 (Or.inl wd_382) wd_383 selX6_leastScoreToLead (by decide +kernel : decode cX11_needs 34 = .ok (.invokevirtual 216, 3))
theorem oX11_needs_37 : OpS mX11_needs 37 (o_lstore 2 7 38) := s_lstore_n (by decide +kernel : decode cX11_needs 37 = .ok (.lstore_n 2, 1)) rfl rfl
theorem oX11_needs_38 : OpS mX11_needs 38 (o_aload 0 39) := s_aload_n (by decide +kernel : decode cX11_needs 38 = .ok (.aload_n 0, 1)) rfl
theorem oX11_needs_39 : OpS mX11_needs 39 (o_getP 11 5 42) := s_getP (k := 5) clsX11 (by decide) rfl (Or.inl wd_751) (by decide +kernel : decode cX11_needs 39 = .ok (.getfield 45, 3)) rfl
theorem oX11_needs_42 : OpS mX11_needs 42 (o_iload 1 43) := s_iload_n (by decide +kernel : decode cX11_needs 42 = .ok (.iload_n 1, 1)) rfl
theorem oX11_needs_43 : OpS mX11_needs 43 (o_callV mX6_place 6 1 46) := s_callV ceX6_place clsX6 (Or.inl wd_352) wd_353 selX6_place (by decide +kernel : decode cX11_needs 43 = .ok (.invokevirtual 220, 3))
theorem oX11_needs_46 : OpS mX11_needs 46 (o_if (fun x => x < 0) 57 49) := s_if_lt (by decide +kernel : decode cX11_needs 46 = .ok (.ifCond .lt 11, 3)) (by decide)
theorem oX11_needs_49 : OpS mX11_needs 49 (o_lload 2 50) := s_lload_n (by decide +kernel : decode cX11_needs 49 = .ok (.lload_n 2, 1)) rfl
theorem oX11_needs_50 : OpS mX11_needs 50 (o_const (.long 2147483647) 53) := s_ldc2 wd_390 (by decide +kernel : decode cX11_needs 50 = .ok (.ldc2_w 225, 3))
theorem oX11_needs_53 : OpS mX11_needs 53 (o_lcmp 54) := s_lcmp (by decide +kernel : decode cX11_needs 53 = .ok (.lcmp, 1))
theorem oX11_needs_54 : OpS mX11_needs 54 (o_if (fun x => x ≤ 0) 59 57) := s_if_le (by decide +kernel : decode cX11_needs 54 = .ok (.ifCond .le 5, 3)) (by decide)
theorem oX11_needs_57 : OpS mX11_needs 57 (o_const (.int (-1)) 58) := s_iconst (by decide +kernel : decode cX11_needs 57 = .ok (.iconst (-1), 1)) (by decide)
theorem oX11_needs_58 : OpS mX11_needs 58 (o_iret) := s_iret rfl (by decide +kernel : decode cX11_needs 58 = .ok (.ireturn, 1))
theorem oX11_needs_59 : OpS mX11_needs 59 (o_aload 0 60) := s_aload_n (by decide +kernel : decode cX11_needs 59 = .ok (.aload_n 0, 1)) rfl
theorem oX11_needs_60 : OpS mX11_needs 60 (o_getP 11 5 63) := s_getP (k := 5) clsX11 (by decide) rfl (Or.inl wd_751) (by decide +kernel : decode cX11_needs 60 = .ok (.getfield 45, 3)) rfl
theorem oX11_needs_63 : OpS mX11_needs 63 (o_iload 1 64) := s_iload_n (by decide +kernel : decode cX11_needs 63 = .ok (.iload_n 1, 1)) rfl
theorem oX11_needs_64 : OpS mX11_needs 64 (o_callV mX6_score 6 1 67) := s_callV ceX6_score clsX6 (Or.inl wd_348) wd_349 selX6_score (by decide +kernel : decode cX11_needs 64 = .ok (.invokevirtual 227, 3))
theorem oX11_needs_67 : OpS mX11_needs 67 (o_aload 0 68) := s_aload_n (by decide +kernel : decode cX11_needs 67 = .ok (.aload_n 0, 1)) rfl
theorem oX11_needs_68 : OpS mX11_needs 68 (o_getP 11 2 71) := s_getP (k := 2) clsX11 (by decide) rfl (Or.inl wd_748) (by decide +kernel : decode cX11_needs 68 = .ok (.getfield 28, 3)) rfl
theorem oX11_needs_71 : OpS mX11_needs 71 (o_getP 0 2 74) := s_getP (k := 2) clsX0 (by decide) rfl (Or.inr ⟨_, wd_649⟩) (by decide +kernel : decode cX11_needs 71 = .ok (.getfield 160, 3)) rfl
theorem oX11_needs_74 : OpS mX11_needs 74 (o_iload 1 75) := s_iload_n (by decide +kernel : decode cX11_needs 74 = .ok (.iload_n 1, 1)) rfl
theorem oX11_needs_75 : OpS mX11_needs 75 (o_callV mX9_at 9 1 78) := s_callV ceX9_at clsX9 (Or.inl wd_312) wd_133 selX9_at (by decide +kernel : decode cX11_needs 75 = .ok (.invokevirtual 187, 3))
theorem oX11_needs_78 : OpS mX11_needs 78 (o_ibin (fun x y => x - y) 79) := s_isub (by decide +kernel : decode cX11_needs 78 = .ok (.isub, 1))
theorem oX11_needs_79 : OpS mX11_needs 79 (o_istore 4 7 81) := s_istore (by decide +kernel : decode cX11_needs 79 = .ok (.istore 4, 2)) rfl
theorem oX11_needs_81 : OpS mX11_needs 81 (o_const (.long 0) 82) := s_lconst (by decide +kernel : decode cX11_needs 81 = .ok (.lconst 0, 1)) (by decide)
theorem oX11_needs_82 : OpS mX11_needs 82 (o_lload 2 83) := s_lload_n (by decide +kernel : decode cX11_needs 82 = .ok (.lload_n 2, 1)) rfl
theorem oX11_needs_83 : OpS mX11_needs 83 (o_iload 4 85) := s_iload (by decide +kernel : decode cX11_needs 83 = .ok (.iload 4, 2))
theorem oX11_needs_85 : OpS mX11_needs 85 (o_i2l 86) := s_i2l (by decide +kernel : decode cX11_needs 85 = .ok (.i2l, 1))
theorem oX11_needs_86 : OpS mX11_needs 86 (o_lbin (fun x y => x - y) 87) := s_lsub (by decide +kernel : decode cX11_needs 86 = .ok (.lsub, 1))
theorem oX11_needs_87 : OpS mX11_needs 87 (o_lmax 90) := s_lmax wd_391 wd_388 wd_3 wd_389 (by decide +kernel : decode cX11_needs 87 = .ok (.invokestatic 230, 3))
theorem oX11_needs_90 : OpS mX11_needs 90 (o_lstore 5 7 92) := s_lstore (by decide +kernel : decode cX11_needs 90 = .ok (.lstore 5, 2)) rfl
theorem oX11_needs_92 : OpS mX11_needs 92 (o_lload 5 94) := s_lload (by decide +kernel : decode cX11_needs 92 = .ok (.lload 5, 2))
theorem oX11_needs_94 : OpS mX11_needs 94 (o_const (.long 9999) 97) := s_ldc2 wd_392 (by decide +kernel : decode cX11_needs 94 = .ok (.ldc2_w 236, 3))
theorem oX11_needs_97 : OpS mX11_needs 97 (o_lcmp 98) := s_lcmp (by decide +kernel : decode cX11_needs 97 = .ok (.lcmp, 1))
theorem oX11_needs_98 : OpS mX11_needs 98 (o_if (fun x => x ≤ 0) 105 101) := s_if_le (by decide +kernel : decode cX11_needs 98 = .ok (.ifCond .le 7, 3)) (by decide)
theorem oX11_needs_101 : OpS mX11_needs 101 (o_const (.int (-1)) 102) := s_iconst (by decide +kernel : decode cX11_needs 101 = .ok (.iconst (-1), 1)) (by decide)
theorem oX11_needs_102 : OpS mX11_needs 102 (o_goto 108) := s_goto (by decide +kernel : decode cX11_needs 102 = .ok (.goto 6, 3)) (by decide)
theorem oX11_needs_105 : OpS mX11_needs 105 (o_lload 5 107) := s_lload (by decide +kernel : decode cX11_needs 105 = .ok (.lload 5, 2))
theorem oX11_needs_107 : OpS mX11_needs 107 (o_l2i 108) := s_l2i (by decide +kernel : decode cX11_needs 107 = .ok (.l2i, 1))
theorem oX11_needs_108 : OpS mX11_needs 108 (o_iret) := s_iret rfl (by decide +kernel : decode cX11_needs 108 = .ok (.ireturn, 1))
theorem oX11_closest_0 : OpS mX11_closest 0 (o_aload 0 1) := s_aload_n (by decide +kernel : decode cX11_closest 0 = .ok (.aload_n 0, 1)) rfl
theorem oX11_closest_1 : OpS mX11_closest 1 (o_getP 11 2 4) := s_getP (k := 2) clsX11 (by decide) rfl (Or.inl wd_748) (by decide +kernel : decode cX11_closest 1 = .ok (.getfield 28, 3)) rfl
theorem oX11_closest_4 : OpS mX11_closest 4 (o_iload 1 5) := s_iload_n (by decide +kernel : decode cX11_closest 4 = .ok (.iload_n 1, 1)) rfl
theorem oX11_closest_5 : OpS mX11_closest 5 (o_callV mX0_hasWord 0 1 8) := s_callV ceX0_hasWord clsX0 (Or.inl wd_334) wd_335 selX0_hasWord (by decide +kernel : decode cX11_closest 5 = .ok (.invokevirtual 172, 3))
theorem oX11_closest_8 : OpS mX11_closest 8 (o_if (fun x => x = 0) 11 21) := s_if_ne (by decide +kernel : decode cX11_closest 8 = .ok (.ifCond .ne 13, 3)) (by decide)
theorem oX11_closest_11 : OpS mX11_closest 11 (o_throw "java/lang/IndexOutOfBoundsException") := s_throw (E := "java/lang/IndexOutOfBoundsException") (i := 12) (ic := 101) (names := thNames) (by decide +kernel) thNames_ok rfl rfl wd_29 wd_20 rfl thw_X11_101 (by decide +kernel) (by decide +kernel : decode cX11_closest 11 = .ok (.new 97, 3)) (by decide +kernel : decode cX11_closest 14 = .ok (.dup, 1)) (by decide +kernel : decode cX11_closest 15 = .ok (.ldc 203, 2)) (by decide +kernel : decode cX11_closest 17 = .ok (.invokespecial 101, 3)) (by decide +kernel : decode cX11_closest 20 = .ok (.athrow, 1))
theorem oX11_closest_21 : OpS mX11_closest 21 (o_const (.int (-1)) 22) := s_iconst (by decide +kernel : decode cX11_closest 21 = .ok (.iconst (-1), 1)) (by decide)
theorem oX11_closest_22 : OpS mX11_closest 22 (o_istore 2 5 23) := s_istore_n (by decide +kernel : decode cX11_closest 22 = .ok (.istore_n 2, 1)) rfl rfl
theorem oX11_closest_23 : OpS mX11_closest 23 (o_const (.int 0) 24) := s_iconst (by decide +kernel : decode cX11_closest 23 = .ok (.iconst 0, 1)) (by decide)
theorem oX11_closest_24 : OpS mX11_closest 24 (o_istore 3 5 25) := s_istore_n (by decide +kernel : decode cX11_closest 24 = .ok (.istore_n 3, 1)) rfl rfl
theorem oX11_closest_25 : OpS mX11_closest 25 (o_iload 3 26) := s_iload_n (by decide +kernel : decode cX11_closest 25 = .ok (.iload_n 3, 1)) rfl
theorem oX11_closest_26 : OpS mX11_closest 26 (o_aload 0 27) := s_aload_n (by decide +kernel : decode cX11_closest 26 = .ok (.aload_n 0, 1)) rfl
theorem oX11_closest_27 : OpS mX11_closest 27 (o_getP 11 2 30) := s_getP (k := 2) clsX11 (by decide) rfl (Or.inl wd_748) (by decide +kernel : decode cX11_closest 27 = .ok (.getfield 28, 3)) rfl
theorem oX11_closest_30 : OpS mX11_closest 30 (o_getP 0 1 33) := s_getP (k := 1) clsX0 (by decide) rfl (Or.inr ⟨_, wd_644⟩) (by decide +kernel : decode cX11_closest 30 = .ok (.getfield 144, 3)) rfl
theorem oX11_closest_33 : OpS mX11_closest 33 (o_callV mX5_size 5 0 36) := s_callV ceX5_size clsX5 (Or.inl wd_218) wd_113 selX5_size (by decide +kernel : decode cX11_closest 33 = .ok (.invokevirtual 238, 3))
theorem oX11_closest_36 : OpS mX11_closest 36 (o_icmp (fun x y => y ≤ x) 104 39) := s_icmp_ge (by decide +kernel : decode cX11_closest 36 = .ok (.if_icmp .ge 68, 3)) (by decide)
theorem oX11_closest_39 : OpS mX11_closest 39 (o_iload 3 40) := s_iload_n (by decide +kernel : decode cX11_closest 39 = .ok (.iload_n 3, 1)) rfl
theorem oX11_closest_40 : OpS mX11_closest 40 (o_iload 1 41) := s_iload_n (by decide +kernel : decode cX11_closest 40 = .ok (.iload_n 1, 1)) rfl
theorem oX11_closest_41 : OpS mX11_closest 41 (o_icmp (fun x y => x = y) 98 44) := s_icmp_eq (by decide +kernel : decode cX11_closest 41 = .ok (.if_icmp .eq 57, 3)) (by decide)
theorem oX11_closest_44 : OpS mX11_closest 44 (o_aload 0 45) := s_aload_n (by decide +kernel : decode cX11_closest 44 = .ok (.aload_n 0, 1)) rfl
theorem oX11_closest_45 : OpS mX11_closest 45 (o_getP 11 5 48) := s_getP (k := 5) clsX11 (by decide) rfl (Or.inl wd_751) (by decide +kernel : decode cX11_closest 45 = .ok (.getfield 45, 3)) rfl
theorem oX11_closest_48 : OpS mX11_closest 48 (o_aload 0 49) := s_aload_n (by decide +kernel : decode cX11_closest 48 = .ok (.aload_n 0, 1)) rfl
theorem oX11_closest_49 : OpS mX11_closest 49 (o_getP 11 2 52) := s_getP (k := 2) clsX11 (by decide) rfl (Or.inl wd_748) (by decide +kernel : decode cX11_closest 49 = .ok (.getfield 28, 3)) rfl
theorem oX11_closest_52 : OpS mX11_closest 52 (o_getP 0 1 55) := s_getP (k := 1) clsX0 (by decide) rfl (Or.inr ⟨_, wd_644⟩) (by decide +kernel : decode cX11_closest 52 = .ok (.getfield 144, 3)) rfl
theorem oX11_closest_55 : OpS mX11_closest 55 (o_iload 1 56) := s_iload_n (by decide +kernel : decode cX11_closest 55 = .ok (.iload_n 1, 1)) rfl
theorem oX11_closest_56 : OpS mX11_closest 56 (o_callV mX5_at 5 1 59) := s_callV ceX5_at clsX5 (Or.inl wd_343) wd_117 selX5_at (by decide +kernel : decode cX11_closest 56 = .ok (.invokevirtual 181, 3))
theorem oX11_closest_59 : OpS mX11_closest 59 (o_aload 0 60) := s_aload_n (by decide +kernel : decode cX11_closest 59 = .ok (.aload_n 0, 1)) rfl
theorem oX11_closest_60 : OpS mX11_closest 60 (o_getP 11 2 63) := s_getP (k := 2) clsX11 (by decide) rfl (Or.inl wd_748) (by decide +kernel : decode cX11_closest 60 = .ok (.getfield 28, 3)) rfl
theorem oX11_closest_63 : OpS mX11_closest 63 (o_getP 0 1 66) := s_getP (k := 1) clsX0 (by decide) rfl (Or.inr ⟨_, wd_644⟩) (by decide +kernel : decode cX11_closest 63 = .ok (.getfield 144, 3)) rfl
theorem oX11_closest_66 : OpS mX11_closest 66 (o_iload 3 67) := s_iload_n (by decide +kernel : decode cX11_closest 66 = .ok (.iload_n 3, 1)) rfl
theorem oX11_closest_67 : OpS mX11_closest 67 (o_callV mX5_at 5 1 70) := s_callV ceX5_at clsX5 (Or.inl wd_343) wd_117 selX5_at (by decide +kernel : decode cX11_closest 67 = .ok (.invokevirtual 181, 3))
theorem oX11_closest_70 : OpS mX11_closest 70 (o_aload 0 71) := s_aload_n (by decide +kernel : decode cX11_closest 70 = .ok (.aload_n 0, 1)) rfl
theorem oX11_closest_71 : OpS mX11_closest 71 (o_getP 11 2 74) := s_getP (k := 2) clsX11 (by decide) rfl (Or.inl wd_748) (by decide +kernel : decode cX11_closest 71 = .ok (.getfield 28, 3)) rfl
theorem oX11_closest_74 : OpS mX11_closest 74 (o_getP 0 4 77) := s_getP (k := 4) clsX0 (by decide) rfl (Or.inr ⟨_, wd_657⟩) (by decide +kernel : decode cX11_closest 74 = .ok (.getfield 189, 3)) rfl
theorem oX11_closest_77 : OpS mX11_closest 77 (o_callV mX6_distance 6 3 80) := s_callV ceX6_distance clsX6 (Or.inl wd_397) wd_121 selX6_distance (by decide +kernel : decode cX11_closest 77 = .ok (.invokevirtual 239, 3))
theorem oX11_closest_80 : OpS mX11_closest 80 (o_istore 4 5 82) := s_istore (by decide +kernel : decode cX11_closest 80 = .ok (.istore 4, 2)) rfl
theorem oX11_closest_82 : OpS mX11_closest 82 (o_iload 2 83) := s_iload_n (by decide +kernel : decode cX11_closest 82 = .ok (.iload_n 2, 1)) rfl
theorem oX11_closest_83 : OpS mX11_closest 83 (o_if (fun x => 0 ≤ x) 91 86) := s_if_ge (by decide +kernel : decode cX11_closest 83 = .ok (.ifCond .ge 8, 3)) (by decide)
theorem oX11_closest_86 : OpS mX11_closest 86 (o_iload 4 88) := s_iload (by decide +kernel : decode cX11_closest 86 = .ok (.iload 4, 2))
theorem oX11_closest_88 : OpS mX11_closest 88 (o_goto 97) := s_goto (by decide +kernel : decode cX11_closest 88 = .ok (.goto 9, 3)) (by decide)
theorem oX11_closest_91 : OpS mX11_closest 91 (o_iload 2 92) := s_iload_n (by decide +kernel : decode cX11_closest 91 = .ok (.iload_n 2, 1)) rfl
theorem oX11_closest_92 : OpS mX11_closest 92 (o_iload 4 94) := s_iload (by decide +kernel : decode cX11_closest 92 = .ok (.iload 4, 2))
theorem oX11_closest_94 : OpS mX11_closest 94 (o_min 97) := s_min wd_313 wd_146 wd_3 wd_147 (by decide +kernel : decode cX11_closest 94 = .ok (.invokestatic 243, 3))
theorem oX11_closest_97 : OpS mX11_closest 97 (o_istore 2 5 98) := s_istore_n (by decide +kernel : decode cX11_closest 97 = .ok (.istore_n 2, 1)) rfl rfl
theorem oX11_closest_98 : OpS mX11_closest 98 (o_iinc 3 5 1 101) := s_iinc (by decide +kernel : decode cX11_closest 98 = .ok (.iinc 3 1, 3)) (by decide) rfl
theorem oX11_closest_101 : OpS mX11_closest 101 (o_goto 25) := s_goto (by decide +kernel : decode cX11_closest 101 = .ok (.goto (-76), 3)) (by decide)
theorem oX11_closest_104 : OpS mX11_closest 104 (o_iload 2 105) := s_iload_n (by decide +kernel : decode cX11_closest 104 = .ok (.iload_n 2, 1)) rfl
theorem oX11_closest_105 : OpS mX11_closest 105 (o_iret) := s_iret rfl (by decide +kernel : decode cX11_closest 105 = .ok (.ireturn, 1))
theorem oX11_digest_0 : OpS mX11_digest 0 (o_aload 0 1) := s_aload_n (by decide +kernel : decode cX11_digest 0 = .ok (.aload_n 0, 1)) rfl
theorem oX11_digest_1 : OpS mX11_digest 1 (o_callV mX11_rank 11 0 4) := s_callV ceX11_rank clsX11 (Or.inl wd_99) wd_101 selX11_rank (by decide +kernel : decode cX11_digest 1 = .ok (.invokevirtual 102, 3))
theorem oX11_digest_4 : OpS mX11_digest 4 (o_const (.long 773) 7) := s_ldc2 wd_402 (by decide +kernel : decode cX11_digest 4 = .ok (.ldc2_w 249, 3))
theorem oX11_digest_7 : OpS mX11_digest 7 (o_lstore 1 5 8) := s_lstore_n (by decide +kernel : decode cX11_digest 7 = .ok (.lstore_n 1, 1)) rfl rfl
theorem oX11_digest_8 : OpS mX11_digest 8 (o_const (.int 0) 9) := s_iconst (by decide +kernel : decode cX11_digest 8 = .ok (.iconst 0, 1)) (by decide)
theorem oX11_digest_9 : OpS mX11_digest 9 (o_istore 3 5 10) := s_istore_n (by decide +kernel : decode cX11_digest 9 = .ok (.istore_n 3, 1)) rfl rfl
theorem oX11_digest_10 : OpS mX11_digest 10 (o_iload 3 11) := s_iload_n (by decide +kernel : decode cX11_digest 10 = .ok (.iload_n 3, 1)) rfl
theorem oX11_digest_11 : OpS mX11_digest 11 (o_const (.int 13) 13) := s_bipush (by decide +kernel : decode cX11_digest 11 = .ok (.bipush 13, 2)) (by decide)
theorem oX11_digest_13 : OpS mX11_digest 13 (o_icmp (fun x y => y ≤ x) 35 16) := s_icmp_ge (by decide +kernel : decode cX11_digest 13 = .ok (.if_icmp .ge 22, 3)) (by decide)
theorem oX11_digest_16 : OpS mX11_digest 16 (o_lload 1 17) := s_lload_n (by decide +kernel : decode cX11_digest 16 = .ok (.lload_n 1, 1)) rfl
theorem oX11_digest_17 : OpS mX11_digest 17 (o_const (.long 31) 20) := s_ldc2 wd_403 (by decide +kernel : decode cX11_digest 17 = .ok (.ldc2_w 251, 3))
theorem oX11_digest_20 : OpS mX11_digest 20 (o_lbin (fun x y => x * y) 21) := s_lmul (by decide +kernel : decode cX11_digest 20 = .ok (.lmul, 1))
theorem oX11_digest_21 : OpS mX11_digest 21 (o_aload 0 22) := s_aload_n (by decide +kernel : decode cX11_digest 21 = .ok (.aload_n 0, 1)) rfl
theorem oX11_digest_22 : OpS mX11_digest 22 (o_iload 3 23) := s_iload_n (by decide +kernel : decode cX11_digest 22 = .ok (.iload_n 3, 1)) rfl
theorem oX11_digest_23 : OpS mX11_digest 23 (o_callV mX11_figure 11 1 26) := s_callV ceX11_figure clsX11 (Or.inl wd_214) wd_216 selX11_figure (by decide +kernel : decode cX11_digest 23 = .ok (.invokevirtual 105, 3))
theorem oX11_digest_26 : OpS mX11_digest 26 (o_i2l 27) := s_i2l (by decide +kernel : decode cX11_digest 26 = .ok (.i2l, 1))
theorem oX11_digest_27 : OpS mX11_digest 27 (o_lbin (fun x y => x + y) 28) := s_ladd (by decide +kernel : decode cX11_digest 27 = .ok (.ladd, 1))
theorem oX11_digest_28 : OpS mX11_digest 28 (o_lstore 1 5 29) := s_lstore_n (by decide +kernel : decode cX11_digest 28 = .ok (.lstore_n 1, 1)) rfl rfl
theorem oX11_digest_29 : OpS mX11_digest 29 (o_iinc 3 5 1 32) := s_iinc (by decide +kernel : decode cX11_digest 29 = .ok (.iinc 3 1, 3)) (by decide) rfl
theorem oX11_digest_32 : OpS mX11_digest 32 (o_goto 10) := s_goto (by decide +kernel : decode cX11_digest 32 = .ok (.goto (-22), 3)) (by decide)
theorem oX11_digest_35 : OpS mX11_digest 35 (o_aload 0 36) := s_aload_n (by decide +kernel : decode cX11_digest 35 = .ok (.aload_n 0, 1)) rfl
theorem oX11_digest_36 : OpS mX11_digest 36 (o_getP 11 4 39) := s_getP (k := 4) clsX11 (by decide) rfl (Or.inl wd_750) (by decide +kernel : decode cX11_digest 36 = .ok (.getfield 38, 3)) rfl
theorem oX11_digest_39 : OpS mX11_digest 39 (o_getP 3 0 42) := s_getP (k := 0) clsX3 (by decide) rfl (Or.inr ⟨_, wd_685⟩) (by decide +kernel : decode cX11_digest 39 = .ok (.getfield 115, 3)) rfl
theorem oX11_digest_42 : OpS mX11_digest 42 (o_lload 1 43) := s_lload_n (by decide +kernel : decode cX11_digest 42 = .ok (.lload_n 1, 1)) rfl
theorem oX11_digest_43 : OpS mX11_digest 43 (o_callV mX9_addTo 9 1 46) := s_callV ceX9_addTo clsX9 (Or.inl wd_404) wd_405 selX9_addTo (by decide +kernel : decode cX11_digest 43 = .ok (.invokevirtual 253, 3))
theorem oX11_digest_46 : OpS mX11_digest 46 (o_lstore 1 5 47) := s_lstore_n (by decide +kernel : decode cX11_digest 46 = .ok (.lstore_n 1, 1)) rfl rfl
theorem oX11_digest_47 : OpS mX11_digest 47 (o_const (.int 0) 48) := s_iconst (by decide +kernel : decode cX11_digest 47 = .ok (.iconst 0, 1)) (by decide)
theorem oX11_digest_48 : OpS mX11_digest 48 (o_istore 3 5 49) := s_istore_n (by decide +kernel : decode cX11_digest 48 = .ok (.istore_n 3, 1)) rfl rfl
theorem oX11_digest_49 : OpS mX11_digest 49 (o_iload 3 50) := s_iload_n (by decide +kernel : decode cX11_digest 49 = .ok (.iload_n 3, 1)) rfl
theorem oX11_digest_50 : OpS mX11_digest 50 (o_aload 0 51) := s_aload_n (by decide +kernel : decode cX11_digest 50 = .ok (.aload_n 0, 1)) rfl
theorem oX11_digest_51 : OpS mX11_digest 51 (o_getP 11 2 54) := s_getP (k := 2) clsX11 (by decide) rfl (Or.inl wd_748) (by decide +kernel : decode cX11_digest 51 = .ok (.getfield 28, 3)) rfl
theorem oX11_digest_54 : OpS mX11_digest 54 (o_getP 0 1 57) := s_getP (k := 1) clsX0 (by decide) rfl (Or.inr ⟨_, wd_644⟩) (by decide +kernel : decode cX11_digest 54 = .ok (.getfield 144, 3)) rfl
theorem oX11_digest_57 : OpS mX11_digest 57 (o_callV mX5_size 5 0 60) := s_callV ceX5_size clsX5 (Or.inl wd_218) wd_113 selX5_size (by decide +kernel : decode cX11_digest 57 = .ok (.invokevirtual 238, 3))
theorem oX11_digest_60 : OpS mX11_digest 60 (o_icmp (fun x y => y ≤ x) 116 63) := s_icmp_ge (by decide +kernel : decode cX11_digest 60 = .ok (.if_icmp .ge 56, 3)) (by decide)
theorem oX11_digest_63 : OpS mX11_digest 63 (o_const (.int 0) 64) := s_iconst (by decide +kernel : decode cX11_digest 63 = .ok (.iconst 0, 1)) (by decide)
theorem oX11_digest_64 : OpS mX11_digest 64 (o_istore 4 5 66) := s_istore (by decide +kernel : decode cX11_digest 64 = .ok (.istore 4, 2)) rfl
theorem oX11_digest_66 : OpS mX11_digest 66 (o_iload 4 68) := s_iload (by decide +kernel : decode cX11_digest 66 = .ok (.iload 4, 2))
theorem oX11_digest_68 : OpS mX11_digest 68 (o_const (.int 6) 70) := s_bipush (by decide +kernel : decode cX11_digest 68 = .ok (.bipush 6, 2)) (by decide)
theorem oX11_digest_70 : OpS mX11_digest 70 (o_icmp (fun x y => y ≤ x) 94 73) := s_icmp_ge (by decide +kernel : decode cX11_digest 70 = .ok (.if_icmp .ge 24, 3)) (by decide)
theorem oX11_digest_73 : OpS mX11_digest 73 (o_lload 1 74) := s_lload_n (by decide +kernel : decode cX11_digest 73 = .ok (.lload_n 1, 1)) rfl
theorem oX11_digest_74 : OpS mX11_digest 74 (o_const (.long 31) 77) := s_ldc2 wd_403 (by decide +kernel : decode cX11_digest 74 = .ok (.ldc2_w 251, 3))
theorem oX11_digest_77 : OpS mX11_digest 77 (o_lbin (fun x y => x * y) 78) := s_lmul (by decide +kernel : decode cX11_digest 77 = .ok (.lmul, 1))
theorem oX11_digest_78 : OpS mX11_digest 78 (o_aload 0 79) := s_aload_n (by decide +kernel : decode cX11_digest 78 = .ok (.aload_n 0, 1)) rfl
theorem oX11_digest_79 : OpS mX11_digest 79 (o_iload 3 80) := s_iload_n (by decide +kernel : decode cX11_digest 79 = .ok (.iload_n 3, 1)) rfl
theorem oX11_digest_80 : OpS mX11_digest 80 (o_iload 4 82) := s_iload (by decide +kernel : decode cX11_digest 80 = .ok (.iload 4, 2))
theorem oX11_digest_82 : OpS mX11_digest 82 (o_callV mX11_wordFigure 11 2 85) := s_callV ceX11_wordFigure clsX11 (Or.inl wd_339) wd_341 selX11_wordFigure (by decide +kernel : decode cX11_digest 82 = .ok (.invokevirtual 177, 3))
theorem oX11_digest_85 : OpS mX11_digest 85 (o_i2l 86) := s_i2l (by decide +kernel : decode cX11_digest 85 = .ok (.i2l, 1))
theorem oX11_digest_86 : OpS mX11_digest 86 (o_lbin (fun x y => x + y) 87) := s_ladd (by decide +kernel : decode cX11_digest 86 = .ok (.ladd, 1))
theorem oX11_digest_87 : OpS mX11_digest 87 (o_lstore 1 5 88) := s_lstore_n (by decide +kernel : decode cX11_digest 87 = .ok (.lstore_n 1, 1)) rfl rfl
theorem oX11_digest_88 : OpS mX11_digest 88 (o_iinc 4 5 1 91) := s_iinc (by decide +kernel : decode cX11_digest 88 = .ok (.iinc 4 1, 3)) (by decide) rfl
theorem oX11_digest_91 : OpS mX11_digest 91 (o_goto 66) := s_goto (by decide +kernel : decode cX11_digest 91 = .ok (.goto (-25), 3)) (by decide)
theorem oX11_digest_94 : OpS mX11_digest 94 (o_aload 0 95) := s_aload_n (by decide +kernel : decode cX11_digest 94 = .ok (.aload_n 0, 1)) rfl
theorem oX11_digest_95 : OpS mX11_digest 95 (o_getP 11 2 98) := s_getP (k := 2) clsX11 (by decide) rfl (Or.inl wd_748) (by decide +kernel : decode cX11_digest 95 = .ok (.getfield 28, 3)) rfl
theorem oX11_digest_98 : OpS mX11_digest 98 (o_getP 0 1 101) := s_getP (k := 1) clsX0 (by decide) rfl (Or.inr ⟨_, wd_644⟩) (by decide +kernel : decode cX11_digest 98 = .ok (.getfield 144, 3)) rfl
theorem oX11_digest_101 : OpS mX11_digest 101 (o_iload 3 102) := s_iload_n (by decide +kernel : decode cX11_digest 101 = .ok (.iload_n 3, 1)) rfl
theorem oX11_digest_102 : OpS mX11_digest 102 (o_callV mX5_at 5 1 105) := s_callV ceX5_at clsX5 (Or.inl wd_343) wd_117 selX5_at (by decide +kernel : decode cX11_digest 102 = .ok (.invokevirtual 181, 3))
theorem oX11_digest_105 : OpS mX11_digest 105 (o_lload 1 106) := s_lload_n (by decide +kernel : decode cX11_digest 105 = .ok (.lload_n 1, 1)) rfl
theorem oX11_digest_106 : OpS mX11_digest 106 (o_callV mX9_addTo 9 1 109) := s_callV ceX9_addTo clsX9 (Or.inl wd_404) wd_405 selX9_addTo (by decide +kernel : decode cX11_digest 106 = .ok (.invokevirtual 253, 3))
theorem oX11_digest_109 : OpS mX11_digest 109 (o_lstore 1 5 110) := s_lstore_n (by decide +kernel : decode cX11_digest 109 = .ok (.lstore_n 1, 1)) rfl rfl
theorem oX11_digest_110 : OpS mX11_digest 110 (o_iinc 3 5 1 113) := s_iinc (by decide +kernel : decode cX11_digest 110 = .ok (.iinc 3 1, 3)) (by decide) rfl
theorem oX11_digest_113 : OpS mX11_digest 113 (o_goto 49) := s_goto (by decide +kernel : decode cX11_digest 113 = .ok (.goto (-64), 3)) (by decide)
theorem oX11_digest_116 : OpS mX11_digest 116 (o_const (.int 0) 117) := s_iconst (by decide +kernel : decode cX11_digest 116 = .ok (.iconst 0, 1)) (by decide)
theorem oX11_digest_117 : OpS mX11_digest 117 (o_istore 3 5 118) := s_istore_n (by decide +kernel : decode cX11_digest 117 = .ok (.istore_n 3, 1)) rfl rfl
theorem oX11_digest_118 : OpS mX11_digest 118 (o_iload 3 119) := s_iload_n (by decide +kernel : decode cX11_digest 118 = .ok (.iload_n 3, 1)) rfl
theorem oX11_digest_119 : OpS mX11_digest 119 (o_const (.int 5) 120) := s_iconst (by decide +kernel : decode cX11_digest 119 = .ok (.iconst 5, 1)) (by decide)
theorem oX11_digest_120 : OpS mX11_digest 120 (o_icmp (fun x y => y ≤ x) 145 123) := s_icmp_ge (by decide +kernel : decode cX11_digest 120 = .ok (.if_icmp .ge 25, 3)) (by decide)
theorem oX11_digest_123 : OpS mX11_digest 123 (o_lload 1 124) := s_lload_n (by decide +kernel : decode cX11_digest 123 = .ok (.lload_n 1, 1)) rfl
theorem oX11_digest_124 : OpS mX11_digest 124 (o_const (.long 31) 127) := s_ldc2 wd_403 (by decide +kernel : decode cX11_digest 124 = .ok (.ldc2_w 251, 3))
theorem oX11_digest_127 : OpS mX11_digest 127 (o_lbin (fun x y => x * y) 128) := s_lmul (by decide +kernel : decode cX11_digest 127 = .ok (.lmul, 1))
theorem oX11_digest_128 : OpS mX11_digest 128 (o_aload 0 129) := s_aload_n (by decide +kernel : decode cX11_digest 128 = .ok (.aload_n 0, 1)) rfl
theorem oX11_digest_129 : OpS mX11_digest 129 (o_getP 11 5 132) := s_getP (k := 5) clsX11 (by decide) rfl (Or.inl wd_751) (by decide +kernel : decode cX11_digest 129 = .ok (.getfield 45, 3)) rfl
theorem oX11_digest_132 : OpS mX11_digest 132 (o_iload 3 133) := s_iload_n (by decide +kernel : decode cX11_digest 132 = .ok (.iload_n 3, 1)) rfl
theorem oX11_digest_133 : OpS mX11_digest 133 (o_callV mX6_offered 6 1 136) := s_callV ceX6_offered clsX6 (Or.inl wd_303) wd_304 selX6_offered (by decide +kernel : decode cX11_digest 133 = .ok (.invokevirtual 134, 3))
theorem oX11_digest_136 : OpS mX11_digest 136 (o_i2l 137) := s_i2l (by decide +kernel : decode cX11_digest 136 = .ok (.i2l, 1))
theorem oX11_digest_137 : OpS mX11_digest 137 (o_lbin (fun x y => x + y) 138) := s_ladd (by decide +kernel : decode cX11_digest 137 = .ok (.ladd, 1))
theorem oX11_digest_138 : OpS mX11_digest 138 (o_lstore 1 5 139) := s_lstore_n (by decide +kernel : decode cX11_digest 138 = .ok (.lstore_n 1, 1)) rfl rfl
theorem oX11_digest_139 : OpS mX11_digest 139 (o_iinc 3 5 1 142) := s_iinc (by decide +kernel : decode cX11_digest 139 = .ok (.iinc 3 1, 3)) (by decide) rfl
theorem oX11_digest_142 : OpS mX11_digest 142 (o_goto 118) := s_goto (by decide +kernel : decode cX11_digest 142 = .ok (.goto (-24), 3)) (by decide)
theorem oX11_digest_145 : OpS mX11_digest 145 (o_lload 1 146) := s_lload_n (by decide +kernel : decode cX11_digest 145 = .ok (.lload_n 1, 1)) rfl
theorem oX11_digest_146 : OpS mX11_digest 146 (o_lret) := s_lret rfl (by decide +kernel : decode cX11_digest 146 = .ok (.lreturn, 1))
theorem oX11_isLetter_0 : OpS mX11_isLetter 0 (o_iload 0 1) := s_iload_n (by decide +kernel : decode cX11_isLetter 0 = .ok (.iload_n 0, 1)) rfl
theorem oX11_isLetter_1 : OpS mX11_isLetter 1 (o_const (.int 97) 3) := s_bipush (by decide +kernel : decode cX11_isLetter 1 = .ok (.bipush 97, 2)) (by decide)
theorem oX11_isLetter_3 : OpS mX11_isLetter 3 (o_icmp (fun x y => x < y) 16 6) := s_icmp_lt (by decide +kernel : decode cX11_isLetter 3 = .ok (.if_icmp .lt 13, 3)) (by decide)
theorem oX11_isLetter_6 : OpS mX11_isLetter 6 (o_iload 0 7) := s_iload_n (by decide +kernel : decode cX11_isLetter 6 = .ok (.iload_n 0, 1)) rfl
theorem oX11_isLetter_7 : OpS mX11_isLetter 7 (o_const (.int 122) 9) := s_bipush (by decide +kernel : decode cX11_isLetter 7 = .ok (.bipush 122, 2)) (by decide)
theorem oX11_isLetter_9 : OpS mX11_isLetter 9 (o_icmp (fun x y => y < x) 16 12) := s_icmp_gt (by decide +kernel : decode cX11_isLetter 9 = .ok (.if_icmp .gt 7, 3)) (by decide)
theorem oX11_isLetter_12 : OpS mX11_isLetter 12 (o_const (.int 1) 13) := s_iconst (by decide +kernel : decode cX11_isLetter 12 = .ok (.iconst 1, 1)) (by decide)
theorem oX11_isLetter_13 : OpS mX11_isLetter 13 (o_goto 17) := s_goto (by decide +kernel : decode cX11_isLetter 13 = .ok (.goto 4, 3)) (by decide)
theorem oX11_isLetter_16 : OpS mX11_isLetter 16 (o_const (.int 0) 17) := s_iconst (by decide +kernel : decode cX11_isLetter 16 = .ok (.iconst 0, 1)) (by decide)
theorem oX11_isLetter_17 : OpS mX11_isLetter 17 (o_zret) := s_zret rfl (by decide +kernel : decode cX11_isLetter 17 = .ok (.ireturn, 1))
theorem oX11_isDigit_0 : OpS mX11_isDigit 0 (o_iload 0 1) := s_iload_n (by decide +kernel : decode cX11_isDigit 0 = .ok (.iload_n 0, 1)) rfl
theorem oX11_isDigit_1 : OpS mX11_isDigit 1 (o_const (.int 48) 3) := s_bipush (by decide +kernel : decode cX11_isDigit 1 = .ok (.bipush 48, 2)) (by decide)
theorem oX11_isDigit_3 : OpS mX11_isDigit 3 (o_icmp (fun x y => x < y) 16 6) := s_icmp_lt (by decide +kernel : decode cX11_isDigit 3 = .ok (.if_icmp .lt 13, 3)) (by decide)
theorem oX11_isDigit_6 : OpS mX11_isDigit 6 (o_iload 0 7) := s_iload_n (by decide +kernel : decode cX11_isDigit 6 = .ok (.iload_n 0, 1)) rfl
theorem oX11_isDigit_7 : OpS mX11_isDigit 7 (o_const (.int 57) 9) := s_bipush (by decide +kernel : decode cX11_isDigit 7 = .ok (.bipush 57, 2)) (by decide)
theorem oX11_isDigit_9 : OpS mX11_isDigit 9 (o_icmp (fun x y => y < x) 16 12) := s_icmp_gt (by decide +kernel : decode cX11_isDigit 9 = .ok (.if_icmp .gt 7, 3)) (by decide)
theorem oX11_isDigit_12 : OpS mX11_isDigit 12 (o_const (.int 1) 13) := s_iconst (by decide +kernel : decode cX11_isDigit 12 = .ok (.iconst 1, 1)) (by decide)
theorem oX11_isDigit_13 : OpS mX11_isDigit 13 (o_goto 17) := s_goto (by decide +kernel : decode cX11_isDigit 13 = .ok (.goto 4, 3)) (by decide)
theorem oX11_isDigit_16 : OpS mX11_isDigit 16 (o_const (.int 0) 17) := s_iconst (by decide +kernel : decode cX11_isDigit 16 = .ok (.iconst 0, 1)) (by decide)
theorem oX11_isDigit_17 : OpS mX11_isDigit 17 (o_zret) := s_zret rfl (by decide +kernel : decode cX11_isDigit 17 = .ok (.ireturn, 1))
theorem oX11_appendBytes_0 : OpS mX11_appendBytes 0 (o_const (.int 24) 2) := s_bipush (by decide +kernel : decode cX11_appendBytes 0 = .ok (.bipush 24, 2)) (by decide)
theorem oX11_appendBytes_2 : OpS mX11_appendBytes 2 (o_istore 2 3 3) := s_istore_n (by decide +kernel : decode cX11_appendBytes 2 = .ok (.istore_n 2, 1)) rfl rfl
theorem oX11_appendBytes_3 : OpS mX11_appendBytes 3 (o_iload 2 4) := s_iload_n (by decide +kernel : decode cX11_appendBytes 3 = .ok (.iload_n 2, 1)) rfl
theorem oX11_appendBytes_4 : OpS mX11_appendBytes 4 (o_if (fun x => x < 0) 27 7) := s_if_lt (by decide +kernel : decode cX11_appendBytes 4 = .ok (.ifCond .lt 23, 3)) (by decide)
theorem oX11_appendBytes_7 : OpS mX11_appendBytes 7 (o_aload 0 8) := s_aload_n (by decide +kernel : decode cX11_appendBytes 7 = .ok (.aload_n 0, 1)) rfl
theorem oX11_appendBytes_8 : OpS mX11_appendBytes 8 (o_getP 11 0 11) := s_getP (k := 0) clsX11 (by decide) rfl (Or.inl wd_746) (by decide +kernel : decode cX11_appendBytes 8 = .ok (.getfield 14, 3)) rfl
theorem oX11_appendBytes_11 : OpS mX11_appendBytes 11 (o_iload 1 12) := s_iload_n (by decide +kernel : decode cX11_appendBytes 11 = .ok (.iload_n 1, 1)) rfl
theorem oX11_appendBytes_12 : OpS mX11_appendBytes 12 (o_iload 2 13) := s_iload_n (by decide +kernel : decode cX11_appendBytes 12 = .ok (.iload_n 2, 1)) rfl
theorem oX11_appendBytes_13 : OpS mX11_appendBytes 13 (o_ibin (fun x y => (x.toUInt32 >>> (y.toUInt32 &&& Int32.toUInt32 31)).toInt32) 14) := s_iushr (by decide +kernel : decode cX11_appendBytes 13 = .ok (.iushr, 1))
theorem oX11_appendBytes_14 : OpS mX11_appendBytes 14 (o_const (.int 255) 17) := s_sipush (by decide +kernel : decode cX11_appendBytes 14 = .ok (.sipush 255, 3)) (by decide)
theorem oX11_appendBytes_17 : OpS mX11_appendBytes 17 (o_ibin (fun x y => x &&& y) 18) := s_iand (by decide +kernel : decode cX11_appendBytes 17 = .ok (.iand, 1))
theorem oX11_appendBytes_18 : OpS mX11_appendBytes 18 (o_callV mX9_add 9 1 21) := s_callV ceX9_add clsX9 (Or.inl wd_291) wd_129 selX9_add (by decide +kernel : decode cX11_appendBytes 18 = .ok (.invokevirtual 124, 3))
theorem oX11_appendBytes_21 : OpS mX11_appendBytes 21 (o_iinc 2 3 (-8) 24) := s_iinc (by decide +kernel : decode cX11_appendBytes 21 = .ok (.iinc 2 (-8), 3)) (by decide) rfl
theorem oX11_appendBytes_24 : OpS mX11_appendBytes 24 (o_goto 3) := s_goto (by decide +kernel : decode cX11_appendBytes 24 = .ok (.goto (-21), 3)) (by decide)
theorem oX11_appendBytes_27 : OpS mX11_appendBytes 27 (o_vret) := s_vret rfl (by decide +kernel : decode cX11_appendBytes 27 = .ok (.return_, 1))
theorem oX11_rank_0 : OpS mX11_rank 0 (o_aload 0 1) := s_aload_n (by decide +kernel : decode cX11_rank 0 = .ok (.aload_n 0, 1)) rfl
theorem oX11_rank_1 : OpS mX11_rank 1 (o_getI 11 6 4) := s_getI (k := 6) clsX11 (by decide) rfl (Or.inl wd_752) (by decide +kernel : decode cX11_rank 1 = .ok (.getfield 49, 3)) rfl
theorem oX11_rank_4 : OpS mX11_rank 4 (o_if (fun x => x = 0) 7 27) := s_if_ne (by decide +kernel : decode cX11_rank 4 = .ok (.ifCond .ne 23, 3)) (by decide)
theorem oX11_rank_7 : OpS mX11_rank 7 (o_aload 0 8) := s_aload_n (by decide +kernel : decode cX11_rank 7 = .ok (.aload_n 0, 1)) rfl
theorem oX11_rank_8 : OpS mX11_rank 8 (o_getP 11 5 11) := s_getP (k := 5) clsX11 (by decide) rfl (Or.inl wd_751) (by decide +kernel : decode cX11_rank 8 = .ok (.getfield 45, 3)) rfl
theorem oX11_rank_11 : OpS mX11_rank 11 (o_aload 0 12) := s_aload_n (by decide +kernel : decode cX11_rank 11 = .ok (.aload_n 0, 1)) rfl
theorem oX11_rank_12 : OpS mX11_rank 12 (o_getP 11 2 15) := s_getP (k := 2) clsX11 (by decide) rfl (Or.inl wd_748) (by decide +kernel : decode cX11_rank 12 = .ok (.getfield 28, 3)) rfl
theorem oX11_rank_15 : OpS mX11_rank 15 (o_aload 0 16) := s_aload_n (by decide +kernel : decode cX11_rank 15 = .ok (.aload_n 0, 1)) rfl
theorem oX11_rank_16 : OpS mX11_rank 16 (o_getP 11 4 19) := s_getP (k := 4) clsX11 (by decide) rfl (Or.inl wd_750) (by decide +kernel : decode cX11_rank 16 = .ok (.getfield 38, 3)) rfl
theorem oX11_rank_19 : OpS mX11_rank 19 (o_callV mX6_renew 6 2 22) := s_callV ceX6_renew clsX6 (Or.inl wd_104) wd_105 selX6_renew (by decide +kernel : decode cX11_rank 19 = .ok (.invokevirtual 209, 3))
theorem oX11_rank_22 : OpS mX11_rank 22 (o_aload 0 23) := s_aload_n (by decide +kernel : decode cX11_rank 22 = .ok (.aload_n 0, 1)) rfl
theorem oX11_rank_23 : OpS mX11_rank 23 (o_const (.int 1) 24) := s_iconst (by decide +kernel : decode cX11_rank 23 = .ok (.iconst 1, 1)) (by decide)
theorem oX11_rank_24 : OpS mX11_rank 24 (o_putZ 11 6 27) := s_putZ (k := 6) clsX11 (by decide) rfl (Or.inl ⟨wd_752, Or.inl rfl⟩) (by decide +kernel : decode cX11_rank 24 = .ok (.putfield 49, 3)) rfl rfl
theorem oX11_rank_27 : OpS mX11_rank 27 (o_vret) := s_vret rfl (by decide +kernel : decode cX11_rank 27 = .ok (.return_, 1))
theorem oX11_takeWord_0 : OpS mX11_takeWord 0 (o_aload 0 1) := s_aload_n (by decide +kernel : decode cX11_takeWord 0 = .ok (.aload_n 0, 1)) rfl
theorem oX11_takeWord_1 : OpS mX11_takeWord 1 (o_getP 11 2 4) := s_getP (k := 2) clsX11 (by decide) rfl (Or.inl wd_748) (by decide +kernel : decode cX11_takeWord 1 = .ok (.getfield 28, 3)) rfl
theorem oX11_takeWord_4 : OpS mX11_takeWord 4 (o_getP 0 2 7) := s_getP (k := 2) clsX0 (by decide) rfl (Or.inr ⟨_, wd_649⟩) (by decide +kernel : decode cX11_takeWord 4 = .ok (.getfield 160, 3)) rfl
theorem oX11_takeWord_7 : OpS mX11_takeWord 7 (o_iload 1 8) := s_iload_n (by decide +kernel : decode cX11_takeWord 7 = .ok (.iload_n 1, 1)) rfl
theorem oX11_takeWord_8 : OpS mX11_takeWord 8 (o_const (.int 9999) 11) := s_sipush (by decide +kernel : decode cX11_takeWord 8 = .ok (.sipush 9999, 3)) (by decide)
theorem oX11_takeWord_11 : OpS mX11_takeWord 11 (o_aload 0 12) := s_aload_n (by decide +kernel : decode cX11_takeWord 11 = .ok (.aload_n 0, 1)) rfl
theorem oX11_takeWord_12 : OpS mX11_takeWord 12 (o_getP 11 2 15) := s_getP (k := 2) clsX11 (by decide) rfl (Or.inl wd_748) (by decide +kernel : decode cX11_takeWord 12 = .ok (.getfield 28, 3)) rfl
theorem oX11_takeWord_15 : OpS mX11_takeWord 15 (o_getP 0 2 18) := s_getP (k := 2) clsX0 (by decide) rfl (Or.inr ⟨_, wd_649⟩) (by decide +kernel : decode cX11_takeWord 15 = .ok (.getfield 160, 3)) rfl
theorem oX11_takeWord_18 : OpS mX11_takeWord 18 (o_iload 1 19) := s_iload_n (by decide +kernel : decode cX11_takeWord 18 = .ok (.iload_n 1, 1)) rfl
theorem oX11_takeWord_19 : OpS mX11_takeWord 19 (o_callV mX9_at 9 1 22) := s_callV ceX9_at clsX9 (Or.inl wd_312) wd_133 selX9_at (by decide +kernel : decode cX11_takeWord 19 = .ok (.invokevirtual 187, 3))
theorem oX11_takeWord_22 : OpS mX11_takeWord 22 (o_const (.int 5) 23) := s_iconst (by decide +kernel : decode cX11_takeWord 22 = .ok (.iconst 5, 1)) (by decide)
theorem oX11_takeWord_23 : OpS mX11_takeWord 23 (o_ibin (fun x y => x + y) 24) := s_iadd (by decide +kernel : decode cX11_takeWord 23 = .ok (.iadd, 1))
theorem oX11_takeWord_24 : OpS mX11_takeWord 24 (o_min 27) := s_min wd_313 wd_146 wd_3 wd_147 (by decide +kernel : decode cX11_takeWord 24 = .ok (.invokestatic 243, 3))
theorem oX11_takeWord_27 : OpS mX11_takeWord 27 (o_callV mX9_put 9 2 30) := s_callV ceX9_put clsX9 (Or.inl wd_314) wd_142 selX9_put (by decide +kernel : decode cX11_takeWord 27 = .ok (.invokevirtual 163, 3))
theorem oX11_takeWord_30 : OpS mX11_takeWord 30 (o_aload 0 31) := s_aload_n (by decide +kernel : decode cX11_takeWord 30 = .ok (.aload_n 0, 1)) rfl
theorem oX11_takeWord_31 : OpS mX11_takeWord 31 (o_getP 11 4 34) := s_getP (k := 4) clsX11 (by decide) rfl (Or.inl wd_750) (by decide +kernel : decode cX11_takeWord 31 = .ok (.getfield 38, 3)) rfl
theorem oX11_takeWord_34 : OpS mX11_takeWord 34 (o_dup 35) := s_dup (by decide +kernel : decode cX11_takeWord 34 = .ok (.dup, 1))
theorem oX11_takeWord_35 : OpS mX11_takeWord 35 (o_getI 3 1 38) := s_getI (k := 1) clsX3 (by decide) rfl (Or.inr ⟨_, wd_689⟩) (by decide +kernel : decode cX11_takeWord 35 = .ok (.getfield 257, 3)) rfl
theorem oX11_takeWord_38 : OpS mX11_takeWord 38 (o_const (.int 1) 39) := s_iconst (by decide +kernel : decode cX11_takeWord 38 = .ok (.iconst 1, 1)) (by decide)
theorem oX11_takeWord_39 : OpS mX11_takeWord 39 (o_ibin (fun x y => x + y) 40) := s_iadd (by decide +kernel : decode cX11_takeWord 39 = .ok (.iadd, 1))
theorem oX11_takeWord_40 : OpS mX11_takeWord 40 (o_putI 3 1 43) := s_putI (k := 1) clsX3 (by decide) rfl (Or.inr ⟨rfl, _, wd_689⟩) (by decide +kernel : decode cX11_takeWord 40 = .ok (.putfield 257, 3)) rfl rfl
theorem oX11_takeWord_43 : OpS mX11_takeWord 43 (o_aload 0 44) := s_aload_n (by decide +kernel : decode cX11_takeWord 43 = .ok (.aload_n 0, 1)) rfl
theorem oX11_takeWord_44 : OpS mX11_takeWord 44 (o_getP 11 4 47) := s_getP (k := 4) clsX11 (by decide) rfl (Or.inl wd_750) (by decide +kernel : decode cX11_takeWord 44 = .ok (.getfield 38, 3)) rfl
theorem oX11_takeWord_47 : OpS mX11_takeWord 47 (o_iload 1 48) := s_iload_n (by decide +kernel : decode cX11_takeWord 47 = .ok (.iload_n 1, 1)) rfl
theorem oX11_takeWord_48 : OpS mX11_takeWord 48 (o_putI 3 2 51) := s_putI (k := 2) clsX3 (by decide) rfl (Or.inr ⟨rfl, _, wd_692⟩) (by decide +kernel : decode cX11_takeWord 48 = .ok (.putfield 260, 3)) rfl rfl
theorem oX11_takeWord_51 : OpS mX11_takeWord 51 (o_aload 0 52) := s_aload_n (by decide +kernel : decode cX11_takeWord 51 = .ok (.aload_n 0, 1)) rfl
theorem oX11_takeWord_52 : OpS mX11_takeWord 52 (o_getP 11 4 55) := s_getP (k := 4) clsX11 (by decide) rfl (Or.inl wd_750) (by decide +kernel : decode cX11_takeWord 52 = .ok (.getfield 38, 3)) rfl
theorem oX11_takeWord_55 : OpS mX11_takeWord 55 (o_getP 3 0 58) := s_getP (k := 0) clsX3 (by decide) rfl (Or.inr ⟨_, wd_685⟩) (by decide +kernel : decode cX11_takeWord 55 = .ok (.getfield 115, 3)) rfl
theorem oX11_takeWord_58 : OpS mX11_takeWord 58 (o_callV mX9_clear 9 0 61) := s_callV ceX9_clear clsX9 (Or.inl wd_315) wd_109 selX9_clear (by decide +kernel : decode cX11_takeWord 58 = .ok (.invokevirtual 91, 3))
theorem oX11_takeWord_61 : OpS mX11_takeWord 61 (o_aload 0 62) := s_aload_n (by decide +kernel : decode cX11_takeWord 61 = .ok (.aload_n 0, 1)) rfl
theorem oX11_takeWord_62 : OpS mX11_takeWord 62 (o_getP 11 4 65) := s_getP (k := 4) clsX11 (by decide) rfl (Or.inl wd_750) (by decide +kernel : decode cX11_takeWord 62 = .ok (.getfield 38, 3)) rfl
theorem oX11_takeWord_65 : OpS mX11_takeWord 65 (o_getI 3 1 68) := s_getI (k := 1) clsX3 (by decide) rfl (Or.inr ⟨_, wd_689⟩) (by decide +kernel : decode cX11_takeWord 65 = .ok (.getfield 257, 3)) rfl
theorem oX11_takeWord_68 : OpS mX11_takeWord 68 (o_const (.int 8) 70) := s_bipush (by decide +kernel : decode cX11_takeWord 68 = .ok (.bipush 8, 2)) (by decide)
theorem oX11_takeWord_70 : OpS mX11_takeWord 70 (o_irem 71) := s_irem (by decide +kernel : decode cX11_takeWord 70 = .ok (.irem, 1))
theorem oX11_takeWord_71 : OpS mX11_takeWord 71 (o_if (fun x => x = 0) 74 81) := s_if_ne (by decide +kernel : decode cX11_takeWord 71 = .ok (.ifCond .ne 10, 3)) (by decide)
theorem oX11_takeWord_74 : OpS mX11_takeWord 74 (o_aload 0 75) := s_aload_n (by decide +kernel : decode cX11_takeWord 74 = .ok (.aload_n 0, 1)) rfl
theorem oX11_takeWord_75 : OpS mX11_takeWord 75 (o_getP 11 2 78) := s_getP (k := 2) clsX11 (by decide) rfl (Or.inl wd_748) (by decide +kernel : decode cX11_takeWord 75 = .ok (.getfield 28, 3)) rfl
theorem oX11_takeWord_78 : OpS mX11_takeWord 78 (o_callV mX0_fade 0 0 81) := s_callV ceX0_fade clsX0 (Or.inl wd_316) wd_317 selX0_fade (by decide +kernel : decode cX11_takeWord 78 = .ok (.invokevirtual 263, 3))
theorem oX11_takeWord_81 : OpS mX11_takeWord 81 (o_aload 0 82) := s_aload_n (by decide +kernel : decode cX11_takeWord 81 = .ok (.aload_n 0, 1)) rfl
theorem oX11_takeWord_82 : OpS mX11_takeWord 82 (o_const (.int 0) 83) := s_iconst (by decide +kernel : decode cX11_takeWord 82 = .ok (.iconst 0, 1)) (by decide)
theorem oX11_takeWord_83 : OpS mX11_takeWord 83 (o_putZ 11 6 86) := s_putZ (k := 6) clsX11 (by decide) rfl (Or.inl ⟨wd_752, Or.inl rfl⟩) (by decide +kernel : decode cX11_takeWord 83 = .ok (.putfield 49, 3)) rfl rfl
theorem oX11_takeWord_86 : OpS mX11_takeWord 86 (o_vret) := s_vret rfl (by decide +kernel : decode cX11_takeWord 86 = .ok (.return_, 1))
theorem oX11_figure_0 : OpS mX11_figure 0 (o_iload 1 1) := s_iload_n (by decide +kernel : decode cX11_figure 0 = .ok (.iload_n 1, 1)) rfl
theorem oX11_figure_1 : OpS mX11_figure 1 (o_sw [(0, 64), (1, 75), (2, 86), (3, 97), (4, 108), (5, 119), (6, 127), (7, 135), (8, 143), (9, 151), (10, 166), (11, 174)] 182) := s_tsw (by decide +kernel : decode cX11_figure 1 = .ok (.tableswitch 181 0 11 #[63, 74, 85, 96, 107, 118, 126, 134, 142, 150, 165, 173], 63)) (by decide) (by decide) (by decide)
theorem oX11_figure_64 : OpS mX11_figure 64 (o_aload 0 65) := s_aload_n (by decide +kernel : decode cX11_figure 64 = .ok (.aload_n 0, 1)) rfl
theorem oX11_figure_65 : OpS mX11_figure 65 (o_getP 11 2 68) := s_getP (k := 2) clsX11 (by decide) rfl (Or.inl wd_748) (by decide +kernel : decode cX11_figure 65 = .ok (.getfield 28, 3)) rfl
theorem oX11_figure_68 : OpS mX11_figure 68 (o_getP 0 1 71) := s_getP (k := 1) clsX0 (by decide) rfl (Or.inr ⟨_, wd_644⟩) (by decide +kernel : decode cX11_figure 68 = .ok (.getfield 144, 3)) rfl
theorem oX11_figure_71 : OpS mX11_figure 71 (o_callV mX5_size 5 0 74) := s_callV ceX5_size clsX5 (Or.inl wd_218) wd_113 selX5_size (by decide +kernel : decode cX11_figure 71 = .ok (.invokevirtual 238, 3))
theorem oX11_figure_74 : OpS mX11_figure 74 (o_iret) := s_iret rfl (by decide +kernel : decode cX11_figure 74 = .ok (.ireturn, 1))
theorem oX11_figure_75 : OpS mX11_figure 75 (o_aload 0 76) := s_aload_n (by decide +kernel : decode cX11_figure 75 = .ok (.aload_n 0, 1)) rfl
theorem oX11_figure_76 : OpS mX11_figure 76 (o_getP 11 2 79) := s_getP (k := 2) clsX11 (by decide) rfl (Or.inl wd_748) (by decide +kernel : decode cX11_figure 76 = .ok (.getfield 28, 3)) rfl
theorem oX11_figure_79 : OpS mX11_figure 79 (o_getP 0 0 82) := s_getP (k := 0) clsX0 (by decide) rfl (Or.inr ⟨_, wd_640⟩) (by decide +kernel : decode cX11_figure 79 = .ok (.getfield 266, 3)) rfl
theorem oX11_figure_82 : OpS mX11_figure 82 (o_callV mX5_size 5 0 85) := s_callV ceX5_size clsX5 (Or.inl wd_218) wd_113 selX5_size (by decide +kernel : decode cX11_figure 82 = .ok (.invokevirtual 238, 3))
theorem oX11_figure_85 : OpS mX11_figure 85 (o_iret) := s_iret rfl (by decide +kernel : decode cX11_figure 85 = .ok (.ireturn, 1))
theorem oX11_figure_86 : OpS mX11_figure 86 (o_aload 0 87) := s_aload_n (by decide +kernel : decode cX11_figure 86 = .ok (.aload_n 0, 1)) rfl
theorem oX11_figure_87 : OpS mX11_figure 87 (o_getP 11 2 90) := s_getP (k := 2) clsX11 (by decide) rfl (Or.inl wd_748) (by decide +kernel : decode cX11_figure 87 = .ok (.getfield 28, 3)) rfl
theorem oX11_figure_90 : OpS mX11_figure 90 (o_getP 0 4 93) := s_getP (k := 4) clsX0 (by decide) rfl (Or.inr ⟨_, wd_657⟩) (by decide +kernel : decode cX11_figure 90 = .ok (.getfield 189, 3)) rfl
theorem oX11_figure_93 : OpS mX11_figure 93 (o_callV mX4_rows 4 0 96) := s_callV ceX4_rows clsX4 (Or.inl wd_219) wd_220 selX4_rows (by decide +kernel : decode cX11_figure 93 = .ok (.invokevirtual 269, 3))
theorem oX11_figure_96 : OpS mX11_figure 96 (o_iret) := s_iret rfl (by decide +kernel : decode cX11_figure 96 = .ok (.ireturn, 1))
theorem oX11_figure_97 : OpS mX11_figure 97 (o_aload 0 98) := s_aload_n (by decide +kernel : decode cX11_figure 97 = .ok (.aload_n 0, 1)) rfl
theorem oX11_figure_98 : OpS mX11_figure 98 (o_getP 11 2 101) := s_getP (k := 2) clsX11 (by decide) rfl (Or.inl wd_748) (by decide +kernel : decode cX11_figure 98 = .ok (.getfield 28, 3)) rfl
theorem oX11_figure_101 : OpS mX11_figure 101 (o_getP 0 5 104) := s_getP (k := 5) clsX0 (by decide) rfl (Or.inr ⟨_, wd_661⟩) (by decide +kernel : decode cX11_figure 101 = .ok (.getfield 272, 3)) rfl
theorem oX11_figure_104 : OpS mX11_figure 104 (o_callV mX1_size 1 0 107) := s_callV ceX1_size clsX1 (Or.inl wd_223) wd_158 selX1_size (by decide +kernel : decode cX11_figure 104 = .ok (.invokevirtual 276, 3))
theorem oX11_figure_107 : OpS mX11_figure 107 (o_iret) := s_iret rfl (by decide +kernel : decode cX11_figure 107 = .ok (.ireturn, 1))
theorem oX11_figure_108 : OpS mX11_figure 108 (o_aload 0 109) := s_aload_n (by decide +kernel : decode cX11_figure 108 = .ok (.aload_n 0, 1)) rfl
theorem oX11_figure_109 : OpS mX11_figure 109 (o_getP 11 4 112) := s_getP (k := 4) clsX11 (by decide) rfl (Or.inl wd_750) (by decide +kernel : decode cX11_figure 109 = .ok (.getfield 38, 3)) rfl
theorem oX11_figure_112 : OpS mX11_figure 112 (o_getP 3 0 115) := s_getP (k := 0) clsX3 (by decide) rfl (Or.inr ⟨_, wd_685⟩) (by decide +kernel : decode cX11_figure 112 = .ok (.getfield 115, 3)) rfl
theorem oX11_figure_115 : OpS mX11_figure 115 (o_callV mX9_size 9 0 118) := s_callV ceX9_size clsX9 (Or.inl wd_224) wd_125 selX9_size (by decide +kernel : decode cX11_figure 115 = .ok (.invokevirtual 63, 3))
theorem oX11_figure_118 : OpS mX11_figure 118 (o_iret) := s_iret rfl (by decide +kernel : decode cX11_figure 118 = .ok (.ireturn, 1))
theorem oX11_figure_119 : OpS mX11_figure 119 (o_aload 0 120) := s_aload_n (by decide +kernel : decode cX11_figure 119 = .ok (.aload_n 0, 1)) rfl
theorem oX11_figure_120 : OpS mX11_figure 120 (o_getP 11 4 123) := s_getP (k := 4) clsX11 (by decide) rfl (Or.inl wd_750) (by decide +kernel : decode cX11_figure 120 = .ok (.getfield 38, 3)) rfl
theorem oX11_figure_123 : OpS mX11_figure 123 (o_getI 3 1 126) := s_getI (k := 1) clsX3 (by decide) rfl (Or.inr ⟨_, wd_689⟩) (by decide +kernel : decode cX11_figure 123 = .ok (.getfield 257, 3)) rfl
theorem oX11_figure_126 : OpS mX11_figure 126 (o_iret) := s_iret rfl (by decide +kernel : decode cX11_figure 126 = .ok (.ireturn, 1))
theorem oX11_figure_127 : OpS mX11_figure 127 (o_aload 0 128) := s_aload_n (by decide +kernel : decode cX11_figure 127 = .ok (.aload_n 0, 1)) rfl
theorem oX11_figure_128 : OpS mX11_figure 128 (o_getP 11 4 131) := s_getP (k := 4) clsX11 (by decide) rfl (Or.inl wd_750) (by decide +kernel : decode cX11_figure 128 = .ok (.getfield 38, 3)) rfl
theorem oX11_figure_131 : OpS mX11_figure 131 (o_getI 3 3 134) := s_getI (k := 3) clsX3 (by decide) rfl (Or.inr ⟨_, wd_696⟩) (by decide +kernel : decode cX11_figure 131 = .ok (.getfield 169, 3)) rfl
theorem oX11_figure_134 : OpS mX11_figure 134 (o_iret) := s_iret rfl (by decide +kernel : decode cX11_figure 134 = .ok (.ireturn, 1))
theorem oX11_figure_135 : OpS mX11_figure 135 (o_aload 0 136) := s_aload_n (by decide +kernel : decode cX11_figure 135 = .ok (.aload_n 0, 1)) rfl
theorem oX11_figure_136 : OpS mX11_figure 136 (o_getP 11 2 139) := s_getP (k := 2) clsX11 (by decide) rfl (Or.inl wd_748) (by decide +kernel : decode cX11_figure 136 = .ok (.getfield 28, 3)) rfl
theorem oX11_figure_139 : OpS mX11_figure 139 (o_callV mX0_allWeights 0 0 142) := s_callV ceX0_allWeights clsX0 (Or.inl wd_225) wd_226 selX0_allWeights (by decide +kernel : decode cX11_figure 139 = .ok (.invokevirtual 246, 3))
theorem oX11_figure_142 : OpS mX11_figure 142 (o_iret) := s_iret rfl (by decide +kernel : decode cX11_figure 142 = .ok (.ireturn, 1))
theorem oX11_figure_143 : OpS mX11_figure 143 (o_aload 0 144) := s_aload_n (by decide +kernel : decode cX11_figure 143 = .ok (.aload_n 0, 1)) rfl
theorem oX11_figure_144 : OpS mX11_figure 144 (o_getP 11 5 147) := s_getP (k := 5) clsX11 (by decide) rfl (Or.inl wd_751) (by decide +kernel : decode cX11_figure 144 = .ok (.getfield 45, 3)) rfl
theorem oX11_figure_147 : OpS mX11_figure 147 (o_callV mX6_nearWords 6 0 150) := s_callV ceX6_nearWords clsX6 (Or.inl wd_231) wd_232 selX6_nearWords (by decide +kernel : decode cX11_figure 147 = .ok (.invokevirtual 279, 3))
theorem oX11_figure_150 : OpS mX11_figure 150 (o_iret) := s_iret rfl (by decide +kernel : decode cX11_figure 150 = .ok (.ireturn, 1))
theorem oX11_figure_151 : OpS mX11_figure 151 (o_aload 0 152) := s_aload_n (by decide +kernel : decode cX11_figure 151 = .ok (.aload_n 0, 1)) rfl
theorem oX11_figure_152 : OpS mX11_figure 152 (o_getP 11 2 155) := s_getP (k := 2) clsX11 (by decide) rfl (Or.inl wd_748) (by decide +kernel : decode cX11_figure 152 = .ok (.getfield 28, 3)) rfl
theorem oX11_figure_155 : OpS mX11_figure 155 (o_aload 0 156) := s_aload_n (by decide +kernel : decode cX11_figure 155 = .ok (.aload_n 0, 1)) rfl
theorem oX11_figure_156 : OpS mX11_figure 156 (o_getP 11 4 159) := s_getP (k := 4) clsX11 (by decide) rfl (Or.inl wd_750) (by decide +kernel : decode cX11_figure 156 = .ok (.getfield 38, 3)) rfl
theorem oX11_figure_159 : OpS mX11_figure 159 (o_getP 3 0 162) := s_getP (k := 0) clsX3 (by decide) rfl (Or.inr ⟨_, wd_685⟩) (by decide +kernel : decode cX11_figure 159 = .ok (.getfield 115, 3)) rfl
theorem oX11_figure_162 : OpS mX11_figure 162 (o_callV mX0_wordsThatBegin 0 1 165) := s_callV ceX0_wordsThatBegin clsX0 (Or.inl wd_235) wd_236 selX0_wordsThatBegin (by decide +kernel : decode cX11_figure 162 = .ok (.invokevirtual 282, 3))
theorem oX11_figure_165 : OpS mX11_figure 165 (o_iret) := s_iret rfl (by decide +kernel : decode cX11_figure 165 = .ok (.ireturn, 1))
theorem oX11_figure_166 : OpS mX11_figure 166 (o_aload 0 167) := s_aload_n (by decide +kernel : decode cX11_figure 166 = .ok (.aload_n 0, 1)) rfl
theorem oX11_figure_167 : OpS mX11_figure 167 (o_getP 11 2 170) := s_getP (k := 2) clsX11 (by decide) rfl (Or.inl wd_748) (by decide +kernel : decode cX11_figure 167 = .ok (.getfield 28, 3)) rfl
theorem oX11_figure_170 : OpS mX11_figure 170 (o_callV mX0_trieNodes 0 0 173) := s_callV ceX0_trieNodes clsX0 (Or.inl wd_242) wd_243 selX0_trieNodes (by decide +kernel : decode cX11_figure 170 = .ok (.invokevirtual 285, 3))
theorem oX11_figure_173 : OpS mX11_figure 173 (o_iret) := s_iret rfl (by decide +kernel : decode cX11_figure 173 = .ok (.ireturn, 1))
theorem oX11_figure_174 : OpS mX11_figure 174 (o_aload 0 175) := s_aload_n (by decide +kernel : decode cX11_figure 174 = .ok (.aload_n 0, 1)) rfl
theorem oX11_figure_175 : OpS mX11_figure 175 (o_getP 11 4 178) := s_getP (k := 4) clsX11 (by decide) rfl (Or.inl wd_750) (by decide +kernel : decode cX11_figure 175 = .ok (.getfield 38, 3)) rfl
theorem oX11_figure_178 : OpS mX11_figure 178 (o_getI 3 2 181) := s_getI (k := 2) clsX3 (by decide) rfl (Or.inr ⟨_, wd_692⟩) (by decide +kernel : decode cX11_figure 178 = .ok (.getfield 260, 3)) rfl
theorem oX11_figure_181 : OpS mX11_figure 181 (o_iret) := s_iret rfl (by decide +kernel : decode cX11_figure 181 = .ok (.ireturn, 1))
theorem oX11_figure_182 : OpS mX11_figure 182 (o_aload 0 183) := s_aload_n (by decide +kernel : decode cX11_figure 182 = .ok (.aload_n 0, 1)) rfl
theorem oX11_figure_183 : OpS mX11_figure 183 (o_getP 11 0 186) := s_getP (k := 0) clsX11 (by decide) rfl (Or.inl wd_746) (by decide +kernel : decode cX11_figure 183 = .ok (.getfield 14, 3)) rfl
theorem oX11_figure_186 : OpS mX11_figure 186 (o_callV mX9_size 9 0 189) := s_callV ceX9_size clsX9 (Or.inl wd_224) wd_125 selX9_size (by decide +kernel : decode cX11_figure 186 = .ok (.invokevirtual 63, 3))
theorem oX11_figure_189 : OpS mX11_figure 189 (o_iret) := s_iret rfl (by decide +kernel : decode cX11_figure 189 = .ok (.ireturn, 1))
theorem oX11_wordFigure_0 : OpS mX11_wordFigure 0 (o_iload 2 1) := s_iload_n (by decide +kernel : decode cX11_wordFigure 0 = .ok (.iload_n 2, 1)) rfl
theorem oX11_wordFigure_1 : OpS mX11_wordFigure 1 (o_sw [(0, 36), (1, 48), (2, 60), (3, 75), (4, 84)] 93) := s_tsw (by decide +kernel : decode cX11_wordFigure 1 = .ok (.tableswitch 92 0 4 #[35, 47, 59, 74, 83], 35)) (by decide) (by decide) (by decide)
theorem oX11_wordFigure_36 : OpS mX11_wordFigure 36 (o_aload 0 37) := s_aload_n (by decide +kernel : decode cX11_wordFigure 36 = .ok (.aload_n 0, 1)) rfl
theorem oX11_wordFigure_37 : OpS mX11_wordFigure 37 (o_getP 11 2 40) := s_getP (k := 2) clsX11 (by decide) rfl (Or.inl wd_748) (by decide +kernel : decode cX11_wordFigure 37 = .ok (.getfield 28, 3)) rfl
theorem oX11_wordFigure_40 : OpS mX11_wordFigure 40 (o_getP 0 2 43) := s_getP (k := 2) clsX0 (by decide) rfl (Or.inr ⟨_, wd_649⟩) (by decide +kernel : decode cX11_wordFigure 40 = .ok (.getfield 160, 3)) rfl
theorem oX11_wordFigure_43 : OpS mX11_wordFigure 43 (o_iload 1 44) := s_iload_n (by decide +kernel : decode cX11_wordFigure 43 = .ok (.iload_n 1, 1)) rfl
theorem oX11_wordFigure_44 : OpS mX11_wordFigure 44 (o_callV mX9_at 9 1 47) := s_callV ceX9_at clsX9 (Or.inl wd_312) wd_133 selX9_at (by decide +kernel : decode cX11_wordFigure 44 = .ok (.invokevirtual 187, 3))
theorem oX11_wordFigure_47 : OpS mX11_wordFigure 47 (o_iret) := s_iret rfl (by decide +kernel : decode cX11_wordFigure 47 = .ok (.ireturn, 1))
theorem oX11_wordFigure_48 : OpS mX11_wordFigure 48 (o_aload 0 49) := s_aload_n (by decide +kernel : decode cX11_wordFigure 48 = .ok (.aload_n 0, 1)) rfl
theorem oX11_wordFigure_49 : OpS mX11_wordFigure 49 (o_getP 11 2 52) := s_getP (k := 2) clsX11 (by decide) rfl (Or.inl wd_748) (by decide +kernel : decode cX11_wordFigure 49 = .ok (.getfield 28, 3)) rfl
theorem oX11_wordFigure_52 : OpS mX11_wordFigure 52 (o_getP 0 3 55) := s_getP (k := 3) clsX0 (by decide) rfl (Or.inr ⟨_, wd_653⟩) (by decide +kernel : decode cX11_wordFigure 52 = .ok (.getfield 288, 3)) rfl
theorem oX11_wordFigure_55 : OpS mX11_wordFigure 55 (o_iload 1 56) := s_iload_n (by decide +kernel : decode cX11_wordFigure 55 = .ok (.iload_n 1, 1)) rfl
theorem oX11_wordFigure_56 : OpS mX11_wordFigure 56 (o_callV mX9_at 9 1 59) := s_callV ceX9_at clsX9 (Or.inl wd_312) wd_133 selX9_at (by decide +kernel : decode cX11_wordFigure 56 = .ok (.invokevirtual 187, 3))
theorem oX11_wordFigure_59 : OpS mX11_wordFigure 59 (o_iret) := s_iret rfl (by decide +kernel : decode cX11_wordFigure 59 = .ok (.ireturn, 1))
theorem oX11_wordFigure_60 : OpS mX11_wordFigure 60 (o_aload 0 61) := s_aload_n (by decide +kernel : decode cX11_wordFigure 60 = .ok (.aload_n 0, 1)) rfl
theorem oX11_wordFigure_61 : OpS mX11_wordFigure 61 (o_getP 11 2 64) := s_getP (k := 2) clsX11 (by decide) rfl (Or.inl wd_748) (by decide +kernel : decode cX11_wordFigure 61 = .ok (.getfield 28, 3)) rfl
theorem oX11_wordFigure_64 : OpS mX11_wordFigure 64 (o_getP 0 1 67) := s_getP (k := 1) clsX0 (by decide) rfl (Or.inr ⟨_, wd_644⟩) (by decide +kernel : decode cX11_wordFigure 64 = .ok (.getfield 144, 3)) rfl
theorem oX11_wordFigure_67 : OpS mX11_wordFigure 67 (o_iload 1 68) := s_iload_n (by decide +kernel : decode cX11_wordFigure 67 = .ok (.iload_n 1, 1)) rfl
theorem oX11_wordFigure_68 : OpS mX11_wordFigure 68 (o_callV mX5_at 5 1 71) := s_callV ceX5_at clsX5 (Or.inl wd_343) wd_117 selX5_at (by decide +kernel : decode cX11_wordFigure 68 = .ok (.invokevirtual 181, 3))
theorem oX11_wordFigure_71 : OpS mX11_wordFigure 71 (o_callV mX9_size 9 0 74) := s_callV ceX9_size clsX9 (Or.inl wd_224) wd_125 selX9_size (by decide +kernel : decode cX11_wordFigure 71 = .ok (.invokevirtual 63, 3))
theorem oX11_wordFigure_74 : OpS mX11_wordFigure 74 (o_iret) := s_iret rfl (by decide +kernel : decode cX11_wordFigure 74 = .ok (.ireturn, 1))
theorem oX11_wordFigure_75 : OpS mX11_wordFigure 75 (o_aload 0 76) := s_aload_n (by decide +kernel : decode cX11_wordFigure 75 = .ok (.aload_n 0, 1)) rfl
theorem oX11_wordFigure_76 : OpS mX11_wordFigure 76 (o_getP 11 5 79) := s_getP (k := 5) clsX11 (by decide) rfl (Or.inl wd_751) (by decide +kernel : decode cX11_wordFigure 76 = .ok (.getfield 45, 3)) rfl
theorem oX11_wordFigure_79 : OpS mX11_wordFigure 79 (o_iload 1 80) := s_iload_n (by decide +kernel : decode cX11_wordFigure 79 = .ok (.iload_n 1, 1)) rfl
theorem oX11_wordFigure_80 : OpS mX11_wordFigure 80 (o_callV mX6_far 6 1 83) := s_callV ceX6_far clsX6 (Or.inl wd_344) wd_345 selX6_far (by decide +kernel : decode cX11_wordFigure 80 = .ok (.invokevirtual 291, 3))
theorem oX11_wordFigure_83 : OpS mX11_wordFigure 83 (o_iret) := s_iret rfl (by decide +kernel : decode cX11_wordFigure 83 = .ok (.ireturn, 1))
theorem oX11_wordFigure_84 : OpS mX11_wordFigure 84 (o_aload 0 85) := s_aload_n (by decide +kernel : decode cX11_wordFigure 84 = .ok (.aload_n 0, 1)) rfl
theorem oX11_wordFigure_85 : OpS mX11_wordFigure 85 (o_getP 11 5 88) := s_getP (k := 5) clsX11 (by decide) rfl (Or.inl wd_751) (by decide +kernel : decode cX11_wordFigure 85 = .ok (.getfield 45, 3)) rfl
theorem oX11_wordFigure_88 : OpS mX11_wordFigure 88 (o_iload 1 89) := s_iload_n (by decide +kernel : decode cX11_wordFigure 88 = .ok (.iload_n 1, 1)) rfl
theorem oX11_wordFigure_89 : OpS mX11_wordFigure 89 (o_callV mX6_score 6 1 92) := s_callV ceX6_score clsX6 (Or.inl wd_348) wd_349 selX6_score (by decide +kernel : decode cX11_wordFigure 89 = .ok (.invokevirtual 227, 3))
theorem oX11_wordFigure_92 : OpS mX11_wordFigure 92 (o_iret) := s_iret rfl (by decide +kernel : decode cX11_wordFigure 92 = .ok (.ireturn, 1))
theorem oX11_wordFigure_93 : OpS mX11_wordFigure 93 (o_aload 0 94) := s_aload_n (by decide +kernel : decode cX11_wordFigure 93 = .ok (.aload_n 0, 1)) rfl
theorem oX11_wordFigure_94 : OpS mX11_wordFigure 94 (o_getP 11 5 97) := s_getP (k := 5) clsX11 (by decide) rfl (Or.inl wd_751) (by decide +kernel : decode cX11_wordFigure 94 = .ok (.getfield 45, 3)) rfl
theorem oX11_wordFigure_97 : OpS mX11_wordFigure 97 (o_iload 1 98) := s_iload_n (by decide +kernel : decode cX11_wordFigure 97 = .ok (.iload_n 1, 1)) rfl
theorem oX11_wordFigure_98 : OpS mX11_wordFigure 98 (o_callV mX6_place 6 1 101) := s_callV ceX6_place clsX6 (Or.inl wd_352) wd_353 selX6_place (by decide +kernel : decode cX11_wordFigure 98 = .ok (.invokevirtual 220, 3))
theorem oX11_wordFigure_101 : OpS mX11_wordFigure 101 (o_iret) := s_iret rfl (by decide +kernel : decode cX11_wordFigure 101 = .ok (.ireturn, 1))
