theorem oX7_init_0 : OpS mX7_init 0 (o_aload 0 1) := s_aload_n (by decide +kernel : decode cX7_init 0 = .ok (.aload_n 0, 1)) rfl
theorem oX7_init_1 : OpS mX7_init 1 (o_objinit 4) := s_objinit wd_445 wd_55 wd_56 (by decide +kernel : decode cX7_init 1 = .ok (.invokespecial 3, 3))
theorem oX7_init_4 : OpS mX7_init 4 (o_aload 0 5) := s_aload_n (by decide +kernel : decode cX7_init 4 = .ok (.aload_n 0, 1)) rfl
theorem oX7_init_5 : OpS mX7_init 5 (o_new 10 5 8) := s_new clsX10 defX10 wd_446 wd_447 wd_5 (by decide +kernel : decode cX7_init 5 = .ok (.new 9, 3))
theorem oX7_init_8 : OpS mX7_init 8 (o_dup 9) := s_dup (by decide +kernel : decode cX7_init 8 = .ok (.dup, 1))
theorem oX7_init_9 : OpS mX7_init 9 (o_callI mX10_init 0 12) := s_callI ceX10_init rfl rfl (Or.inl wd_448) wd_449 (by decide +kernel : decode cX7_init 9 = .ok (.invokespecial 11, 3))
theorem oX7_init_12 : OpS mX7_init 12 (o_putP 7 0 15) := s_putP (k := 0) clsX7 (by decide) rfl (Or.inl ⟨wd_554, Or.inr ⟨rfl, rfl, rfl⟩⟩) (by decide +kernel : decode cX7_init 12 = .ok (.putfield 12, 3)) rfl (fun _ => rfl) (fun _ => rfl)
theorem oX7_init_15 : OpS mX7_init 15 (o_aload 0 16) := s_aload_n (by decide +kernel : decode cX7_init 15 = .ok (.aload_n 0, 1)) rfl
theorem oX7_init_16 : OpS mX7_init 16 (o_new 9 2 19) := s_new clsX9 defX9 wd_552 wd_426 wd_2 (by decide +kernel : decode cX7_init 16 = .ok (.new 18, 3))
theorem oX7_init_19 : OpS mX7_init 19 (o_dup 20) := s_dup (by decide +kernel : decode cX7_init 19 = .ok (.dup, 1))
theorem oX7_init_20 : OpS mX7_init 20 (o_const (.int 401) 23) := s_sipush (by decide +kernel : decode cX7_init 20 = .ok (.sipush 401, 3)) (by decide)
theorem oX7_init_23 : OpS mX7_init 23 (o_callI mX9_init 1 26) := s_callI ceX9_init rfl rfl (Or.inl wd_553) wd_428 (by decide +kernel : decode cX7_init 23 = .ok (.invokespecial 20, 3))
theorem oX7_init_26 : OpS mX7_init 26 (o_putP 7 1 29) := s_putP (k := 1) clsX7 (by decide) rfl (Or.inl ⟨wd_555, Or.inr ⟨rfl, rfl, rfl⟩⟩) (by decide +kernel : decode cX7_init 26 = .ok (.putfield 23, 3)) rfl (fun _ => rfl) (fun _ => rfl)
theorem oX7_init_29 : OpS mX7_init 29 (o_aload 0 30) := s_aload_n (by decide +kernel : decode cX7_init 29 = .ok (.aload_n 0, 1)) rfl
theorem oX7_init_30 : OpS mX7_init 30 (o_const (.int (-1)) 31) := s_iconst (by decide +kernel : decode cX7_init 30 = .ok (.iconst (-1), 1)) (by decide)
theorem oX7_init_31 : OpS mX7_init 31 (o_putI 7 2 34) := s_putI (k := 2) clsX7 (by decide) rfl (Or.inl ⟨wd_556, Or.inl rfl⟩) (by decide +kernel : decode cX7_init 31 = .ok (.putfield 27, 3)) rfl rfl
theorem oX7_init_34 : OpS mX7_init 34 (o_vret) := s_vret rfl (by decide +kernel : decode cX7_init 34 = .ok (.return_, 1))
theorem oX7_errorPosition_0 : OpS mX7_errorPosition 0 (o_aload 0 1) := s_aload_n (by decide +kernel : decode cX7_errorPosition 0 = .ok (.aload_n 0, 1)) rfl
theorem oX7_errorPosition_1 : OpS mX7_errorPosition 1 (o_getI 7 2 4) := s_getI (k := 2) clsX7 (by decide) rfl (Or.inl wd_556) (by decide +kernel : decode cX7_errorPosition 1 = .ok (.getfield 27, 3)) rfl
theorem oX7_errorPosition_4 : OpS mX7_errorPosition 4 (o_iret) := s_iret rfl (by decide +kernel : decode cX7_errorPosition 4 = .ok (.ireturn, 1))
theorem oX7_read_0 : OpS mX7_read 0 (o_aload 2 1) := s_aload_n (by decide +kernel : decode cX7_read 0 = .ok (.aload_n 2, 1)) rfl
theorem oX7_read_1 : OpS mX7_read 1 (o_callV mX0_clear 0 0 4) := s_callV ceX0_clear clsX0 (Or.inl wd_837) wd_838 selX0_clear (by decide +kernel : decode cX7_read 1 = .ok (.invokevirtual 31, 3))
theorem oX7_read_4 : OpS mX7_read 4 (o_aload 0 5) := s_aload_n (by decide +kernel : decode cX7_read 4 = .ok (.aload_n 0, 1)) rfl
theorem oX7_read_5 : OpS mX7_read 5 (o_getP 7 0 8) := s_getP (k := 0) clsX7 (by decide) rfl (Or.inl wd_554) (by decide +kernel : decode cX7_read 5 = .ok (.getfield 12, 3)) rfl
theorem oX7_read_8 : OpS mX7_read 8 (o_aload 1 9) := s_aload_n (by decide +kernel : decode cX7_read 8 = .ok (.aload_n 1, 1)) rfl
theorem oX7_read_9 : OpS mX7_read 9 (o_callV mX10_read 10 1 12) := s_callV ceX10_read clsX10 (Or.inl wd_853) wd_854 selX10_read (by decide +kernel : decode cX7_read 9 = .ok (.invokevirtual 36, 3))
theorem oX7_read_12 : OpS mX7_read 12 (o_aload 0 13) := s_aload_n (by decide +kernel : decode cX7_read 12 = .ok (.aload_n 0, 1)) rfl
theorem oX7_read_13 : OpS mX7_read 13 (o_new 2 5 16) := s_new clsX2 defX2 wd_941 wd_942 wd_24 (by decide +kernel : decode cX7_read 13 = .ok (.new 40, 3))
theorem oX7_read_16 : OpS mX7_read 16 (o_dup 17) := s_dup (by decide +kernel : decode cX7_read 16 = .ok (.dup, 1))
theorem oX7_read_17 : OpS mX7_read 17 (o_aload 0 18) := s_aload_n (by decide +kernel : decode cX7_read 17 = .ok (.aload_n 0, 1)) rfl
theorem oX7_read_18 : OpS mX7_read 18 (o_getP 7 0 21) := s_getP (k := 0) clsX7 (by decide) rfl (Or.inl wd_554) (by decide +kernel : decode cX7_read 18 = .ok (.getfield 12, 3)) rfl
theorem oX7_read_21 : OpS mX7_read 21 (o_aload 1 22) := s_aload_n (by decide +kernel : decode cX7_read 21 = .ok (.aload_n 1, 1)) rfl
theorem oX7_read_22 : OpS mX7_read 22 (o_aload 2 23) := s_aload_n (by decide +kernel : decode cX7_read 22 = .ok (.aload_n 2, 1)) rfl
theorem oX7_read_23 : OpS mX7_read 23 (o_getP 0 5 26) := s_getP (k := 5) clsX0 (by decide) rfl (Or.inr ⟨_, wd_660⟩) (by decide +kernel : decode cX7_read 23 = .ok (.getfield 42, 3)) rfl
theorem oX7_read_26 : OpS mX7_read 26 (o_callI mX2_init 3 29) := s_callI ceX2_init rfl rfl (Or.inl wd_943) wd_944 (by decide +kernel : decode cX7_read 26 = .ok (.invokespecial 46, 3))
theorem oX7_read_29 : OpS mX7_read 29 (o_callV mX2_read 2 0 32) := s_callV ceX2_read clsX2 (Or.inl wd_963) wd_964 selX2_read (by decide +kernel : decode cX7_read 29 = .ok (.invokevirtual 49, 3))
theorem oX7_read_32 : OpS mX7_read 32 (o_putI 7 2 35) := s_putI (k := 2) clsX7 (by decide) rfl (Or.inl ⟨wd_556, Or.inl rfl⟩) (by decide +kernel : decode cX7_read 32 = .ok (.putfield 27, 3)) rfl rfl
theorem oX7_read_35 : OpS mX7_read 35 (o_aload 0 36) := s_aload_n (by decide +kernel : decode cX7_read 35 = .ok (.aload_n 0, 1)) rfl
theorem oX7_read_36 : OpS mX7_read 36 (o_getI 7 2 39) := s_getI (k := 2) clsX7 (by decide) rfl (Or.inl wd_556) (by decide +kernel : decode cX7_read 36 = .ok (.getfield 27, 3)) rfl
theorem oX7_read_39 : OpS mX7_read 39 (o_if (fun x => x < 0) 44 42) := s_if_lt (by decide +kernel : decode cX7_read 39 = .ok (.ifCond .lt 5, 3)) (by decide)
theorem oX7_read_42 : OpS mX7_read 42 (o_const (.int 1) 43) := s_iconst (by decide +kernel : decode cX7_read 42 = .ok (.iconst 1, 1)) (by decide)
theorem oX7_read_43 : OpS mX7_read 43 (o_iret) := s_iret rfl (by decide +kernel : decode cX7_read 43 = .ok (.ireturn, 1))
theorem oX7_read_44 : OpS mX7_read 44 (o_aload 0 45) := s_aload_n (by decide +kernel : decode cX7_read 44 = .ok (.aload_n 0, 1)) rfl
theorem oX7_read_45 : OpS mX7_read 45 (o_getP 7 1 48) := s_getP (k := 1) clsX7 (by decide) rfl (Or.inl wd_555) (by decide +kernel : decode cX7_read 45 = .ok (.getfield 23, 3)) rfl
theorem oX7_read_48 : OpS mX7_read 48 (o_const (.int (-1)) 49) := s_iconst (by decide +kernel : decode cX7_read 48 = .ok (.iconst (-1), 1)) (by decide)
theorem oX7_read_49 : OpS mX7_read 49 (o_callV mX9_fill 9 1 52) := s_callV ceX9_fill clsX9 (Or.inl wd_1044) wd_203 selX9_fill (by decide +kernel : decode cX7_read 49 = .ok (.invokevirtual 52, 3))
theorem oX7_read_52 : OpS mX7_read 52 (o_const (.int 0) 53) := s_iconst (by decide +kernel : decode cX7_read 52 = .ok (.iconst 0, 1)) (by decide)
theorem oX7_read_53 : OpS mX7_read 53 (o_istore 3 5 54) := s_istore_n (by decide +kernel : decode cX7_read 53 = .ok (.istore_n 3, 1)) rfl rfl
theorem oX7_read_54 : OpS mX7_read 54 (o_iload 3 55) := s_iload_n (by decide +kernel : decode cX7_read 54 = .ok (.iload_n 3, 1)) rfl
theorem oX7_read_55 : OpS mX7_read 55 (o_aload 0 56) := s_aload_n (by decide +kernel : decode cX7_read 55 = .ok (.aload_n 0, 1)) rfl
theorem oX7_read_56 : OpS mX7_read 56 (o_getP 7 0 59) := s_getP (k := 0) clsX7 (by decide) rfl (Or.inl wd_554) (by decide +kernel : decode cX7_read 56 = .ok (.getfield 12, 3)) rfl
theorem oX7_read_59 : OpS mX7_read 59 (o_callV mX10_size 10 0 62) := s_callV ceX10_size clsX10 (Or.inl wd_1045) wd_1046 selX10_size (by decide +kernel : decode cX7_read 59 = .ok (.invokevirtual 55, 3))
theorem oX7_read_62 : OpS mX7_read 62 (o_icmp (fun x y => y ≤ x) 100 65) := s_icmp_ge (by decide +kernel : decode cX7_read 62 = .ok (.if_icmp .ge 38, 3)) (by decide)
theorem oX7_read_65 : OpS mX7_read 65 (o_aload 0 66) := s_aload_n (by decide +kernel : decode cX7_read 65 = .ok (.aload_n 0, 1)) rfl
theorem oX7_read_66 : OpS mX7_read 66 (o_iload 3 67) := s_iload_n (by decide +kernel : decode cX7_read 66 = .ok (.iload_n 3, 1)) rfl
theorem oX7_read_67 : OpS mX7_read 67 (o_aload 1 68) := s_aload_n (by decide +kernel : decode cX7_read 67 = .ok (.aload_n 1, 1)) rfl
theorem oX7_read_68 : OpS mX7_read 68 (o_aload 2 69) := s_aload_n (by decide +kernel : decode cX7_read 68 = .ok (.aload_n 2, 1)) rfl
theorem oX7_read_69 : OpS mX7_read 69 (o_callV mX7_lookAt 7 3 72) := s_callV ceX7_lookAt clsX7 (Or.inl wd_1049) wd_1051 selX7_lookAt (by decide +kernel : decode cX7_read 69 = .ok (.invokevirtual 58, 3))
theorem oX7_read_72 : OpS mX7_read 72 (o_istore 4 5 74) := s_istore (by decide +kernel : decode cX7_read 72 = .ok (.istore 4, 2)) rfl
theorem oX7_read_74 : OpS mX7_read 74 (o_iload 4 76) := s_iload (by decide +kernel : decode cX7_read 74 = .ok (.iload 4, 2))
theorem oX7_read_76 : OpS mX7_read 76 (o_if (fun x => x = 0) 94 79) := s_if_eq (by decide +kernel : decode cX7_read 76 = .ok (.ifCond .eq 18, 3)) (by decide)
theorem oX7_read_79 : OpS mX7_read 79 (o_aload 0 80) := s_aload_n (by decide +kernel : decode cX7_read 79 = .ok (.aload_n 0, 1)) rfl
theorem oX7_read_80 : OpS mX7_read 80 (o_aload 0 81) := s_aload_n (by decide +kernel : decode cX7_read 80 = .ok (.aload_n 0, 1)) rfl
theorem oX7_read_81 : OpS mX7_read 81 (o_getP 7 0 84) := s_getP (k := 0) clsX7 (by decide) rfl (Or.inl wd_554) (by decide +kernel : decode cX7_read 81 = .ok (.getfield 12, 3)) rfl
theorem oX7_read_84 : OpS mX7_read 84 (o_iload 3 85) := s_iload_n (by decide +kernel : decode cX7_read 84 = .ok (.iload_n 3, 1)) rfl
theorem oX7_read_85 : OpS mX7_read 85 (o_callV mX10_start 10 1 88) := s_callV ceX10_start clsX10 (Or.inl wd_1093) wd_1041 selX10_start (by decide +kernel : decode cX7_read 85 = .ok (.invokevirtual 62, 3))
theorem oX7_read_88 : OpS mX7_read 88 (o_putI 7 2 91) := s_putI (k := 2) clsX7 (by decide) rfl (Or.inl ⟨wd_556, Or.inl rfl⟩) (by decide +kernel : decode cX7_read 88 = .ok (.putfield 27, 3)) rfl rfl
theorem oX7_read_91 : OpS mX7_read 91 (o_iload 4 93) := s_iload (by decide +kernel : decode cX7_read 91 = .ok (.iload 4, 2))
theorem oX7_read_93 : OpS mX7_read 93 (o_iret) := s_iret rfl (by decide +kernel : decode cX7_read 93 = .ok (.ireturn, 1))
theorem oX7_read_94 : OpS mX7_read 94 (o_iinc 3 5 1 97) := s_iinc (by decide +kernel : decode cX7_read 94 = .ok (.iinc 3 1, 3)) (by decide) rfl
theorem oX7_read_97 : OpS mX7_read 97 (o_goto 54) := s_goto (by decide +kernel : decode cX7_read 97 = .ok (.goto (-43), 3)) (by decide)
theorem oX7_read_100 : OpS mX7_read 100 (o_aload 2 101) := s_aload_n (by decide +kernel : decode cX7_read 100 = .ok (.aload_n 2, 1)) rfl
theorem oX7_read_101 : OpS mX7_read 101 (o_getP 0 5 104) := s_getP (k := 5) clsX0 (by decide) rfl (Or.inr ⟨_, wd_660⟩) (by decide +kernel : decode cX7_read 101 = .ok (.getfield 42, 3)) rfl
theorem oX7_read_104 : OpS mX7_read 104 (o_aload 0 105) := s_aload_n (by decide +kernel : decode cX7_read 104 = .ok (.aload_n 0, 1)) rfl
theorem oX7_read_105 : OpS mX7_read 105 (o_getP 7 1 108) := s_getP (k := 1) clsX7 (by decide) rfl (Or.inl wd_555) (by decide +kernel : decode cX7_read 105 = .ok (.getfield 23, 3)) rfl
theorem oX7_read_108 : OpS mX7_read 108 (o_callV mX1_link 1 1 111) := s_callV ceX1_link clsX1 (Or.inl wd_1094) wd_1095 selX1_link (by decide +kernel : decode cX7_read 108 = .ok (.invokevirtual 66, 3))
theorem oX7_read_111 : OpS mX7_read 111 (o_const (.int 0) 112) := s_iconst (by decide +kernel : decode cX7_read 111 = .ok (.iconst 0, 1)) (by decide)
theorem oX7_read_112 : OpS mX7_read 112 (o_iret) := s_iret rfl (by decide +kernel : decode cX7_read 112 = .ok (.ireturn, 1))
theorem oX7_lookAt_0 : OpS mX7_lookAt 0 (o_aload 0 1) := s_aload_n (by decide +kernel : decode cX7_lookAt 0 = .ok (.aload_n 0, 1)) rfl
theorem oX7_lookAt_1 : OpS mX7_lookAt 1 (o_getP 7 0 4) := s_getP (k := 0) clsX7 (by decide) rfl (Or.inl wd_554) (by decide +kernel : decode cX7_lookAt 1 = .ok (.getfield 12, 3)) rfl
theorem oX7_lookAt_4 : OpS mX7_lookAt 4 (o_iload 1 5) := s_iload_n (by decide +kernel : decode cX7_lookAt 4 = .ok (.iload_n 1, 1)) rfl
theorem oX7_lookAt_5 : OpS mX7_lookAt 5 (o_callV mX10_kind 10 1 8) := s_callV ceX10_kind clsX10 (Or.inl wd_1053) wd_1054 selX10_kind (by decide +kernel : decode cX7_lookAt 5 = .ok (.invokevirtual 71, 3))
theorem oX7_lookAt_8 : OpS mX7_lookAt 8 (o_sw [(5, 44), (20, 96), (21, 63)] 112) := s_lsw (by decide +kernel : decode cX7_lookAt 8 = .ok (.lookupswitch 104 #[(5, 36), (20, 88), (21, 55)], 36)) (by decide) (by decide) (by decide)
theorem oX7_lookAt_44 : OpS mX7_lookAt 44 (o_aload 3 45) := s_aload_n (by decide +kernel : decode cX7_lookAt 44 = .ok (.aload_n 3, 1)) rfl
theorem oX7_lookAt_45 : OpS mX7_lookAt 45 (o_getP 0 5 48) := s_getP (k := 5) clsX0 (by decide) rfl (Or.inr ⟨_, wd_660⟩) (by decide +kernel : decode cX7_lookAt 45 = .ok (.getfield 42, 3)) rfl
theorem oX7_lookAt_48 : OpS mX7_lookAt 48 (o_getP 1 0 51) := s_getP (k := 0) clsX1 (by decide) rfl (Or.inr ⟨_, wd_609⟩) (by decide +kernel : decode cX7_lookAt 48 = .ok (.getfield 74, 3)) rfl
theorem oX7_lookAt_51 : OpS mX7_lookAt 51 (o_callV mX9_isFull 9 0 54) := s_callV ceX9_isFull clsX9 (Or.inl wd_1057) wd_272 selX9_isFull (by decide +kernel : decode cX7_lookAt 51 = .ok (.invokevirtual 77, 3))
theorem oX7_lookAt_54 : OpS mX7_lookAt 54 (o_if (fun x => x = 0) 61 57) := s_if_eq (by decide +kernel : decode cX7_lookAt 54 = .ok (.ifCond .eq 7, 3)) (by decide)
theorem oX7_lookAt_57 : OpS mX7_lookAt 57 (o_const (.int 4) 58) := s_iconst (by decide +kernel : decode cX7_lookAt 57 = .ok (.iconst 4, 1)) (by decide)
theorem oX7_lookAt_58 : OpS mX7_lookAt 58 (o_goto 62) := s_goto (by decide +kernel : decode cX7_lookAt 58 = .ok (.goto 4, 3)) (by decide)
theorem oX7_lookAt_61 : OpS mX7_lookAt 61 (o_const (.int 0) 62) := s_iconst (by decide +kernel : decode cX7_lookAt 61 = .ok (.iconst 0, 1)) (by decide)
theorem oX7_lookAt_62 : OpS mX7_lookAt 62 (o_iret) := s_iret rfl (by decide +kernel : decode cX7_lookAt 62 = .ok (.ireturn, 1))
theorem oX7_lookAt_63 : OpS mX7_lookAt 63 (o_aload 0 64) := s_aload_n (by decide +kernel : decode cX7_lookAt 63 = .ok (.aload_n 0, 1)) rfl
theorem oX7_lookAt_64 : OpS mX7_lookAt 64 (o_getP 7 0 67) := s_getP (k := 0) clsX7 (by decide) rfl (Or.inl wd_554) (by decide +kernel : decode cX7_lookAt 64 = .ok (.getfield 12, 3)) rfl
theorem oX7_lookAt_67 : OpS mX7_lookAt 67 (o_iload 1 68) := s_iload_n (by decide +kernel : decode cX7_lookAt 67 = .ok (.iload_n 1, 1)) rfl
theorem oX7_lookAt_68 : OpS mX7_lookAt 68 (o_const (.int 1) 69) := s_iconst (by decide +kernel : decode cX7_lookAt 68 = .ok (.iconst 1, 1)) (by decide)
theorem oX7_lookAt_69 : OpS mX7_lookAt 69 (o_ibin (fun x y => x - y) 70) := s_isub (by decide +kernel : decode cX7_lookAt 69 = .ok (.isub, 1))
theorem oX7_lookAt_70 : OpS mX7_lookAt 70 (o_callV mX10_kind 10 1 73) := s_callV ceX10_kind clsX10 (Or.inl wd_1053) wd_1054 selX10_kind (by decide +kernel : decode cX7_lookAt 70 = .ok (.invokevirtual 71, 3))
theorem oX7_lookAt_73 : OpS mX7_lookAt 73 (o_const (.int 2) 74) := s_iconst (by decide +kernel : decode cX7_lookAt 73 = .ok (.iconst 2, 1)) (by decide)
theorem oX7_lookAt_74 : OpS mX7_lookAt 74 (o_icmp (fun x y => x = y) 77 94) := s_icmp_ne (by decide +kernel : decode cX7_lookAt 74 = .ok (.if_icmp .ne 20, 3)) (by decide)
theorem oX7_lookAt_77 : OpS mX7_lookAt 77 (o_aload 0 78) := s_aload_n (by decide +kernel : decode cX7_lookAt 77 = .ok (.aload_n 0, 1)) rfl
theorem oX7_lookAt_78 : OpS mX7_lookAt 78 (o_aload 0 79) := s_aload_n (by decide +kernel : decode cX7_lookAt 78 = .ok (.aload_n 0, 1)) rfl
theorem oX7_lookAt_79 : OpS mX7_lookAt 79 (o_getP 7 0 82) := s_getP (k := 0) clsX7 (by decide) rfl (Or.inl wd_554) (by decide +kernel : decode cX7_lookAt 79 = .ok (.getfield 12, 3)) rfl
theorem oX7_lookAt_82 : OpS mX7_lookAt 82 (o_aload 2 83) := s_aload_n (by decide +kernel : decode cX7_lookAt 82 = .ok (.aload_n 2, 1)) rfl
theorem oX7_lookAt_83 : OpS mX7_lookAt 83 (o_iload 1 84) := s_iload_n (by decide +kernel : decode cX7_lookAt 83 = .ok (.iload_n 1, 1)) rfl
theorem oX7_lookAt_84 : OpS mX7_lookAt 84 (o_callV mX10_number 10 2 87) := s_callV ceX10_number clsX10 (Or.inl wd_1058) wd_1006 selX10_number (by decide +kernel : decode cX7_lookAt 84 = .ok (.invokevirtual 81, 3))
theorem oX7_lookAt_87 : OpS mX7_lookAt 87 (o_aload 3 88) := s_aload_n (by decide +kernel : decode cX7_lookAt 87 = .ok (.aload_n 3, 1)) rfl
theorem oX7_lookAt_88 : OpS mX7_lookAt 88 (o_callV mX7_weigh 7 2 91) := s_callV ceX7_weigh clsX7 (Or.inl wd_1059) wd_1061 selX7_weigh (by decide +kernel : decode cX7_lookAt 88 = .ok (.invokevirtual 85, 3))
theorem oX7_lookAt_91 : OpS mX7_lookAt 91 (o_goto 95) := s_goto (by decide +kernel : decode cX7_lookAt 91 = .ok (.goto 4, 3)) (by decide)
theorem oX7_lookAt_94 : OpS mX7_lookAt 94 (o_const (.int 0) 95) := s_iconst (by decide +kernel : decode cX7_lookAt 94 = .ok (.iconst 0, 1)) (by decide)
theorem oX7_lookAt_95 : OpS mX7_lookAt 95 (o_iret) := s_iret rfl (by decide +kernel : decode cX7_lookAt 95 = .ok (.ireturn, 1))
theorem oX7_lookAt_96 : OpS mX7_lookAt 96 (o_aload 0 97) := s_aload_n (by decide +kernel : decode cX7_lookAt 96 = .ok (.aload_n 0, 1)) rfl
theorem oX7_lookAt_97 : OpS mX7_lookAt 97 (o_iload 1 98) := s_iload_n (by decide +kernel : decode cX7_lookAt 97 = .ok (.iload_n 1, 1)) rfl
theorem oX7_lookAt_98 : OpS mX7_lookAt 98 (o_aload 0 99) := s_aload_n (by decide +kernel : decode cX7_lookAt 98 = .ok (.aload_n 0, 1)) rfl
theorem oX7_lookAt_99 : OpS mX7_lookAt 99 (o_getP 7 0 102) := s_getP (k := 0) clsX7 (by decide) rfl (Or.inl wd_554) (by decide +kernel : decode cX7_lookAt 99 = .ok (.getfield 12, 3)) rfl
theorem oX7_lookAt_102 : OpS mX7_lookAt 102 (o_aload 2 103) := s_aload_n (by decide +kernel : decode cX7_lookAt 102 = .ok (.aload_n 2, 1)) rfl
theorem oX7_lookAt_103 : OpS mX7_lookAt 103 (o_iload 1 104) := s_iload_n (by decide +kernel : decode cX7_lookAt 103 = .ok (.iload_n 1, 1)) rfl
theorem oX7_lookAt_104 : OpS mX7_lookAt 104 (o_callV mX10_spell 10 2 107) := s_callV ceX10_spell clsX10 (Or.inl wd_1065) wd_1066 selX10_spell (by decide +kernel : decode cX7_lookAt 104 = .ok (.invokevirtual 89, 3))
theorem oX7_lookAt_107 : OpS mX7_lookAt 107 (o_aload 3 108) := s_aload_n (by decide +kernel : decode cX7_lookAt 107 = .ok (.aload_n 3, 1)) rfl
theorem oX7_lookAt_108 : OpS mX7_lookAt 108 (o_callV mX7_lookAtName 7 3 111) := s_callV ceX7_lookAtName clsX7 (Or.inl wd_1069) wd_1071 selX7_lookAtName (by decide +kernel : decode cX7_lookAt 108 = .ok (.invokevirtual 93, 3))
theorem oX7_lookAt_111 : OpS mX7_lookAt 111 (o_iret) := s_iret rfl (by decide +kernel : decode cX7_lookAt 111 = .ok (.ireturn, 1))
theorem oX7_lookAt_112 : OpS mX7_lookAt 112 (o_const (.int 0) 113) := s_iconst (by decide +kernel : decode cX7_lookAt 112 = .ok (.iconst 0, 1)) (by decide)
theorem oX7_lookAt_113 : OpS mX7_lookAt 113 (o_iret) := s_iret rfl (by decide +kernel : decode cX7_lookAt 113 = .ok (.ireturn, 1))
theorem oX7_weigh_0 : OpS mX7_weigh 0 (o_aload 2 1) := s_aload_n (by decide +kernel : decode cX7_weigh 0 = .ok (.aload_n 2, 1)) rfl
theorem oX7_weigh_1 : OpS mX7_weigh 1 (o_getP 0 2 4) := s_getP (k := 2) clsX0 (by decide) rfl (Or.inr ⟨_, wd_647⟩) (by decide +kernel : decode cX7_weigh 1 = .ok (.getfield 96, 3)) rfl
theorem oX7_weigh_4 : OpS mX7_weigh 4 (o_aload 2 5) := s_aload_n (by decide +kernel : decode cX7_weigh 4 = .ok (.aload_n 2, 1)) rfl
theorem oX7_weigh_5 : OpS mX7_weigh 5 (o_getP 0 1 8) := s_getP (k := 1) clsX0 (by decide) rfl (Or.inr ⟨_, wd_642⟩) (by decide +kernel : decode cX7_weigh 5 = .ok (.getfield 99, 3)) rfl
theorem oX7_weigh_8 : OpS mX7_weigh 8 (o_callV mX5_size 5 0 11) := s_callV ceX5_size clsX5 (Or.inl wd_1063) wd_113 selX5_size (by decide +kernel : decode cX7_weigh 8 = .ok (.invokevirtual 103, 3))
theorem oX7_weigh_11 : OpS mX7_weigh 11 (o_const (.int 1) 12) := s_iconst (by decide +kernel : decode cX7_weigh 11 = .ok (.iconst 1, 1)) (by decide)
theorem oX7_weigh_12 : OpS mX7_weigh 12 (o_ibin (fun x y => x - y) 13) := s_isub (by decide +kernel : decode cX7_weigh 12 = .ok (.isub, 1))
theorem oX7_weigh_13 : OpS mX7_weigh 13 (o_iload 1 14) := s_iload_n (by decide +kernel : decode cX7_weigh 13 = .ok (.iload_n 1, 1)) rfl
theorem oX7_weigh_14 : OpS mX7_weigh 14 (o_callV mX9_put 9 2 17) := s_callV ceX9_put clsX9 (Or.inl wd_1064) wd_142 selX9_put (by decide +kernel : decode cX7_weigh 14 = .ok (.invokevirtual 106, 3))
theorem oX7_weigh_17 : OpS mX7_weigh 17 (o_iload 1 18) := s_iload_n (by decide +kernel : decode cX7_weigh 17 = .ok (.iload_n 1, 1)) rfl
theorem oX7_weigh_18 : OpS mX7_weigh 18 (o_const (.int 9999) 21) := s_sipush (by decide +kernel : decode cX7_weigh 18 = .ok (.sipush 9999, 3)) (by decide)
theorem oX7_weigh_21 : OpS mX7_weigh 21 (o_icmp (fun x y => x ≤ y) 28 24) := s_icmp_le (by decide +kernel : decode cX7_weigh 21 = .ok (.if_icmp .le 7, 3)) (by decide)
theorem oX7_weigh_24 : OpS mX7_weigh 24 (o_const (.int 5) 25) := s_iconst (by decide +kernel : decode cX7_weigh 24 = .ok (.iconst 5, 1)) (by decide)
theorem oX7_weigh_25 : OpS mX7_weigh 25 (o_goto 29) := s_goto (by decide +kernel : decode cX7_weigh 25 = .ok (.goto 4, 3)) (by decide)
theorem oX7_weigh_28 : OpS mX7_weigh 28 (o_const (.int 0) 29) := s_iconst (by decide +kernel : decode cX7_weigh 28 = .ok (.iconst 0, 1)) (by decide)
theorem oX7_weigh_29 : OpS mX7_weigh 29 (o_iret) := s_iret rfl (by decide +kernel : decode cX7_weigh 29 = .ok (.ireturn, 1))
theorem oX7_lookAtName_0 : OpS mX7_lookAtName 0 (o_aload 3 1) := s_aload_n (by decide +kernel : decode cX7_lookAtName 0 = .ok (.aload_n 3, 1)) rfl
theorem oX7_lookAtName_1 : OpS mX7_lookAtName 1 (o_getP 0 0 4) := s_getP (k := 0) clsX0 (by decide) rfl (Or.inr ⟨_, wd_639⟩) (by decide +kernel : decode cX7_lookAtName 1 = .ok (.getfield 110, 3)) rfl
theorem oX7_lookAtName_4 : OpS mX7_lookAtName 4 (o_aload 2 5) := s_aload_n (by decide +kernel : decode cX7_lookAtName 4 = .ok (.aload_n 2, 1)) rfl
theorem oX7_lookAtName_5 : OpS mX7_lookAtName 5 (o_callV mX5_find 5 1 8) := s_callV ceX5_find clsX5 (Or.inl wd_1073) wd_878 selX5_find (by decide +kernel : decode cX7_lookAtName 5 = .ok (.invokevirtual 112, 3))
theorem oX7_lookAtName_8 : OpS mX7_lookAtName 8 (o_istore 4 6 10) := s_istore (by decide +kernel : decode cX7_lookAtName 8 = .ok (.istore 4, 2)) rfl
theorem oX7_lookAtName_10 : OpS mX7_lookAtName 10 (o_aload 3 11) := s_aload_n (by decide +kernel : decode cX7_lookAtName 10 = .ok (.aload_n 3, 1)) rfl
theorem oX7_lookAtName_11 : OpS mX7_lookAtName 11 (o_getP 0 1 14) := s_getP (k := 1) clsX0 (by decide) rfl (Or.inr ⟨_, wd_642⟩) (by decide +kernel : decode cX7_lookAtName 11 = .ok (.getfield 99, 3)) rfl
theorem oX7_lookAtName_14 : OpS mX7_lookAtName 14 (o_aload 2 15) := s_aload_n (by decide +kernel : decode cX7_lookAtName 14 = .ok (.aload_n 2, 1)) rfl
theorem oX7_lookAtName_15 : OpS mX7_lookAtName 15 (o_callV mX5_find 5 1 18) := s_callV ceX5_find clsX5 (Or.inl wd_1073) wd_878 selX5_find (by decide +kernel : decode cX7_lookAtName 15 = .ok (.invokevirtual 112, 3))
theorem oX7_lookAtName_18 : OpS mX7_lookAtName 18 (o_istore 5 6 20) := s_istore (by decide +kernel : decode cX7_lookAtName 18 = .ok (.istore 5, 2)) rfl
theorem oX7_lookAtName_20 : OpS mX7_lookAtName 20 (o_aload 0 21) := s_aload_n (by decide +kernel : decode cX7_lookAtName 20 = .ok (.aload_n 0, 1)) rfl
theorem oX7_lookAtName_21 : OpS mX7_lookAtName 21 (o_getP 7 0 24) := s_getP (k := 0) clsX7 (by decide) rfl (Or.inl wd_554) (by decide +kernel : decode cX7_lookAtName 21 = .ok (.getfield 12, 3)) rfl
theorem oX7_lookAtName_24 : OpS mX7_lookAtName 24 (o_iload 1 25) := s_iload_n (by decide +kernel : decode cX7_lookAtName 24 = .ok (.iload_n 1, 1)) rfl
theorem oX7_lookAtName_25 : OpS mX7_lookAtName 25 (o_const (.int 1) 26) := s_iconst (by decide +kernel : decode cX7_lookAtName 25 = .ok (.iconst 1, 1)) (by decide)
theorem oX7_lookAtName_26 : OpS mX7_lookAtName 26 (o_ibin (fun x y => x - y) 27) := s_isub (by decide +kernel : decode cX7_lookAtName 26 = .ok (.isub, 1))
theorem oX7_lookAtName_27 : OpS mX7_lookAtName 27 (o_callV mX10_kind 10 1 30) := s_callV ceX10_kind clsX10 (Or.inl wd_1053) wd_1054 selX10_kind (by decide +kernel : decode cX7_lookAtName 27 = .ok (.invokevirtual 71, 3))
theorem oX7_lookAtName_30 : OpS mX7_lookAtName 30 (o_sw [(0, 100), (1, 124), (2, 197), (3, 145), (4, 239), (5, 174), (6, 239), (7, 239), (8, 239), (9, 239), (10, 239), (11, 239), (12, 197), (13, 218)] 239) := s_tsw (by decide +kernel : decode cX7_lookAtName 30 = .ok (.tableswitch 209 0 13 #[70, 94, 167, 115, 209, 144, 209, 209, 209, 209, 209, 209, 167, 188], 70)) (by decide) (by decide) (by decide)
theorem oX7_lookAtName_100 : OpS mX7_lookAtName 100 (o_iload 4 102) := s_iload (by decide +kernel : decode cX7_lookAtName 100 = .ok (.iload 4, 2))
theorem oX7_lookAtName_102 : OpS mX7_lookAtName 102 (o_if (fun x => x < 0) 107 105) := s_if_lt (by decide +kernel : decode cX7_lookAtName 102 = .ok (.ifCond .lt 5, 3)) (by decide)
theorem oX7_lookAtName_105 : OpS mX7_lookAtName 105 (o_const (.int 2) 106) := s_iconst (by decide +kernel : decode cX7_lookAtName 105 = .ok (.iconst 2, 1)) (by decide)
theorem oX7_lookAtName_106 : OpS mX7_lookAtName 106 (o_iret) := s_iret rfl (by decide +kernel : decode cX7_lookAtName 106 = .ok (.ireturn, 1))
theorem oX7_lookAtName_107 : OpS mX7_lookAtName 107 (o_aload 3 108) := s_aload_n (by decide +kernel : decode cX7_lookAtName 107 = .ok (.aload_n 3, 1)) rfl
theorem oX7_lookAtName_108 : OpS mX7_lookAtName 108 (o_getP 0 0 111) := s_getP (k := 0) clsX0 (by decide) rfl (Or.inr ⟨_, wd_639⟩) (by decide +kernel : decode cX7_lookAtName 108 = .ok (.getfield 110, 3)) rfl
theorem oX7_lookAtName_111 : OpS mX7_lookAtName 111 (o_aload 2 112) := s_aload_n (by decide +kernel : decode cX7_lookAtName 111 = .ok (.aload_n 2, 1)) rfl
theorem oX7_lookAtName_112 : OpS mX7_lookAtName 112 (o_callV mX5_add 5 1 115) := s_callV ceX5_add clsX5 (Or.inl wd_1074) wd_525 selX5_add (by decide +kernel : decode cX7_lookAtName 112 = .ok (.invokevirtual 116, 3))
theorem oX7_lookAtName_115 : OpS mX7_lookAtName 115 (o_if (fun x => 0 ≤ x) 122 118) := s_if_ge (by decide +kernel : decode cX7_lookAtName 115 = .ok (.ifCond .ge 7, 3)) (by decide)
theorem oX7_lookAtName_118 : OpS mX7_lookAtName 118 (o_const (.int 4) 119) := s_iconst (by decide +kernel : decode cX7_lookAtName 118 = .ok (.iconst 4, 1)) (by decide)
theorem oX7_lookAtName_119 : OpS mX7_lookAtName 119 (o_goto 123) := s_goto (by decide +kernel : decode cX7_lookAtName 119 = .ok (.goto 4, 3)) (by decide)
theorem oX7_lookAtName_122 : OpS mX7_lookAtName 122 (o_const (.int 0) 123) := s_iconst (by decide +kernel : decode cX7_lookAtName 122 = .ok (.iconst 0, 1)) (by decide)
theorem oX7_lookAtName_123 : OpS mX7_lookAtName 123 (o_iret) := s_iret rfl (by decide +kernel : decode cX7_lookAtName 123 = .ok (.ireturn, 1))
theorem oX7_lookAtName_124 : OpS mX7_lookAtName 124 (o_iload 5 126) := s_iload (by decide +kernel : decode cX7_lookAtName 124 = .ok (.iload 5, 2))
theorem oX7_lookAtName_126 : OpS mX7_lookAtName 126 (o_if (fun x => x < 0) 131 129) := s_if_lt (by decide +kernel : decode cX7_lookAtName 126 = .ok (.ifCond .lt 5, 3)) (by decide)
theorem oX7_lookAtName_129 : OpS mX7_lookAtName 129 (o_const (.int 2) 130) := s_iconst (by decide +kernel : decode cX7_lookAtName 129 = .ok (.iconst 2, 1)) (by decide)
theorem oX7_lookAtName_130 : OpS mX7_lookAtName 130 (o_iret) := s_iret rfl (by decide +kernel : decode cX7_lookAtName 130 = .ok (.ireturn, 1))
theorem oX7_lookAtName_131 : OpS mX7_lookAtName 131 (o_aload 3 132) := s_aload_n (by decide +kernel : decode cX7_lookAtName 131 = .ok (.aload_n 3, 1)) rfl
theorem oX7_lookAtName_132 : OpS mX7_lookAtName 132 (o_aload 2 133) := s_aload_n (by decide +kernel : decode cX7_lookAtName 132 = .ok (.aload_n 2, 1)) rfl
theorem oX7_lookAtName_133 : OpS mX7_lookAtName 133 (o_callV mX0_addWord 0 1 136) := s_callV ceX0_addWord clsX0 (Or.inl wd_1075) wd_1076 selX0_addWord (by decide +kernel : decode cX7_lookAtName 133 = .ok (.invokevirtual 119, 3))
theorem oX7_lookAtName_136 : OpS mX7_lookAtName 136 (o_if (fun x => 0 ≤ x) 143 139) := s_if_ge (by decide +kernel : decode cX7_lookAtName 136 = .ok (.ifCond .ge 7, 3)) (by decide)
theorem oX7_lookAtName_139 : OpS mX7_lookAtName 139 (o_const (.int 4) 140) := s_iconst (by decide +kernel : decode cX7_lookAtName 139 = .ok (.iconst 4, 1)) (by decide)
theorem oX7_lookAtName_140 : OpS mX7_lookAtName 140 (o_goto 144) := s_goto (by decide +kernel : decode cX7_lookAtName 140 = .ok (.goto 4, 3)) (by decide)
theorem oX7_lookAtName_143 : OpS mX7_lookAtName 143 (o_const (.int 0) 144) := s_iconst (by decide +kernel : decode cX7_lookAtName 143 = .ok (.iconst 0, 1)) (by decide)
theorem oX7_lookAtName_144 : OpS mX7_lookAtName 144 (o_iret) := s_iret rfl (by decide +kernel : decode cX7_lookAtName 144 = .ok (.ireturn, 1))
theorem oX7_lookAtName_145 : OpS mX7_lookAtName 145 (o_aload 3 146) := s_aload_n (by decide +kernel : decode cX7_lookAtName 145 = .ok (.aload_n 3, 1)) rfl
theorem oX7_lookAtName_146 : OpS mX7_lookAtName 146 (o_getP 0 3 149) := s_getP (k := 3) clsX0 (by decide) rfl (Or.inr ⟨_, wd_651⟩) (by decide +kernel : decode cX7_lookAtName 146 = .ok (.getfield 122, 3)) rfl
theorem oX7_lookAtName_149 : OpS mX7_lookAtName 149 (o_aload 3 150) := s_aload_n (by decide +kernel : decode cX7_lookAtName 149 = .ok (.aload_n 3, 1)) rfl
theorem oX7_lookAtName_150 : OpS mX7_lookAtName 150 (o_getP 0 1 153) := s_getP (k := 1) clsX0 (by decide) rfl (Or.inr ⟨_, wd_642⟩) (by decide +kernel : decode cX7_lookAtName 150 = .ok (.getfield 99, 3)) rfl
theorem oX7_lookAtName_153 : OpS mX7_lookAtName 153 (o_callV mX5_size 5 0 156) := s_callV ceX5_size clsX5 (Or.inl wd_1063) wd_113 selX5_size (by decide +kernel : decode cX7_lookAtName 153 = .ok (.invokevirtual 103, 3))
theorem oX7_lookAtName_156 : OpS mX7_lookAtName 156 (o_const (.int 1) 157) := s_iconst (by decide +kernel : decode cX7_lookAtName 156 = .ok (.iconst 1, 1)) (by decide)
theorem oX7_lookAtName_157 : OpS mX7_lookAtName 157 (o_ibin (fun x y => x - y) 158) := s_isub (by decide +kernel : decode cX7_lookAtName 157 = .ok (.isub, 1))
theorem oX7_lookAtName_158 : OpS mX7_lookAtName 158 (o_iload 4 160) := s_iload (by decide +kernel : decode cX7_lookAtName 158 = .ok (.iload 4, 2))
theorem oX7_lookAtName_160 : OpS mX7_lookAtName 160 (o_callV mX9_put 9 2 163) := s_callV ceX9_put clsX9 (Or.inl wd_1064) wd_142 selX9_put (by decide +kernel : decode cX7_lookAtName 160 = .ok (.invokevirtual 106, 3))
theorem oX7_lookAtName_163 : OpS mX7_lookAtName 163 (o_iload 4 165) := s_iload (by decide +kernel : decode cX7_lookAtName 163 = .ok (.iload 4, 2))
theorem oX7_lookAtName_165 : OpS mX7_lookAtName 165 (o_if (fun x => 0 ≤ x) 172 168) := s_if_ge (by decide +kernel : decode cX7_lookAtName 165 = .ok (.ifCond .ge 7, 3)) (by decide)
theorem oX7_lookAtName_168 : OpS mX7_lookAtName 168 (o_const (.int 3) 169) := s_iconst (by decide +kernel : decode cX7_lookAtName 168 = .ok (.iconst 3, 1)) (by decide)
theorem oX7_lookAtName_169 : OpS mX7_lookAtName 169 (o_goto 173) := s_goto (by decide +kernel : decode cX7_lookAtName 169 = .ok (.goto 4, 3)) (by decide)
theorem oX7_lookAtName_172 : OpS mX7_lookAtName 172 (o_const (.int 0) 173) := s_iconst (by decide +kernel : decode cX7_lookAtName 172 = .ok (.iconst 0, 1)) (by decide)
theorem oX7_lookAtName_173 : OpS mX7_lookAtName 173 (o_iret) := s_iret rfl (by decide +kernel : decode cX7_lookAtName 173 = .ok (.ireturn, 1))
theorem oX7_lookAtName_174 : OpS mX7_lookAtName 174 (o_aload 3 175) := s_aload_n (by decide +kernel : decode cX7_lookAtName 174 = .ok (.aload_n 3, 1)) rfl
theorem oX7_lookAtName_175 : OpS mX7_lookAtName 175 (o_getP 0 5 178) := s_getP (k := 5) clsX0 (by decide) rfl (Or.inr ⟨_, wd_660⟩) (by decide +kernel : decode cX7_lookAtName 175 = .ok (.getfield 42, 3)) rfl
theorem oX7_lookAtName_178 : OpS mX7_lookAtName 178 (o_getP 1 0 181) := s_getP (k := 0) clsX1 (by decide) rfl (Or.inr ⟨_, wd_609⟩) (by decide +kernel : decode cX7_lookAtName 178 = .ok (.getfield 74, 3)) rfl
theorem oX7_lookAtName_181 : OpS mX7_lookAtName 181 (o_iload 4 183) := s_iload (by decide +kernel : decode cX7_lookAtName 181 = .ok (.iload 4, 2))
theorem oX7_lookAtName_183 : OpS mX7_lookAtName 183 (o_callV mX9_add 9 1 186) := s_callV ceX9_add clsX9 (Or.inl wd_1081) wd_129 selX9_add (by decide +kernel : decode cX7_lookAtName 183 = .ok (.invokevirtual 125, 3))
theorem oX7_lookAtName_186 : OpS mX7_lookAtName 186 (o_iload 4 188) := s_iload (by decide +kernel : decode cX7_lookAtName 186 = .ok (.iload 4, 2))
theorem oX7_lookAtName_188 : OpS mX7_lookAtName 188 (o_if (fun x => 0 ≤ x) 195 191) := s_if_ge (by decide +kernel : decode cX7_lookAtName 188 = .ok (.ifCond .ge 7, 3)) (by decide)
theorem oX7_lookAtName_191 : OpS mX7_lookAtName 191 (o_const (.int 3) 192) := s_iconst (by decide +kernel : decode cX7_lookAtName 191 = .ok (.iconst 3, 1)) (by decide)
theorem oX7_lookAtName_192 : OpS mX7_lookAtName 192 (o_goto 196) := s_goto (by decide +kernel : decode cX7_lookAtName 192 = .ok (.goto 4, 3)) (by decide)
theorem oX7_lookAtName_195 : OpS mX7_lookAtName 195 (o_const (.int 0) 196) := s_iconst (by decide +kernel : decode cX7_lookAtName 195 = .ok (.iconst 0, 1)) (by decide)
theorem oX7_lookAtName_196 : OpS mX7_lookAtName 196 (o_iret) := s_iret rfl (by decide +kernel : decode cX7_lookAtName 196 = .ok (.ireturn, 1))
theorem oX7_lookAtName_197 : OpS mX7_lookAtName 197 (o_aload 0 198) := s_aload_n (by decide +kernel : decode cX7_lookAtName 197 = .ok (.aload_n 0, 1)) rfl
theorem oX7_lookAtName_198 : OpS mX7_lookAtName 198 (o_getP 7 1 201) := s_getP (k := 1) clsX7 (by decide) rfl (Or.inl wd_555) (by decide +kernel : decode cX7_lookAtName 198 = .ok (.getfield 23, 3)) rfl
theorem oX7_lookAtName_201 : OpS mX7_lookAtName 201 (o_iload 1 202) := s_iload_n (by decide +kernel : decode cX7_lookAtName 201 = .ok (.iload_n 1, 1)) rfl
theorem oX7_lookAtName_202 : OpS mX7_lookAtName 202 (o_iload 5 204) := s_iload (by decide +kernel : decode cX7_lookAtName 202 = .ok (.iload 5, 2))
theorem oX7_lookAtName_204 : OpS mX7_lookAtName 204 (o_callV mX9_put 9 2 207) := s_callV ceX9_put clsX9 (Or.inl wd_1064) wd_142 selX9_put (by decide +kernel : decode cX7_lookAtName 204 = .ok (.invokevirtual 106, 3))
theorem oX7_lookAtName_207 : OpS mX7_lookAtName 207 (o_iload 5 209) := s_iload (by decide +kernel : decode cX7_lookAtName 207 = .ok (.iload 5, 2))
theorem oX7_lookAtName_209 : OpS mX7_lookAtName 209 (o_if (fun x => 0 ≤ x) 216 212) := s_if_ge (by decide +kernel : decode cX7_lookAtName 209 = .ok (.ifCond .ge 7, 3)) (by decide)
theorem oX7_lookAtName_212 : OpS mX7_lookAtName 212 (o_const (.int 3) 213) := s_iconst (by decide +kernel : decode cX7_lookAtName 212 = .ok (.iconst 3, 1)) (by decide)
theorem oX7_lookAtName_213 : OpS mX7_lookAtName 213 (o_goto 217) := s_goto (by decide +kernel : decode cX7_lookAtName 213 = .ok (.goto 4, 3)) (by decide)
theorem oX7_lookAtName_216 : OpS mX7_lookAtName 216 (o_const (.int 0) 217) := s_iconst (by decide +kernel : decode cX7_lookAtName 216 = .ok (.iconst 0, 1)) (by decide)
theorem oX7_lookAtName_217 : OpS mX7_lookAtName 217 (o_iret) := s_iret rfl (by decide +kernel : decode cX7_lookAtName 217 = .ok (.ireturn, 1))
theorem oX7_lookAtName_218 : OpS mX7_lookAtName 218 (o_aload 0 219) := s_aload_n (by decide +kernel : decode cX7_lookAtName 218 = .ok (.aload_n 0, 1)) rfl
theorem oX7_lookAtName_219 : OpS mX7_lookAtName 219 (o_getP 7 1 222) := s_getP (k := 1) clsX7 (by decide) rfl (Or.inl wd_555) (by decide +kernel : decode cX7_lookAtName 219 = .ok (.getfield 23, 3)) rfl
theorem oX7_lookAtName_222 : OpS mX7_lookAtName 222 (o_iload 1 223) := s_iload_n (by decide +kernel : decode cX7_lookAtName 222 = .ok (.iload_n 1, 1)) rfl
theorem oX7_lookAtName_223 : OpS mX7_lookAtName 223 (o_aload 3 224) := s_aload_n (by decide +kernel : decode cX7_lookAtName 223 = .ok (.aload_n 3, 1)) rfl
theorem oX7_lookAtName_224 : OpS mX7_lookAtName 224 (o_getP 0 5 227) := s_getP (k := 5) clsX0 (by decide) rfl (Or.inr ⟨_, wd_660⟩) (by decide +kernel : decode cX7_lookAtName 224 = .ok (.getfield 42, 3)) rfl
theorem oX7_lookAtName_227 : OpS mX7_lookAtName 227 (o_getP 1 6 230) := s_getP (k := 6) clsX1 (by decide) rfl (Or.inr ⟨_, wd_622⟩) (by decide +kernel : decode cX7_lookAtName 227 = .ok (.getfield 127, 3)) rfl
theorem oX7_lookAtName_230 : OpS mX7_lookAtName 230 (o_aload 2 231) := s_aload_n (by decide +kernel : decode cX7_lookAtName 230 = .ok (.aload_n 2, 1)) rfl
theorem oX7_lookAtName_231 : OpS mX7_lookAtName 231 (o_callV mX5_add 5 1 234) := s_callV ceX5_add clsX5 (Or.inl wd_1074) wd_525 selX5_add (by decide +kernel : decode cX7_lookAtName 231 = .ok (.invokevirtual 116, 3))
theorem oX7_lookAtName_234 : OpS mX7_lookAtName 234 (o_callV mX9_put 9 2 237) := s_callV ceX9_put clsX9 (Or.inl wd_1064) wd_142 selX9_put (by decide +kernel : decode cX7_lookAtName 234 = .ok (.invokevirtual 106, 3))
theorem oX7_lookAtName_237 : OpS mX7_lookAtName 237 (o_const (.int 0) 238) := s_iconst (by decide +kernel : decode cX7_lookAtName 237 = .ok (.iconst 0, 1)) (by decide)
theorem oX7_lookAtName_238 : OpS mX7_lookAtName 238 (o_iret) := s_iret rfl (by decide +kernel : decode cX7_lookAtName 238 = .ok (.ireturn, 1))
theorem oX7_lookAtName_239 : OpS mX7_lookAtName 239 (o_aload 0 240) := s_aload_n (by decide +kernel : decode cX7_lookAtName 239 = .ok (.aload_n 0, 1)) rfl
theorem oX7_lookAtName_240 : OpS mX7_lookAtName 240 (o_aload 2 241) := s_aload_n (by decide +kernel : decode cX7_lookAtName 240 = .ok (.aload_n 2, 1)) rfl
theorem oX7_lookAtName_241 : OpS mX7_lookAtName 241 (o_aload 3 242) := s_aload_n (by decide +kernel : decode cX7_lookAtName 241 = .ok (.aload_n 3, 1)) rfl
theorem oX7_lookAtName_242 : OpS mX7_lookAtName 242 (o_getP 0 4 245) := s_getP (k := 4) clsX0 (by decide) rfl (Or.inr ⟨_, wd_655⟩) (by decide +kernel : decode cX7_lookAtName 242 = .ok (.getfield 130, 3)) rfl
theorem oX7_lookAtName_245 : OpS mX7_lookAtName 245 (o_callV mX7_keyRow 7 2 248) := s_callV ceX7_keyRow clsX7 (Or.inl wd_1082) wd_1084 selX7_keyRow (by decide +kernel : decode cX7_lookAtName 245 = .ok (.invokevirtual 134, 3))
theorem oX7_lookAtName_248 : OpS mX7_lookAtName 248 (o_iret) := s_iret rfl (by decide +kernel : decode cX7_lookAtName 248 = .ok (.ireturn, 1))
theorem oX7_keyRow_0 : OpS mX7_keyRow 0 (o_aload 2 1) := s_aload_n (by decide +kernel : decode cX7_keyRow 0 = .ok (.aload_n 2, 1)) rfl
theorem oX7_keyRow_1 : OpS mX7_keyRow 1 (o_callV mX4_rows 4 0 4) := s_callV ceX4_rows clsX4 (Or.inl wd_1086) wd_220 selX4_rows (by decide +kernel : decode cX7_keyRow 1 = .ok (.invokevirtual 138, 3))
theorem oX7_keyRow_4 : OpS mX7_keyRow 4 (o_const (.int 4) 5) := s_iconst (by decide +kernel : decode cX7_keyRow 4 = .ok (.iconst 4, 1)) (by decide)
theorem oX7_keyRow_5 : OpS mX7_keyRow 5 (o_icmp (fun x y => x < y) 10 8) := s_icmp_lt (by decide +kernel : decode cX7_keyRow 5 = .ok (.if_icmp .lt 5, 3)) (by decide)
theorem oX7_keyRow_8 : OpS mX7_keyRow 8 (o_const (.int 4) 9) := s_iconst (by decide +kernel : decode cX7_keyRow 8 = .ok (.iconst 4, 1)) (by decide)
theorem oX7_keyRow_9 : OpS mX7_keyRow 9 (o_iret) := s_iret rfl (by decide +kernel : decode cX7_keyRow 9 = .ok (.ireturn, 1))
theorem oX7_keyRow_10 : OpS mX7_keyRow 10 (o_aload 2 11) := s_aload_n (by decide +kernel : decode cX7_keyRow 10 = .ok (.aload_n 2, 1)) rfl
theorem oX7_keyRow_11 : OpS mX7_keyRow 11 (o_aload 1 12) := s_aload_n (by decide +kernel : decode cX7_keyRow 11 = .ok (.aload_n 1, 1)) rfl
theorem oX7_keyRow_12 : OpS mX7_keyRow 12 (o_callV mX4_addRow 4 1 15) := s_callV ceX4_addRow clsX4 (Or.inl wd_1087) wd_1088 selX4_addRow (by decide +kernel : decode cX7_keyRow 12 = .ok (.invokevirtual 143, 3))
theorem oX7_keyRow_15 : OpS mX7_keyRow 15 (o_if (fun x => x = 0) 22 18) := s_if_eq (by decide +kernel : decode cX7_keyRow 15 = .ok (.ifCond .eq 7, 3)) (by decide)
theorem oX7_keyRow_18 : OpS mX7_keyRow 18 (o_const (.int 0) 19) := s_iconst (by decide +kernel : decode cX7_keyRow 18 = .ok (.iconst 0, 1)) (by decide)
theorem oX7_keyRow_19 : OpS mX7_keyRow 19 (o_goto 24) := s_goto (by decide +kernel : decode cX7_keyRow 19 = .ok (.goto 5, 3)) (by decide)
theorem oX7_keyRow_22 : OpS mX7_keyRow 22 (o_const (.int 6) 24) := s_bipush (by decide +kernel : decode cX7_keyRow 22 = .ok (.bipush 6, 2)) (by decide)
theorem oX7_keyRow_24 : OpS mX7_keyRow 24 (o_iret) := s_iret rfl (by decide +kernel : decode cX7_keyRow 24 = .ok (.ireturn, 1))
