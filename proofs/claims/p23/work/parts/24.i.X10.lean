theorem oX10_init_0 : OpS mX10_init 0 (o_aload 0 1) := s_aload_n (by decide +kernel : decode cX10_init 0 = .ok (.aload_n 0, 1)) rfl
theorem oX10_init_1 : OpS mX10_init 1 (o_objinit 4) := s_objinit wd_451 wd_55 wd_56 (by decide +kernel : decode cX10_init 1 = .ok (.invokespecial 3, 3))
theorem oX10_init_4 : OpS mX10_init 4 (o_aload 0 5) := s_aload_n (by decide +kernel : decode cX10_init 4 = .ok (.aload_n 0, 1)) rfl
theorem oX10_init_5 : OpS mX10_init 5 (o_new 5 3 8) := s_new clsX5 defX5 wd_452 wd_453 wd_6 (by decide +kernel : decode cX10_init 5 = .ok (.new 9, 3))
theorem oX10_init_8 : OpS mX10_init 8 (o_dup 9) := s_dup (by decide +kernel : decode cX10_init 8 = .ok (.dup, 1))
theorem oX10_init_9 : OpS mX10_init 9 (o_const (.int 19) 11) := s_bipush (by decide +kernel : decode cX10_init 9 = .ok (.bipush 19, 2)) (by decide)
theorem oX10_init_11 : OpS mX10_init 11 (o_callI mX5_init 1 14) := s_callI ceX5_init rfl rfl (Or.inl wd_454) wd_455 (by decide +kernel : decode cX10_init 11 = .ok (.invokespecial 13, 3))
theorem oX10_init_14 : OpS mX10_init 14 (o_putP 10 0 17) := s_putP (k := 0) clsX10 (by decide) rfl (Or.inl ⟨wd_535, Or.inr ⟨rfl, rfl, rfl⟩⟩) (by decide +kernel : decode cX10_init 14 = .ok (.putfield 16, 3)) rfl (fun _ => rfl) (fun _ => rfl)
theorem oX10_init_17 : OpS mX10_init 17 (o_aload 0 18) := s_aload_n (by decide +kernel : decode cX10_init 17 = .ok (.aload_n 0, 1)) rfl
theorem oX10_init_18 : OpS mX10_init 18 (o_new 9 2 21) := s_new clsX9 defX9 wd_472 wd_426 wd_2 (by decide +kernel : decode cX10_init 18 = .ok (.new 20, 3))
theorem oX10_init_21 : OpS mX10_init 21 (o_dup 22) := s_dup (by decide +kernel : decode cX10_init 21 = .ok (.dup, 1))
theorem oX10_init_22 : OpS mX10_init 22 (o_const (.int 401) 25) := s_sipush (by decide +kernel : decode cX10_init 22 = .ok (.sipush 401, 3)) (by decide)
theorem oX10_init_25 : OpS mX10_init 25 (o_callI mX9_init 1 28) := s_callI ceX9_init rfl rfl (Or.inl wd_473) wd_428 (by decide +kernel : decode cX10_init 25 = .ok (.invokespecial 22, 3))
theorem oX10_init_28 : OpS mX10_init 28 (o_putP 10 1 31) := s_putP (k := 1) clsX10 (by decide) rfl (Or.inl ⟨wd_537, Or.inr ⟨rfl, rfl, rfl⟩⟩) (by decide +kernel : decode cX10_init 28 = .ok (.putfield 23, 3)) rfl (fun _ => rfl) (fun _ => rfl)
theorem oX10_init_31 : OpS mX10_init 31 (o_aload 0 32) := s_aload_n (by decide +kernel : decode cX10_init 31 = .ok (.aload_n 0, 1)) rfl
theorem oX10_init_32 : OpS mX10_init 32 (o_new 9 2 35) := s_new clsX9 defX9 wd_472 wd_426 wd_2 (by decide +kernel : decode cX10_init 32 = .ok (.new 20, 3))
theorem oX10_init_35 : OpS mX10_init 35 (o_dup 36) := s_dup (by decide +kernel : decode cX10_init 35 = .ok (.dup, 1))
theorem oX10_init_36 : OpS mX10_init 36 (o_const (.int 401) 39) := s_sipush (by decide +kernel : decode cX10_init 36 = .ok (.sipush 401, 3)) (by decide)
theorem oX10_init_39 : OpS mX10_init 39 (o_callI mX9_init 1 42) := s_callI ceX9_init rfl rfl (Or.inl wd_473) wd_428 (by decide +kernel : decode cX10_init 39 = .ok (.invokespecial 22, 3))
theorem oX10_init_42 : OpS mX10_init 42 (o_putP 10 2 45) := s_putP (k := 2) clsX10 (by decide) rfl (Or.inl ⟨wd_538, Or.inr ⟨rfl, rfl, rfl⟩⟩) (by decide +kernel : decode cX10_init 42 = .ok (.putfield 27, 3)) rfl (fun _ => rfl) (fun _ => rfl)
theorem oX10_init_45 : OpS mX10_init 45 (o_aload 0 46) := s_aload_n (by decide +kernel : decode cX10_init 45 = .ok (.aload_n 0, 1)) rfl
theorem oX10_init_46 : OpS mX10_init 46 (o_new 9 2 49) := s_new clsX9 defX9 wd_472 wd_426 wd_2 (by decide +kernel : decode cX10_init 46 = .ok (.new 20, 3))
theorem oX10_init_49 : OpS mX10_init 49 (o_dup 50) := s_dup (by decide +kernel : decode cX10_init 49 = .ok (.dup, 1))
theorem oX10_init_50 : OpS mX10_init 50 (o_const (.int 401) 53) := s_sipush (by decide +kernel : decode cX10_init 50 = .ok (.sipush 401, 3)) (by decide)
theorem oX10_init_53 : OpS mX10_init 53 (o_callI mX9_init 1 56) := s_callI ceX9_init rfl rfl (Or.inl wd_473) wd_428 (by decide +kernel : decode cX10_init 53 = .ok (.invokespecial 22, 3))
theorem oX10_init_56 : OpS mX10_init 56 (o_putP 10 3 59) := s_putP (k := 3) clsX10 (by decide) rfl (Or.inl ⟨wd_539, Or.inr ⟨rfl, rfl, rfl⟩⟩) (by decide +kernel : decode cX10_init 56 = .ok (.putfield 30, 3)) rfl (fun _ => rfl) (fun _ => rfl)
theorem oX10_init_59 : OpS mX10_init 59 (o_aload 0 60) := s_aload_n (by decide +kernel : decode cX10_init 59 = .ok (.aload_n 0, 1)) rfl
theorem oX10_init_60 : OpS mX10_init 60 (o_new 9 2 63) := s_new clsX9 defX9 wd_472 wd_426 wd_2 (by decide +kernel : decode cX10_init 60 = .ok (.new 20, 3))
theorem oX10_init_63 : OpS mX10_init 63 (o_dup 64) := s_dup (by decide +kernel : decode cX10_init 63 = .ok (.dup, 1))
theorem oX10_init_64 : OpS mX10_init 64 (o_const (.int 10) 66) := s_bipush (by decide +kernel : decode cX10_init 64 = .ok (.bipush 10, 2)) (by decide)
theorem oX10_init_66 : OpS mX10_init 66 (o_callI mX9_init 1 69) := s_callI ceX9_init rfl rfl (Or.inl wd_473) wd_428 (by decide +kernel : decode cX10_init 66 = .ok (.invokespecial 22, 3))
theorem oX10_init_69 : OpS mX10_init 69 (o_putP 10 4 72) := s_putP (k := 4) clsX10 (by decide) rfl (Or.inl ⟨wd_540, Or.inr ⟨rfl, rfl, rfl⟩⟩) (by decide +kernel : decode cX10_init 69 = .ok (.putfield 33, 3)) rfl (fun _ => rfl) (fun _ => rfl)
theorem oX10_init_72 : OpS mX10_init 72 (o_const (.int 0) 73) := s_iconst (by decide +kernel : decode cX10_init 72 = .ok (.iconst 0, 1)) (by decide)
theorem oX10_init_73 : OpS mX10_init 73 (o_istore 1 2 74) := s_istore_n (by decide +kernel : decode cX10_init 73 = .ok (.istore_n 1, 1)) rfl rfl
theorem oX10_init_74 : OpS mX10_init 74 (o_iload 1 75) := s_iload_n (by decide +kernel : decode cX10_init 74 = .ok (.iload_n 1, 1)) rfl
theorem oX10_init_80 : OpS mX10_init 80 (o_icmp (fun x y => y ≤ x) 135 83) := s_icmp_ge (by decide +kernel : decode cX10_init 80 = .ok (.if_icmp .ge 55, 3)) (by decide)
theorem oX10_init_85 : OpS mX10_init 85 (o_iload 1 86) := s_iload_n (by decide +kernel : decode cX10_init 85 = .ok (.iload_n 1, 1)) rfl
theorem oX10_init_89 : OpS mX10_init 89 (o_const (.int 32) 91) := s_bipush (by decide +kernel : decode cX10_init 89 = .ok (.bipush 32, 2)) (by decide)
theorem oX10_init_91 : OpS mX10_init 91 (o_icmp (fun x y => x = y) 110 94) := s_icmp_eq (by decide +kernel : decode cX10_init 91 = .ok (.if_icmp .eq 19, 3)) (by decide)
theorem oX10_init_94 : OpS mX10_init 94 (o_aload 0 95) := s_aload_n (by decide +kernel : decode cX10_init 94 = .ok (.aload_n 0, 1)) rfl
theorem oX10_init_95 : OpS mX10_init 95 (o_getP 10 4 98) := s_getP (k := 4) clsX10 (by decide) rfl (Or.inl wd_540) (by decide +kernel : decode cX10_init 95 = .ok (.getfield 33, 3)) rfl
theorem oX10_init_100 : OpS mX10_init 100 (o_iload 1 101) := s_iload_n (by decide +kernel : decode cX10_init 100 = .ok (.iload_n 1, 1)) rfl
theorem oX10_init_104 : OpS mX10_init 104 (o_callV mX9_add 9 1 107) := s_callV ceX9_add clsX9 (Or.inl wd_523) wd_129 selX9_add (by decide +kernel : decode cX10_init 104 = .ok (.invokevirtual 48, 3))
theorem oX10_init_107 : OpS mX10_init 107 (o_goto 129) := s_goto (by decide +kernel : decode cX10_init 107 = .ok (.goto 22, 3)) (by decide)
theorem oX10_init_110 : OpS mX10_init 110 (o_aload 0 111) := s_aload_n (by decide +kernel : decode cX10_init 110 = .ok (.aload_n 0, 1)) rfl
theorem oX10_init_111 : OpS mX10_init 111 (o_getP 10 0 114) := s_getP (k := 0) clsX10 (by decide) rfl (Or.inl wd_535) (by decide +kernel : decode cX10_init 111 = .ok (.getfield 16, 3)) rfl
theorem oX10_init_114 : OpS mX10_init 114 (o_aload 0 115) := s_aload_n (by decide +kernel : decode cX10_init 114 = .ok (.aload_n 0, 1)) rfl
theorem oX10_init_115 : OpS mX10_init 115 (o_getP 10 4 118) := s_getP (k := 4) clsX10 (by decide) rfl (Or.inl wd_540) (by decide +kernel : decode cX10_init 115 = .ok (.getfield 33, 3)) rfl
theorem oX10_init_118 : OpS mX10_init 118 (o_callV mX5_add 5 1 121) := s_callV ceX5_add clsX5 (Or.inl wd_524) wd_525 selX5_add (by decide +kernel : decode cX10_init 118 = .ok (.invokevirtual 51, 3))
theorem oX10_init_121 : OpS mX10_init 121 (o_pop 122) := s_pop (by decide +kernel : decode cX10_init 121 = .ok (.pop, 1))
theorem oX10_init_122 : OpS mX10_init 122 (o_aload 0 123) := s_aload_n (by decide +kernel : decode cX10_init 122 = .ok (.aload_n 0, 1)) rfl
theorem oX10_init_123 : OpS mX10_init 123 (o_getP 10 4 126) := s_getP (k := 4) clsX10 (by decide) rfl (Or.inl wd_540) (by decide +kernel : decode cX10_init 123 = .ok (.getfield 33, 3)) rfl
theorem oX10_init_126 : OpS mX10_init 126 (o_callV mX9_clear 9 0 129) := s_callV ceX9_clear clsX9 (Or.inl wd_534) wd_109 selX9_clear (by decide +kernel : decode cX10_init 126 = .ok (.invokevirtual 54, 3))
theorem oX10_init_129 : OpS mX10_init 129 (o_iinc 1 2 1 132) := s_iinc (by decide +kernel : decode cX10_init 129 = .ok (.iinc 1 1, 3)) (by decide) rfl
theorem oX10_init_132 : OpS mX10_init 132 (o_goto 74) := s_goto (by decide +kernel : decode cX10_init 132 = .ok (.goto (-58), 3)) (by decide)
theorem oX10_init_135 : OpS mX10_init 135 (o_vret) := s_vret rfl (by decide +kernel : decode cX10_init 135 = .ok (.return_, 1))
theorem oX10_read_0 : OpS mX10_read 0 (o_aload 0 1) := s_aload_n (by decide +kernel : decode cX10_read 0 = .ok (.aload_n 0, 1)) rfl
theorem oX10_read_1 : OpS mX10_read 1 (o_getP 10 1 4) := s_getP (k := 1) clsX10 (by decide) rfl (Or.inl wd_537) (by decide +kernel : decode cX10_read 1 = .ok (.getfield 23, 3)) rfl
theorem oX10_read_4 : OpS mX10_read 4 (o_callV mX9_clear 9 0 7) := s_callV ceX9_clear clsX9 (Or.inl wd_534) wd_109 selX9_clear (by decide +kernel : decode cX10_read 4 = .ok (.invokevirtual 54, 3))
theorem oX10_read_7 : OpS mX10_read 7 (o_aload 0 8) := s_aload_n (by decide +kernel : decode cX10_read 7 = .ok (.aload_n 0, 1)) rfl
theorem oX10_read_8 : OpS mX10_read 8 (o_getP 10 2 11) := s_getP (k := 2) clsX10 (by decide) rfl (Or.inl wd_538) (by decide +kernel : decode cX10_read 8 = .ok (.getfield 27, 3)) rfl
theorem oX10_read_11 : OpS mX10_read 11 (o_callV mX9_clear 9 0 14) := s_callV ceX9_clear clsX9 (Or.inl wd_534) wd_109 selX9_clear (by decide +kernel : decode cX10_read 11 = .ok (.invokevirtual 54, 3))
theorem oX10_read_14 : OpS mX10_read 14 (o_aload 0 15) := s_aload_n (by decide +kernel : decode cX10_read 14 = .ok (.aload_n 0, 1)) rfl
theorem oX10_read_15 : OpS mX10_read 15 (o_getP 10 3 18) := s_getP (k := 3) clsX10 (by decide) rfl (Or.inl wd_539) (by decide +kernel : decode cX10_read 15 = .ok (.getfield 30, 3)) rfl
theorem oX10_read_18 : OpS mX10_read 18 (o_callV mX9_clear 9 0 21) := s_callV ceX9_clear clsX9 (Or.inl wd_534) wd_109 selX9_clear (by decide +kernel : decode cX10_read 18 = .ok (.invokevirtual 54, 3))
theorem oX10_read_21 : OpS mX10_read 21 (o_const (.int 0) 22) := s_iconst (by decide +kernel : decode cX10_read 21 = .ok (.iconst 0, 1)) (by decide)
theorem oX10_read_22 : OpS mX10_read 22 (o_istore 2 6 23) := s_istore_n (by decide +kernel : decode cX10_read 22 = .ok (.istore_n 2, 1)) rfl rfl
theorem oX10_read_23 : OpS mX10_read 23 (o_const (.int 0) 24) := s_iconst (by decide +kernel : decode cX10_read 23 = .ok (.iconst 0, 1)) (by decide)
theorem oX10_read_24 : OpS mX10_read 24 (o_istore 3 6 25) := s_istore_n (by decide +kernel : decode cX10_read 24 = .ok (.istore_n 3, 1)) rfl rfl
theorem oX10_read_25 : OpS mX10_read 25 (o_iload 3 26) := s_iload_n (by decide +kernel : decode cX10_read 25 = .ok (.iload_n 3, 1)) rfl
theorem oX10_read_26 : OpS mX10_read 26 (o_const (.int 400) 29) := s_sipush (by decide +kernel : decode cX10_read 26 = .ok (.sipush 400, 3)) (by decide)
theorem oX10_read_29 : OpS mX10_read 29 (o_icmp (fun x y => y < x) 125 32) := s_icmp_gt (by decide +kernel : decode cX10_read 29 = .ok (.if_icmp .gt 96, 3)) (by decide)
theorem oX10_read_32 : OpS mX10_read 32 (o_aload 1 33) := s_aload_n (by decide +kernel : decode cX10_read 32 = .ok (.aload_n 1, 1)) rfl
theorem oX10_read_33 : OpS mX10_read 33 (o_iload 2 34) := s_iload_n (by decide +kernel : decode cX10_read 33 = .ok (.iload_n 2, 1)) rfl
theorem oX10_read_34 : OpS mX10_read 34 (o_callS mX10_skipBlanks 2 37) := s_callS ceX10_skipBlanks (Or.inl wd_857) wd_858 (by decide +kernel : decode cX10_read 34 = .ok (.invokestatic 57, 3))
theorem oX10_read_37 : OpS mX10_read 37 (o_istore 2 6 38) := s_istore_n (by decide +kernel : decode cX10_read 37 = .ok (.istore_n 2, 1)) rfl rfl
theorem oX10_read_38 : OpS mX10_read 38 (o_aload 1 39) := s_aload_n (by decide +kernel : decode cX10_read 38 = .ok (.aload_n 1, 1)) rfl
theorem oX10_read_39 : OpS mX10_read 39 (o_iload 2 40) := s_iload_n (by decide +kernel : decode cX10_read 39 = .ok (.iload_n 2, 1)) rfl
theorem oX10_read_40 : OpS mX10_read 40 (o_callS mX10_lengthAt 2 43) := s_callS ceX10_lengthAt (Or.inl wd_862) wd_863 (by decide +kernel : decode cX10_read 40 = .ok (.invokestatic 61, 3))
theorem oX10_read_43 : OpS mX10_read 43 (o_istore 4 6 45) := s_istore (by decide +kernel : decode cX10_read 43 = .ok (.istore 4, 2)) rfl
theorem oX10_read_45 : OpS mX10_read 45 (o_aload 0 46) := s_aload_n (by decide +kernel : decode cX10_read 45 = .ok (.aload_n 0, 1)) rfl
theorem oX10_read_46 : OpS mX10_read 46 (o_aload 1 47) := s_aload_n (by decide +kernel : decode cX10_read 46 = .ok (.aload_n 1, 1)) rfl
theorem oX10_read_47 : OpS mX10_read 47 (o_iload 2 48) := s_iload_n (by decide +kernel : decode cX10_read 47 = .ok (.iload_n 2, 1)) rfl
theorem oX10_read_48 : OpS mX10_read 48 (o_iload 4 50) := s_iload (by decide +kernel : decode cX10_read 48 = .ok (.iload 4, 2))
theorem oX10_read_50 : OpS mX10_read 50 (o_callV mX10_kindAt 10 3 53) := s_callV ceX10_kindAt clsX10 (Or.inl wd_872) wd_874 selX10_kindAt (by decide +kernel : decode cX10_read 50 = .ok (.invokevirtual 64, 3))
theorem oX10_read_53 : OpS mX10_read 53 (o_istore 5 6 55) := s_istore (by decide +kernel : decode cX10_read 53 = .ok (.istore 5, 2)) rfl
theorem oX10_read_55 : OpS mX10_read 55 (o_iload 3 56) := s_iload_n (by decide +kernel : decode cX10_read 55 = .ok (.iload_n 3, 1)) rfl
theorem oX10_read_56 : OpS mX10_read 56 (o_const (.int 400) 59) := s_sipush (by decide +kernel : decode cX10_read 56 = .ok (.sipush 400, 3)) (by decide)
theorem oX10_read_59 : OpS mX10_read 59 (o_icmp (fun x y => x = y) 62 73) := s_icmp_ne (by decide +kernel : decode cX10_read 59 = .ok (.if_icmp .ne 14, 3)) (by decide)
theorem oX10_read_62 : OpS mX10_read 62 (o_iload 5 64) := s_iload (by decide +kernel : decode cX10_read 62 = .ok (.iload 5, 2))
theorem oX10_read_64 : OpS mX10_read 64 (o_const (.int 24) 66) := s_bipush (by decide +kernel : decode cX10_read 64 = .ok (.bipush 24, 2)) (by decide)
theorem oX10_read_66 : OpS mX10_read 66 (o_icmp (fun x y => x = y) 73 69) := s_icmp_eq (by decide +kernel : decode cX10_read 66 = .ok (.if_icmp .eq 7, 3)) (by decide)
theorem oX10_read_69 : OpS mX10_read 69 (o_const (.int 25) 71) := s_bipush (by decide +kernel : decode cX10_read 69 = .ok (.bipush 25, 2)) (by decide)
theorem oX10_read_71 : OpS mX10_read 71 (o_istore 5 6 73) := s_istore (by decide +kernel : decode cX10_read 71 = .ok (.istore 5, 2)) rfl
theorem oX10_read_73 : OpS mX10_read 73 (o_aload 0 74) := s_aload_n (by decide +kernel : decode cX10_read 73 = .ok (.aload_n 0, 1)) rfl
theorem oX10_read_74 : OpS mX10_read 74 (o_getP 10 1 77) := s_getP (k := 1) clsX10 (by decide) rfl (Or.inl wd_537) (by decide +kernel : decode cX10_read 74 = .ok (.getfield 23, 3)) rfl
theorem oX10_read_77 : OpS mX10_read 77 (o_iload 5 79) := s_iload (by decide +kernel : decode cX10_read 77 = .ok (.iload 5, 2))
theorem oX10_read_79 : OpS mX10_read 79 (o_callV mX9_add 9 1 82) := s_callV ceX9_add clsX9 (Or.inl wd_523) wd_129 selX9_add (by decide +kernel : decode cX10_read 79 = .ok (.invokevirtual 48, 3))
theorem oX10_read_82 : OpS mX10_read 82 (o_aload 0 83) := s_aload_n (by decide +kernel : decode cX10_read 82 = .ok (.aload_n 0, 1)) rfl
theorem oX10_read_83 : OpS mX10_read 83 (o_getP 10 2 86) := s_getP (k := 2) clsX10 (by decide) rfl (Or.inl wd_538) (by decide +kernel : decode cX10_read 83 = .ok (.getfield 27, 3)) rfl
theorem oX10_read_86 : OpS mX10_read 86 (o_iload 2 87) := s_iload_n (by decide +kernel : decode cX10_read 86 = .ok (.iload_n 2, 1)) rfl
theorem oX10_read_87 : OpS mX10_read 87 (o_callV mX9_add 9 1 90) := s_callV ceX9_add clsX9 (Or.inl wd_523) wd_129 selX9_add (by decide +kernel : decode cX10_read 87 = .ok (.invokevirtual 48, 3))
theorem oX10_read_90 : OpS mX10_read 90 (o_aload 0 91) := s_aload_n (by decide +kernel : decode cX10_read 90 = .ok (.aload_n 0, 1)) rfl
theorem oX10_read_91 : OpS mX10_read 91 (o_getP 10 3 94) := s_getP (k := 3) clsX10 (by decide) rfl (Or.inl wd_539) (by decide +kernel : decode cX10_read 91 = .ok (.getfield 30, 3)) rfl
theorem oX10_read_94 : OpS mX10_read 94 (o_iload 4 96) := s_iload (by decide +kernel : decode cX10_read 94 = .ok (.iload 4, 2))
theorem oX10_read_96 : OpS mX10_read 96 (o_callV mX9_add 9 1 99) := s_callV ceX9_add clsX9 (Or.inl wd_523) wd_129 selX9_add (by decide +kernel : decode cX10_read 96 = .ok (.invokevirtual 48, 3))
theorem oX10_read_99 : OpS mX10_read 99 (o_iload 5 101) := s_iload (by decide +kernel : decode cX10_read 99 = .ok (.iload 5, 2))
theorem oX10_read_101 : OpS mX10_read 101 (o_const (.int 24) 103) := s_bipush (by decide +kernel : decode cX10_read 101 = .ok (.bipush 24, 2)) (by decide)
theorem oX10_read_103 : OpS mX10_read 103 (o_icmp (fun x y => x = y) 113 106) := s_icmp_eq (by decide +kernel : decode cX10_read 103 = .ok (.if_icmp .eq 10, 3)) (by decide)
theorem oX10_read_106 : OpS mX10_read 106 (o_iload 5 108) := s_iload (by decide +kernel : decode cX10_read 106 = .ok (.iload 5, 2))
theorem oX10_read_108 : OpS mX10_read 108 (o_const (.int 25) 110) := s_bipush (by decide +kernel : decode cX10_read 108 = .ok (.bipush 25, 2)) (by decide)
theorem oX10_read_110 : OpS mX10_read 110 (o_icmp (fun x y => x = y) 113 114) := s_icmp_ne (by decide +kernel : decode cX10_read 110 = .ok (.if_icmp .ne 4, 3)) (by decide)
theorem oX10_read_113 : OpS mX10_read 113 (o_vret) := s_vret rfl (by decide +kernel : decode cX10_read 113 = .ok (.return_, 1))
theorem oX10_read_114 : OpS mX10_read 114 (o_iload 2 115) := s_iload_n (by decide +kernel : decode cX10_read 114 = .ok (.iload_n 2, 1)) rfl
theorem oX10_read_115 : OpS mX10_read 115 (o_iload 4 117) := s_iload (by decide +kernel : decode cX10_read 115 = .ok (.iload 4, 2))
theorem oX10_read_117 : OpS mX10_read 117 (o_ibin (fun x y => x + y) 118) := s_iadd (by decide +kernel : decode cX10_read 117 = .ok (.iadd, 1))
theorem oX10_read_118 : OpS mX10_read 118 (o_istore 2 6 119) := s_istore_n (by decide +kernel : decode cX10_read 118 = .ok (.istore_n 2, 1)) rfl rfl
theorem oX10_read_119 : OpS mX10_read 119 (o_iinc 3 6 1 122) := s_iinc (by decide +kernel : decode cX10_read 119 = .ok (.iinc 3 1, 3)) (by decide) rfl
theorem oX10_read_122 : OpS mX10_read 122 (o_goto 25) := s_goto (by decide +kernel : decode cX10_read 122 = .ok (.goto (-97), 3)) (by decide)
theorem oX10_read_125 : OpS mX10_read 125 (o_vret) := s_vret rfl (by decide +kernel : decode cX10_read 125 = .ok (.return_, 1))
theorem oX10_size_0 : OpS mX10_size 0 (o_aload 0 1) := s_aload_n (by decide +kernel : decode cX10_size 0 = .ok (.aload_n 0, 1)) rfl
theorem oX10_size_1 : OpS mX10_size 1 (o_getP 10 1 4) := s_getP (k := 1) clsX10 (by decide) rfl (Or.inl wd_537) (by decide +kernel : decode cX10_size 1 = .ok (.getfield 23, 3)) rfl
theorem oX10_size_4 : OpS mX10_size 4 (o_callV mX9_size 9 0 7) := s_callV ceX9_size clsX9 (Or.inl wd_860) wd_125 selX9_size (by decide +kernel : decode cX10_size 4 = .ok (.invokevirtual 68, 3))
theorem oX10_size_7 : OpS mX10_size 7 (o_iret) := s_iret rfl (by decide +kernel : decode cX10_size 7 = .ok (.ireturn, 1))
theorem oX10_kind_0 : OpS mX10_kind 0 (o_aload 0 1) := s_aload_n (by decide +kernel : decode cX10_kind 0 = .ok (.aload_n 0, 1)) rfl
theorem oX10_kind_1 : OpS mX10_kind 1 (o_getP 10 1 4) := s_getP (k := 1) clsX10 (by decide) rfl (Or.inl wd_537) (by decide +kernel : decode cX10_kind 1 = .ok (.getfield 23, 3)) rfl
theorem oX10_kind_4 : OpS mX10_kind 4 (o_iload 1 5) := s_iload_n (by decide +kernel : decode cX10_kind 4 = .ok (.iload_n 1, 1)) rfl
theorem oX10_kind_5 : OpS mX10_kind 5 (o_callV mX9_at 9 1 8) := s_callV ceX9_at clsX9 (Or.inl wd_861) wd_133 selX9_at (by decide +kernel : decode cX10_kind 5 = .ok (.invokevirtual 71, 3))
theorem oX10_kind_8 : OpS mX10_kind 8 (o_iret) := s_iret rfl (by decide +kernel : decode cX10_kind 8 = .ok (.ireturn, 1))
theorem oX10_start_0 : OpS mX10_start 0 (o_aload 0 1) := s_aload_n (by decide +kernel : decode cX10_start 0 = .ok (.aload_n 0, 1)) rfl
theorem oX10_start_1 : OpS mX10_start 1 (o_getP 10 2 4) := s_getP (k := 2) clsX10 (by decide) rfl (Or.inl wd_538) (by decide +kernel : decode cX10_start 1 = .ok (.getfield 27, 3)) rfl
theorem oX10_start_4 : OpS mX10_start 4 (o_iload 1 5) := s_iload_n (by decide +kernel : decode cX10_start 4 = .ok (.iload_n 1, 1)) rfl
theorem oX10_start_5 : OpS mX10_start 5 (o_callV mX9_at 9 1 8) := s_callV ceX9_at clsX9 (Or.inl wd_861) wd_133 selX9_at (by decide +kernel : decode cX10_start 5 = .ok (.invokevirtual 71, 3))
theorem oX10_start_8 : OpS mX10_start 8 (o_iret) := s_iret rfl (by decide +kernel : decode cX10_start 8 = .ok (.ireturn, 1))
theorem oX10_spell_0 : OpS mX10_spell 0 (o_aload 0 1) := s_aload_n (by decide +kernel : decode cX10_spell 0 = .ok (.aload_n 0, 1)) rfl
theorem oX10_spell_1 : OpS mX10_spell 1 (o_getP 10 4 4) := s_getP (k := 4) clsX10 (by decide) rfl (Or.inl wd_540) (by decide +kernel : decode cX10_spell 1 = .ok (.getfield 33, 3)) rfl
theorem oX10_spell_4 : OpS mX10_spell 4 (o_aload 1 5) := s_aload_n (by decide +kernel : decode cX10_spell 4 = .ok (.aload_n 1, 1)) rfl
theorem oX10_spell_5 : OpS mX10_spell 5 (o_aload 0 6) := s_aload_n (by decide +kernel : decode cX10_spell 5 = .ok (.aload_n 0, 1)) rfl
theorem oX10_spell_6 : OpS mX10_spell 6 (o_getP 10 2 9) := s_getP (k := 2) clsX10 (by decide) rfl (Or.inl wd_538) (by decide +kernel : decode cX10_spell 6 = .ok (.getfield 27, 3)) rfl
theorem oX10_spell_9 : OpS mX10_spell 9 (o_iload 2 10) := s_iload_n (by decide +kernel : decode cX10_spell 9 = .ok (.iload_n 2, 1)) rfl
theorem oX10_spell_10 : OpS mX10_spell 10 (o_callV mX9_at 9 1 13) := s_callV ceX9_at clsX9 (Or.inl wd_861) wd_133 selX9_at (by decide +kernel : decode cX10_spell 10 = .ok (.invokevirtual 71, 3))
theorem oX10_spell_13 : OpS mX10_spell 13 (o_aload 0 14) := s_aload_n (by decide +kernel : decode cX10_spell 13 = .ok (.aload_n 0, 1)) rfl
theorem oX10_spell_14 : OpS mX10_spell 14 (o_getP 10 3 17) := s_getP (k := 3) clsX10 (by decide) rfl (Or.inl wd_539) (by decide +kernel : decode cX10_spell 14 = .ok (.getfield 30, 3)) rfl
theorem oX10_spell_17 : OpS mX10_spell 17 (o_iload 2 18) := s_iload_n (by decide +kernel : decode cX10_spell 17 = .ok (.iload_n 2, 1)) rfl
theorem oX10_spell_18 : OpS mX10_spell 18 (o_callV mX9_at 9 1 21) := s_callV ceX9_at clsX9 (Or.inl wd_861) wd_133 selX9_at (by decide +kernel : decode cX10_spell 18 = .ok (.invokevirtual 71, 3))
theorem oX10_spell_21 : OpS mX10_spell 21 (o_callV mX9_copy 9 3 24) := s_callV ceX9_copy clsX9 (Or.inl wd_876) wd_530 selX9_copy (by decide +kernel : decode cX10_spell 21 = .ok (.invokevirtual 75, 3))
theorem oX10_spell_24 : OpS mX10_spell 24 (o_aload 0 25) := s_aload_n (by decide +kernel : decode cX10_spell 24 = .ok (.aload_n 0, 1)) rfl
theorem oX10_spell_25 : OpS mX10_spell 25 (o_getP 10 4 28) := s_getP (k := 4) clsX10 (by decide) rfl (Or.inl wd_540) (by decide +kernel : decode cX10_spell 25 = .ok (.getfield 33, 3)) rfl
theorem oX10_spell_28 : OpS mX10_spell 28 (o_aret) := s_aret rfl (by decide +kernel : decode cX10_spell 28 = .ok (.areturn, 1))
theorem oX10_number_0 : OpS mX10_number 0 (o_const (.int 0) 1) := s_iconst (by decide +kernel : decode cX10_number 0 = .ok (.iconst 0, 1)) (by decide)
theorem oX10_number_1 : OpS mX10_number 1 (o_istore 3 5 2) := s_istore_n (by decide +kernel : decode cX10_number 1 = .ok (.istore_n 3, 1)) rfl rfl
theorem oX10_number_2 : OpS mX10_number 2 (o_const (.int 0) 3) := s_iconst (by decide +kernel : decode cX10_number 2 = .ok (.iconst 0, 1)) (by decide)
theorem oX10_number_3 : OpS mX10_number 3 (o_istore 4 5 5) := s_istore (by decide +kernel : decode cX10_number 3 = .ok (.istore 4, 2)) rfl
theorem oX10_number_5 : OpS mX10_number 5 (o_iload 4 7) := s_iload (by decide +kernel : decode cX10_number 5 = .ok (.iload 4, 2))
theorem oX10_number_7 : OpS mX10_number 7 (o_aload 0 8) := s_aload_n (by decide +kernel : decode cX10_number 7 = .ok (.aload_n 0, 1)) rfl
theorem oX10_number_8 : OpS mX10_number 8 (o_getP 10 3 11) := s_getP (k := 3) clsX10 (by decide) rfl (Or.inl wd_539) (by decide +kernel : decode cX10_number 8 = .ok (.getfield 30, 3)) rfl
theorem oX10_number_11 : OpS mX10_number 11 (o_iload 2 12) := s_iload_n (by decide +kernel : decode cX10_number 11 = .ok (.iload_n 2, 1)) rfl
theorem oX10_number_12 : OpS mX10_number 12 (o_callV mX9_at 9 1 15) := s_callV ceX9_at clsX9 (Or.inl wd_861) wd_133 selX9_at (by decide +kernel : decode cX10_number 12 = .ok (.invokevirtual 71, 3))
theorem oX10_number_15 : OpS mX10_number 15 (o_icmp (fun x y => y ≤ x) 55 18) := s_icmp_ge (by decide +kernel : decode cX10_number 15 = .ok (.if_icmp .ge 40, 3)) (by decide)
theorem oX10_number_18 : OpS mX10_number 18 (o_iload 4 20) := s_iload (by decide +kernel : decode cX10_number 18 = .ok (.iload 4, 2))
theorem oX10_number_20 : OpS mX10_number 20 (o_const (.int 6) 22) := s_bipush (by decide +kernel : decode cX10_number 20 = .ok (.bipush 6, 2)) (by decide)
theorem oX10_number_22 : OpS mX10_number 22 (o_icmp (fun x y => y ≤ x) 55 25) := s_icmp_ge (by decide +kernel : decode cX10_number 22 = .ok (.if_icmp .ge 33, 3)) (by decide)
theorem oX10_number_25 : OpS mX10_number 25 (o_iload 3 26) := s_iload_n (by decide +kernel : decode cX10_number 25 = .ok (.iload_n 3, 1)) rfl
theorem oX10_number_26 : OpS mX10_number 26 (o_const (.int 10) 28) := s_bipush (by decide +kernel : decode cX10_number 26 = .ok (.bipush 10, 2)) (by decide)
theorem oX10_number_28 : OpS mX10_number 28 (o_ibin (fun x y => x * y) 29) := s_imul (by decide +kernel : decode cX10_number 28 = .ok (.imul, 1))
theorem oX10_number_29 : OpS mX10_number 29 (o_aload 1 30) := s_aload_n (by decide +kernel : decode cX10_number 29 = .ok (.aload_n 1, 1)) rfl
theorem oX10_number_30 : OpS mX10_number 30 (o_aload 0 31) := s_aload_n (by decide +kernel : decode cX10_number 30 = .ok (.aload_n 0, 1)) rfl
theorem oX10_number_31 : OpS mX10_number 31 (o_getP 10 2 34) := s_getP (k := 2) clsX10 (by decide) rfl (Or.inl wd_538) (by decide +kernel : decode cX10_number 31 = .ok (.getfield 27, 3)) rfl
theorem oX10_number_34 : OpS mX10_number 34 (o_iload 2 35) := s_iload_n (by decide +kernel : decode cX10_number 34 = .ok (.iload_n 2, 1)) rfl
theorem oX10_number_35 : OpS mX10_number 35 (o_callV mX9_at 9 1 38) := s_callV ceX9_at clsX9 (Or.inl wd_861) wd_133 selX9_at (by decide +kernel : decode cX10_number 35 = .ok (.invokevirtual 71, 3))
theorem oX10_number_38 : OpS mX10_number 38 (o_iload 4 40) := s_iload (by decide +kernel : decode cX10_number 38 = .ok (.iload 4, 2))
theorem oX10_number_40 : OpS mX10_number 40 (o_ibin (fun x y => x + y) 41) := s_iadd (by decide +kernel : decode cX10_number 40 = .ok (.iadd, 1))
theorem oX10_number_41 : OpS mX10_number 41 (o_callV mX9_at 9 1 44) := s_callV ceX9_at clsX9 (Or.inl wd_861) wd_133 selX9_at (by decide +kernel : decode cX10_number 41 = .ok (.invokevirtual 71, 3))
theorem oX10_number_44 : OpS mX10_number 44 (o_ibin (fun x y => x + y) 45) := s_iadd (by decide +kernel : decode cX10_number 44 = .ok (.iadd, 1))
theorem oX10_number_45 : OpS mX10_number 45 (o_const (.int 48) 47) := s_bipush (by decide +kernel : decode cX10_number 45 = .ok (.bipush 48, 2)) (by decide)
theorem oX10_number_47 : OpS mX10_number 47 (o_ibin (fun x y => x - y) 48) := s_isub (by decide +kernel : decode cX10_number 47 = .ok (.isub, 1))
theorem oX10_number_48 : OpS mX10_number 48 (o_istore 3 5 49) := s_istore_n (by decide +kernel : decode cX10_number 48 = .ok (.istore_n 3, 1)) rfl rfl
theorem oX10_number_49 : OpS mX10_number 49 (o_iinc 4 5 1 52) := s_iinc (by decide +kernel : decode cX10_number 49 = .ok (.iinc 4 1, 3)) (by decide) rfl
theorem oX10_number_52 : OpS mX10_number 52 (o_goto 5) := s_goto (by decide +kernel : decode cX10_number 52 = .ok (.goto (-47), 3)) (by decide)
theorem oX10_number_55 : OpS mX10_number 55 (o_iload 3 56) := s_iload_n (by decide +kernel : decode cX10_number 55 = .ok (.iload_n 3, 1)) rfl
theorem oX10_number_56 : OpS mX10_number 56 (o_iret) := s_iret rfl (by decide +kernel : decode cX10_number 56 = .ok (.ireturn, 1))
theorem oX10_skipBlanks_0 : OpS mX10_skipBlanks 0 (o_iload 1 1) := s_iload_n (by decide +kernel : decode cX10_skipBlanks 0 = .ok (.iload_n 1, 1)) rfl
theorem oX10_skipBlanks_1 : OpS mX10_skipBlanks 1 (o_istore 2 3 2) := s_istore_n (by decide +kernel : decode cX10_skipBlanks 1 = .ok (.istore_n 2, 1)) rfl rfl
theorem oX10_skipBlanks_2 : OpS mX10_skipBlanks 2 (o_iload 2 3) := s_iload_n (by decide +kernel : decode cX10_skipBlanks 2 = .ok (.iload_n 2, 1)) rfl
theorem oX10_skipBlanks_3 : OpS mX10_skipBlanks 3 (o_aload 0 4) := s_aload_n (by decide +kernel : decode cX10_skipBlanks 3 = .ok (.aload_n 0, 1)) rfl
theorem oX10_skipBlanks_4 : OpS mX10_skipBlanks 4 (o_callV mX9_size 9 0 7) := s_callV ceX9_size clsX9 (Or.inl wd_860) wd_125 selX9_size (by decide +kernel : decode cX10_skipBlanks 4 = .ok (.invokevirtual 68, 3))
theorem oX10_skipBlanks_7 : OpS mX10_skipBlanks 7 (o_icmp (fun x y => y ≤ x) 38 10) := s_icmp_ge (by decide +kernel : decode cX10_skipBlanks 7 = .ok (.if_icmp .ge 31, 3)) (by decide)
theorem oX10_skipBlanks_10 : OpS mX10_skipBlanks 10 (o_aload 0 11) := s_aload_n (by decide +kernel : decode cX10_skipBlanks 10 = .ok (.aload_n 0, 1)) rfl
theorem oX10_skipBlanks_11 : OpS mX10_skipBlanks 11 (o_iload 2 12) := s_iload_n (by decide +kernel : decode cX10_skipBlanks 11 = .ok (.iload_n 2, 1)) rfl
theorem oX10_skipBlanks_12 : OpS mX10_skipBlanks 12 (o_callV mX9_at 9 1 15) := s_callV ceX9_at clsX9 (Or.inl wd_861) wd_133 selX9_at (by decide +kernel : decode cX10_skipBlanks 12 = .ok (.invokevirtual 71, 3))
theorem oX10_skipBlanks_15 : OpS mX10_skipBlanks 15 (o_const (.int 32) 17) := s_bipush (by decide +kernel : decode cX10_skipBlanks 15 = .ok (.bipush 32, 2)) (by decide)
theorem oX10_skipBlanks_17 : OpS mX10_skipBlanks 17 (o_icmp (fun x y => x = y) 32 20) := s_icmp_eq (by decide +kernel : decode cX10_skipBlanks 17 = .ok (.if_icmp .eq 15, 3)) (by decide)
theorem oX10_skipBlanks_20 : OpS mX10_skipBlanks 20 (o_aload 0 21) := s_aload_n (by decide +kernel : decode cX10_skipBlanks 20 = .ok (.aload_n 0, 1)) rfl
theorem oX10_skipBlanks_21 : OpS mX10_skipBlanks 21 (o_iload 2 22) := s_iload_n (by decide +kernel : decode cX10_skipBlanks 21 = .ok (.iload_n 2, 1)) rfl
theorem oX10_skipBlanks_22 : OpS mX10_skipBlanks 22 (o_callV mX9_at 9 1 25) := s_callV ceX9_at clsX9 (Or.inl wd_861) wd_133 selX9_at (by decide +kernel : decode cX10_skipBlanks 22 = .ok (.invokevirtual 71, 3))
theorem oX10_skipBlanks_25 : OpS mX10_skipBlanks 25 (o_const (.int 10) 27) := s_bipush (by decide +kernel : decode cX10_skipBlanks 25 = .ok (.bipush 10, 2)) (by decide)
theorem oX10_skipBlanks_27 : OpS mX10_skipBlanks 27 (o_icmp (fun x y => x = y) 32 30) := s_icmp_eq (by decide +kernel : decode cX10_skipBlanks 27 = .ok (.if_icmp .eq 5, 3)) (by decide)
theorem oX10_skipBlanks_30 : OpS mX10_skipBlanks 30 (o_iload 2 31) := s_iload_n (by decide +kernel : decode cX10_skipBlanks 30 = .ok (.iload_n 2, 1)) rfl
theorem oX10_skipBlanks_31 : OpS mX10_skipBlanks 31 (o_iret) := s_iret rfl (by decide +kernel : decode cX10_skipBlanks 31 = .ok (.ireturn, 1))
theorem oX10_skipBlanks_32 : OpS mX10_skipBlanks 32 (o_iinc 2 3 1 35) := s_iinc (by decide +kernel : decode cX10_skipBlanks 32 = .ok (.iinc 2 1, 3)) (by decide) rfl
theorem oX10_skipBlanks_35 : OpS mX10_skipBlanks 35 (o_goto 2) := s_goto (by decide +kernel : decode cX10_skipBlanks 35 = .ok (.goto (-33), 3)) (by decide)
theorem oX10_skipBlanks_38 : OpS mX10_skipBlanks 38 (o_aload 0 39) := s_aload_n (by decide +kernel : decode cX10_skipBlanks 38 = .ok (.aload_n 0, 1)) rfl
theorem oX10_skipBlanks_39 : OpS mX10_skipBlanks 39 (o_callV mX9_size 9 0 42) := s_callV ceX9_size clsX9 (Or.inl wd_860) wd_125 selX9_size (by decide +kernel : decode cX10_skipBlanks 39 = .ok (.invokevirtual 68, 3))
theorem oX10_skipBlanks_42 : OpS mX10_skipBlanks 42 (o_iret) := s_iret rfl (by decide +kernel : decode cX10_skipBlanks 42 = .ok (.ireturn, 1))
theorem oX10_lengthAt_0 : OpS mX10_lengthAt 0 (o_aload 0 1) := s_aload_n (by decide +kernel : decode cX10_lengthAt 0 = .ok (.aload_n 0, 1)) rfl
theorem oX10_lengthAt_1 : OpS mX10_lengthAt 1 (o_iload 1 2) := s_iload_n (by decide +kernel : decode cX10_lengthAt 1 = .ok (.iload_n 1, 1)) rfl
theorem oX10_lengthAt_2 : OpS mX10_lengthAt 2 (o_callV mX9_at 9 1 5) := s_callV ceX9_at clsX9 (Or.inl wd_861) wd_133 selX9_at (by decide +kernel : decode cX10_lengthAt 2 = .ok (.invokevirtual 71, 3))
theorem oX10_lengthAt_5 : OpS mX10_lengthAt 5 (o_istore 2 3 6) := s_istore_n (by decide +kernel : decode cX10_lengthAt 5 = .ok (.istore_n 2, 1)) rfl rfl
theorem oX10_lengthAt_6 : OpS mX10_lengthAt 6 (o_iload 2 7) := s_iload_n (by decide +kernel : decode cX10_lengthAt 6 = .ok (.iload_n 2, 1)) rfl
theorem oX10_lengthAt_7 : OpS mX10_lengthAt 7 (o_callS mX11_isLetter 1 10) := s_callS ceX11_isLetter (Or.inr ⟨_, wd_865⟩) wd_253 (by decide +kernel : decode cX10_lengthAt 7 = .ok (.invokestatic 79, 3))
theorem oX10_lengthAt_10 : OpS mX10_lengthAt 10 (o_if (fun x => x = 0) 13 20) := s_if_ne (by decide +kernel : decode cX10_lengthAt 10 = .ok (.ifCond .ne 10, 3)) (by decide)
theorem oX10_lengthAt_13 : OpS mX10_lengthAt 13 (o_iload 2 14) := s_iload_n (by decide +kernel : decode cX10_lengthAt 13 = .ok (.iload_n 2, 1)) rfl
theorem oX10_lengthAt_14 : OpS mX10_lengthAt 14 (o_callS mX11_isDigit 1 17) := s_callS ceX11_isDigit (Or.inr ⟨_, wd_866⟩) wd_867 (by decide +kernel : decode cX10_lengthAt 14 = .ok (.invokestatic 83, 3))
theorem oX10_lengthAt_17 : OpS mX10_lengthAt 17 (o_if (fun x => x = 0) 30 20) := s_if_eq (by decide +kernel : decode cX10_lengthAt 17 = .ok (.ifCond .eq 13, 3)) (by decide)
theorem oX10_lengthAt_20 : OpS mX10_lengthAt 20 (o_aload 0 21) := s_aload_n (by decide +kernel : decode cX10_lengthAt 20 = .ok (.aload_n 0, 1)) rfl
theorem oX10_lengthAt_21 : OpS mX10_lengthAt 21 (o_iload 1 22) := s_iload_n (by decide +kernel : decode cX10_lengthAt 21 = .ok (.iload_n 1, 1)) rfl
theorem oX10_lengthAt_22 : OpS mX10_lengthAt 22 (o_iload 2 23) := s_iload_n (by decide +kernel : decode cX10_lengthAt 22 = .ok (.iload_n 2, 1)) rfl
theorem oX10_lengthAt_23 : OpS mX10_lengthAt 23 (o_callS mX11_isLetter 1 26) := s_callS ceX11_isLetter (Or.inr ⟨_, wd_865⟩) wd_253 (by decide +kernel : decode cX10_lengthAt 23 = .ok (.invokestatic 79, 3))
theorem oX10_lengthAt_26 : OpS mX10_lengthAt 26 (o_callS mX10_runLength 3 29) := s_callS ceX10_runLength (Or.inl wd_869) wd_870 (by decide +kernel : decode cX10_lengthAt 26 = .ok (.invokestatic 86, 3))
theorem oX10_lengthAt_29 : OpS mX10_lengthAt 29 (o_iret) := s_iret rfl (by decide +kernel : decode cX10_lengthAt 29 = .ok (.ireturn, 1))
theorem oX10_lengthAt_30 : OpS mX10_lengthAt 30 (o_iload 2 31) := s_iload_n (by decide +kernel : decode cX10_lengthAt 30 = .ok (.iload_n 2, 1)) rfl
theorem oX10_lengthAt_31 : OpS mX10_lengthAt 31 (o_const (.int 60) 33) := s_bipush (by decide +kernel : decode cX10_lengthAt 31 = .ok (.bipush 60, 2)) (by decide)
theorem oX10_lengthAt_33 : OpS mX10_lengthAt 33 (o_icmp (fun x y => x = y) 42 36) := s_icmp_eq (by decide +kernel : decode cX10_lengthAt 33 = .ok (.if_icmp .eq 9, 3)) (by decide)
theorem oX10_lengthAt_36 : OpS mX10_lengthAt 36 (o_iload 2 37) := s_iload_n (by decide +kernel : decode cX10_lengthAt 36 = .ok (.iload_n 2, 1)) rfl
theorem oX10_lengthAt_37 : OpS mX10_lengthAt 37 (o_const (.int 62) 39) := s_bipush (by decide +kernel : decode cX10_lengthAt 37 = .ok (.bipush 62, 2)) (by decide)
theorem oX10_lengthAt_39 : OpS mX10_lengthAt 39 (o_icmp (fun x y => x = y) 42 58) := s_icmp_ne (by decide +kernel : decode cX10_lengthAt 39 = .ok (.if_icmp .ne 19, 3)) (by decide)
theorem oX10_lengthAt_42 : OpS mX10_lengthAt 42 (o_aload 0 43) := s_aload_n (by decide +kernel : decode cX10_lengthAt 42 = .ok (.aload_n 0, 1)) rfl
theorem oX10_lengthAt_43 : OpS mX10_lengthAt 43 (o_iload 1 44) := s_iload_n (by decide +kernel : decode cX10_lengthAt 43 = .ok (.iload_n 1, 1)) rfl
theorem oX10_lengthAt_44 : OpS mX10_lengthAt 44 (o_const (.int 1) 45) := s_iconst (by decide +kernel : decode cX10_lengthAt 44 = .ok (.iconst 1, 1)) (by decide)
theorem oX10_lengthAt_45 : OpS mX10_lengthAt 45 (o_ibin (fun x y => x + y) 46) := s_iadd (by decide +kernel : decode cX10_lengthAt 45 = .ok (.iadd, 1))
theorem oX10_lengthAt_46 : OpS mX10_lengthAt 46 (o_callV mX9_at 9 1 49) := s_callV ceX9_at clsX9 (Or.inl wd_861) wd_133 selX9_at (by decide +kernel : decode cX10_lengthAt 46 = .ok (.invokevirtual 71, 3))
theorem oX10_lengthAt_49 : OpS mX10_lengthAt 49 (o_const (.int 61) 51) := s_bipush (by decide +kernel : decode cX10_lengthAt 49 = .ok (.bipush 61, 2)) (by decide)
theorem oX10_lengthAt_51 : OpS mX10_lengthAt 51 (o_icmp (fun x y => x = y) 54 58) := s_icmp_ne (by decide +kernel : decode cX10_lengthAt 51 = .ok (.if_icmp .ne 7, 3)) (by decide)
theorem oX10_lengthAt_54 : OpS mX10_lengthAt 54 (o_const (.int 2) 55) := s_iconst (by decide +kernel : decode cX10_lengthAt 54 = .ok (.iconst 2, 1)) (by decide)
theorem oX10_lengthAt_55 : OpS mX10_lengthAt 55 (o_goto 59) := s_goto (by decide +kernel : decode cX10_lengthAt 55 = .ok (.goto 4, 3)) (by decide)
theorem oX10_lengthAt_58 : OpS mX10_lengthAt 58 (o_const (.int 1) 59) := s_iconst (by decide +kernel : decode cX10_lengthAt 58 = .ok (.iconst 1, 1)) (by decide)
theorem oX10_lengthAt_59 : OpS mX10_lengthAt 59 (o_iret) := s_iret rfl (by decide +kernel : decode cX10_lengthAt 59 = .ok (.ireturn, 1))
theorem oX10_runLength_0 : OpS mX10_runLength 0 (o_iload 1 1) := s_iload_n (by decide +kernel : decode cX10_runLength 0 = .ok (.iload_n 1, 1)) rfl
theorem oX10_runLength_1 : OpS mX10_runLength 1 (o_istore 3 5 2) := s_istore_n (by decide +kernel : decode cX10_runLength 1 = .ok (.istore_n 3, 1)) rfl rfl
theorem oX10_runLength_2 : OpS mX10_runLength 2 (o_iload 3 3) := s_iload_n (by decide +kernel : decode cX10_runLength 2 = .ok (.iload_n 3, 1)) rfl
theorem oX10_runLength_3 : OpS mX10_runLength 3 (o_aload 0 4) := s_aload_n (by decide +kernel : decode cX10_runLength 3 = .ok (.aload_n 0, 1)) rfl
theorem oX10_runLength_4 : OpS mX10_runLength 4 (o_callV mX9_size 9 0 7) := s_callV ceX9_size clsX9 (Or.inl wd_860) wd_125 selX9_size (by decide +kernel : decode cX10_runLength 4 = .ok (.invokevirtual 68, 3))
theorem oX10_runLength_7 : OpS mX10_runLength 7 (o_icmp (fun x y => y ≤ x) 47 10) := s_icmp_ge (by decide +kernel : decode cX10_runLength 7 = .ok (.if_icmp .ge 40, 3)) (by decide)
theorem oX10_runLength_10 : OpS mX10_runLength 10 (o_aload 0 11) := s_aload_n (by decide +kernel : decode cX10_runLength 10 = .ok (.aload_n 0, 1)) rfl
theorem oX10_runLength_11 : OpS mX10_runLength 11 (o_iload 3 12) := s_iload_n (by decide +kernel : decode cX10_runLength 11 = .ok (.iload_n 3, 1)) rfl
theorem oX10_runLength_12 : OpS mX10_runLength 12 (o_callV mX9_at 9 1 15) := s_callV ceX9_at clsX9 (Or.inl wd_861) wd_133 selX9_at (by decide +kernel : decode cX10_runLength 12 = .ok (.invokevirtual 71, 3))
theorem oX10_runLength_15 : OpS mX10_runLength 15 (o_istore 4 5 17) := s_istore (by decide +kernel : decode cX10_runLength 15 = .ok (.istore 4, 2)) rfl
theorem oX10_runLength_17 : OpS mX10_runLength 17 (o_iload 4 19) := s_iload (by decide +kernel : decode cX10_runLength 17 = .ok (.iload 4, 2))
theorem oX10_runLength_19 : OpS mX10_runLength 19 (o_callS mX11_isDigit 1 22) := s_callS ceX11_isDigit (Or.inr ⟨_, wd_866⟩) wd_867 (by decide +kernel : decode cX10_runLength 19 = .ok (.invokestatic 83, 3))
theorem oX10_runLength_22 : OpS mX10_runLength 22 (o_if (fun x => x = 0) 25 41) := s_if_ne (by decide +kernel : decode cX10_runLength 22 = .ok (.ifCond .ne 19, 3)) (by decide)
theorem oX10_runLength_25 : OpS mX10_runLength 25 (o_iload 2 26) := s_iload_n (by decide +kernel : decode cX10_runLength 25 = .ok (.iload_n 2, 1)) rfl
theorem oX10_runLength_26 : OpS mX10_runLength 26 (o_if (fun x => x = 0) 37 29) := s_if_eq (by decide +kernel : decode cX10_runLength 26 = .ok (.ifCond .eq 11, 3)) (by decide)
theorem oX10_runLength_29 : OpS mX10_runLength 29 (o_iload 4 31) := s_iload (by decide +kernel : decode cX10_runLength 29 = .ok (.iload 4, 2))
theorem oX10_runLength_31 : OpS mX10_runLength 31 (o_callS mX11_isLetter 1 34) := s_callS ceX11_isLetter (Or.inr ⟨_, wd_865⟩) wd_253 (by decide +kernel : decode cX10_runLength 31 = .ok (.invokestatic 79, 3))
theorem oX10_runLength_34 : OpS mX10_runLength 34 (o_if (fun x => x = 0) 37 41) := s_if_ne (by decide +kernel : decode cX10_runLength 34 = .ok (.ifCond .ne 7, 3)) (by decide)
theorem oX10_runLength_37 : OpS mX10_runLength 37 (o_iload 3 38) := s_iload_n (by decide +kernel : decode cX10_runLength 37 = .ok (.iload_n 3, 1)) rfl
theorem oX10_runLength_38 : OpS mX10_runLength 38 (o_iload 1 39) := s_iload_n (by decide +kernel : decode cX10_runLength 38 = .ok (.iload_n 1, 1)) rfl
theorem oX10_runLength_39 : OpS mX10_runLength 39 (o_ibin (fun x y => x - y) 40) := s_isub (by decide +kernel : decode cX10_runLength 39 = .ok (.isub, 1))
theorem oX10_runLength_40 : OpS mX10_runLength 40 (o_iret) := s_iret rfl (by decide +kernel : decode cX10_runLength 40 = .ok (.ireturn, 1))
theorem oX10_runLength_41 : OpS mX10_runLength 41 (o_iinc 3 5 1 44) := s_iinc (by decide +kernel : decode cX10_runLength 41 = .ok (.iinc 3 1, 3)) (by decide) rfl
theorem oX10_runLength_44 : OpS mX10_runLength 44 (o_goto 2) := s_goto (by decide +kernel : decode cX10_runLength 44 = .ok (.goto (-42), 3)) (by decide)
theorem oX10_runLength_47 : OpS mX10_runLength 47 (o_aload 0 48) := s_aload_n (by decide +kernel : decode cX10_runLength 47 = .ok (.aload_n 0, 1)) rfl
theorem oX10_runLength_48 : OpS mX10_runLength 48 (o_callV mX9_size 9 0 51) := s_callV ceX9_size clsX9 (Or.inl wd_860) wd_125 selX9_size (by decide +kernel : decode cX10_runLength 48 = .ok (.invokevirtual 68, 3))
theorem oX10_runLength_51 : OpS mX10_runLength 51 (o_iload 1 52) := s_iload_n (by decide +kernel : decode cX10_runLength 51 = .ok (.iload_n 1, 1)) rfl
theorem oX10_runLength_52 : OpS mX10_runLength 52 (o_ibin (fun x y => x - y) 53) := s_isub (by decide +kernel : decode cX10_runLength 52 = .ok (.isub, 1))
theorem oX10_runLength_53 : OpS mX10_runLength 53 (o_iret) := s_iret rfl (by decide +kernel : decode cX10_runLength 53 = .ok (.ireturn, 1))
theorem oX10_kindAt_0 : OpS mX10_kindAt 0 (o_aload 1 1) := s_aload_n (by decide +kernel : decode cX10_kindAt 0 = .ok (.aload_n 1, 1)) rfl
theorem oX10_kindAt_1 : OpS mX10_kindAt 1 (o_iload 2 2) := s_iload_n (by decide +kernel : decode cX10_kindAt 1 = .ok (.iload_n 2, 1)) rfl
theorem oX10_kindAt_2 : OpS mX10_kindAt 2 (o_callV mX9_at 9 1 5) := s_callV ceX9_at clsX9 (Or.inl wd_861) wd_133 selX9_at (by decide +kernel : decode cX10_kindAt 2 = .ok (.invokevirtual 71, 3))
theorem oX10_kindAt_5 : OpS mX10_kindAt 5 (o_istore 4 6 7) := s_istore (by decide +kernel : decode cX10_kindAt 5 = .ok (.istore 4, 2)) rfl
theorem oX10_kindAt_7 : OpS mX10_kindAt 7 (o_iload 4 9) := s_iload (by decide +kernel : decode cX10_kindAt 7 = .ok (.iload 4, 2))
theorem oX10_kindAt_9 : OpS mX10_kindAt 9 (o_if (fun x => 0 ≤ x) 15 12) := s_if_ge (by decide +kernel : decode cX10_kindAt 9 = .ok (.ifCond .ge 6, 3)) (by decide)
theorem oX10_kindAt_12 : OpS mX10_kindAt 12 (o_const (.int 24) 14) := s_bipush (by decide +kernel : decode cX10_kindAt 12 = .ok (.bipush 24, 2)) (by decide)
theorem oX10_kindAt_14 : OpS mX10_kindAt 14 (o_iret) := s_iret rfl (by decide +kernel : decode cX10_kindAt 14 = .ok (.ireturn, 1))
theorem oX10_kindAt_15 : OpS mX10_kindAt 15 (o_iload 4 17) := s_iload (by decide +kernel : decode cX10_kindAt 15 = .ok (.iload 4, 2))
theorem oX10_kindAt_17 : OpS mX10_kindAt 17 (o_callS mX11_isLetter 1 20) := s_callS ceX11_isLetter (Or.inr ⟨_, wd_865⟩) wd_253 (by decide +kernel : decode cX10_kindAt 17 = .ok (.invokestatic 79, 3))
theorem oX10_kindAt_20 : OpS mX10_kindAt 20 (o_if (fun x => x = 0) 68 23) := s_if_eq (by decide +kernel : decode cX10_kindAt 20 = .ok (.ifCond .eq 48, 3)) (by decide)
theorem oX10_kindAt_23 : OpS mX10_kindAt 23 (o_iload 3 24) := s_iload_n (by decide +kernel : decode cX10_kindAt 23 = .ok (.iload_n 3, 1)) rfl
theorem oX10_kindAt_24 : OpS mX10_kindAt 24 (o_const (.int 10) 26) := s_bipush (by decide +kernel : decode cX10_kindAt 24 = .ok (.bipush 10, 2)) (by decide)
theorem oX10_kindAt_26 : OpS mX10_kindAt 26 (o_icmp (fun x y => x ≤ y) 32 29) := s_icmp_le (by decide +kernel : decode cX10_kindAt 26 = .ok (.if_icmp .le 6, 3)) (by decide)
theorem oX10_kindAt_29 : OpS mX10_kindAt 29 (o_const (.int 25) 31) := s_bipush (by decide +kernel : decode cX10_kindAt 29 = .ok (.bipush 25, 2)) (by decide)
theorem oX10_kindAt_31 : OpS mX10_kindAt 31 (o_iret) := s_iret rfl (by decide +kernel : decode cX10_kindAt 31 = .ok (.ireturn, 1))
theorem oX10_kindAt_32 : OpS mX10_kindAt 32 (o_aload 0 33) := s_aload_n (by decide +kernel : decode cX10_kindAt 32 = .ok (.aload_n 0, 1)) rfl
theorem oX10_kindAt_33 : OpS mX10_kindAt 33 (o_getP 10 4 36) := s_getP (k := 4) clsX10 (by decide) rfl (Or.inl wd_540) (by decide +kernel : decode cX10_kindAt 33 = .ok (.getfield 33, 3)) rfl
theorem oX10_kindAt_36 : OpS mX10_kindAt 36 (o_aload 1 37) := s_aload_n (by decide +kernel : decode cX10_kindAt 36 = .ok (.aload_n 1, 1)) rfl
theorem oX10_kindAt_37 : OpS mX10_kindAt 37 (o_iload 2 38) := s_iload_n (by decide +kernel : decode cX10_kindAt 37 = .ok (.iload_n 2, 1)) rfl
theorem oX10_kindAt_38 : OpS mX10_kindAt 38 (o_iload 3 39) := s_iload_n (by decide +kernel : decode cX10_kindAt 38 = .ok (.iload_n 3, 1)) rfl
theorem oX10_kindAt_39 : OpS mX10_kindAt 39 (o_callV mX9_copy 9 3 42) := s_callV ceX9_copy clsX9 (Or.inl wd_876) wd_530 selX9_copy (by decide +kernel : decode cX10_kindAt 39 = .ok (.invokevirtual 75, 3))
theorem oX10_kindAt_42 : OpS mX10_kindAt 42 (o_aload 0 43) := s_aload_n (by decide +kernel : decode cX10_kindAt 42 = .ok (.aload_n 0, 1)) rfl
theorem oX10_kindAt_43 : OpS mX10_kindAt 43 (o_getP 10 0 46) := s_getP (k := 0) clsX10 (by decide) rfl (Or.inl wd_535) (by decide +kernel : decode cX10_kindAt 43 = .ok (.getfield 16, 3)) rfl
theorem oX10_kindAt_46 : OpS mX10_kindAt 46 (o_aload 0 47) := s_aload_n (by decide +kernel : decode cX10_kindAt 46 = .ok (.aload_n 0, 1)) rfl
theorem oX10_kindAt_47 : OpS mX10_kindAt 47 (o_getP 10 4 50) := s_getP (k := 4) clsX10 (by decide) rfl (Or.inl wd_540) (by decide +kernel : decode cX10_kindAt 47 = .ok (.getfield 33, 3)) rfl
theorem oX10_kindAt_50 : OpS mX10_kindAt 50 (o_callV mX5_find 5 1 53) := s_callV ceX5_find clsX5 (Or.inl wd_877) wd_878 selX5_find (by decide +kernel : decode cX10_kindAt 50 = .ok (.invokevirtual 90, 3))
theorem oX10_kindAt_53 : OpS mX10_kindAt 53 (o_istore 5 6 55) := s_istore (by decide +kernel : decode cX10_kindAt 53 = .ok (.istore 5, 2)) rfl
theorem oX10_kindAt_55 : OpS mX10_kindAt 55 (o_iload 5 57) := s_iload (by decide +kernel : decode cX10_kindAt 55 = .ok (.iload 5, 2))
theorem oX10_kindAt_57 : OpS mX10_kindAt 57 (o_if (fun x => 0 ≤ x) 65 60) := s_if_ge (by decide +kernel : decode cX10_kindAt 57 = .ok (.ifCond .ge 8, 3)) (by decide)
theorem oX10_kindAt_60 : OpS mX10_kindAt 60 (o_const (.int 20) 62) := s_bipush (by decide +kernel : decode cX10_kindAt 60 = .ok (.bipush 20, 2)) (by decide)
theorem oX10_kindAt_62 : OpS mX10_kindAt 62 (o_goto 67) := s_goto (by decide +kernel : decode cX10_kindAt 62 = .ok (.goto 5, 3)) (by decide)
theorem oX10_kindAt_65 : OpS mX10_kindAt 65 (o_iload 5 67) := s_iload (by decide +kernel : decode cX10_kindAt 65 = .ok (.iload 5, 2))
theorem oX10_kindAt_67 : OpS mX10_kindAt 67 (o_iret) := s_iret rfl (by decide +kernel : decode cX10_kindAt 67 = .ok (.ireturn, 1))
theorem oX10_kindAt_68 : OpS mX10_kindAt 68 (o_iload 4 70) := s_iload (by decide +kernel : decode cX10_kindAt 68 = .ok (.iload 4, 2))
theorem oX10_kindAt_70 : OpS mX10_kindAt 70 (o_callS mX11_isDigit 1 73) := s_callS ceX11_isDigit (Or.inr ⟨_, wd_866⟩) wd_867 (by decide +kernel : decode cX10_kindAt 70 = .ok (.invokestatic 83, 3))
theorem oX10_kindAt_73 : OpS mX10_kindAt 73 (o_if (fun x => x = 0) 90 76) := s_if_eq (by decide +kernel : decode cX10_kindAt 73 = .ok (.ifCond .eq 17, 3)) (by decide)
theorem oX10_kindAt_76 : OpS mX10_kindAt 76 (o_iload 3 77) := s_iload_n (by decide +kernel : decode cX10_kindAt 76 = .ok (.iload_n 3, 1)) rfl
theorem oX10_kindAt_77 : OpS mX10_kindAt 77 (o_const (.int 6) 79) := s_bipush (by decide +kernel : decode cX10_kindAt 77 = .ok (.bipush 6, 2)) (by decide)
theorem oX10_kindAt_79 : OpS mX10_kindAt 79 (o_icmp (fun x y => x ≤ y) 87 82) := s_icmp_le (by decide +kernel : decode cX10_kindAt 79 = .ok (.if_icmp .le 8, 3)) (by decide)
theorem oX10_kindAt_82 : OpS mX10_kindAt 82 (o_const (.int 25) 84) := s_bipush (by decide +kernel : decode cX10_kindAt 82 = .ok (.bipush 25, 2)) (by decide)
theorem oX10_kindAt_84 : OpS mX10_kindAt 84 (o_goto 89) := s_goto (by decide +kernel : decode cX10_kindAt 84 = .ok (.goto 5, 3)) (by decide)
theorem oX10_kindAt_87 : OpS mX10_kindAt 87 (o_const (.int 21) 89) := s_bipush (by decide +kernel : decode cX10_kindAt 87 = .ok (.bipush 21, 2)) (by decide)
theorem oX10_kindAt_89 : OpS mX10_kindAt 89 (o_iret) := s_iret rfl (by decide +kernel : decode cX10_kindAt 89 = .ok (.ireturn, 1))
theorem oX10_kindAt_90 : OpS mX10_kindAt 90 (o_iload 3 91) := s_iload_n (by decide +kernel : decode cX10_kindAt 90 = .ok (.iload_n 3, 1)) rfl
theorem oX10_kindAt_91 : OpS mX10_kindAt 91 (o_const (.int 2) 92) := s_iconst (by decide +kernel : decode cX10_kindAt 91 = .ok (.iconst 2, 1)) (by decide)
theorem oX10_kindAt_92 : OpS mX10_kindAt 92 (o_icmp (fun x y => x = y) 95 110) := s_icmp_ne (by decide +kernel : decode cX10_kindAt 92 = .ok (.if_icmp .ne 18, 3)) (by decide)
theorem oX10_kindAt_95 : OpS mX10_kindAt 95 (o_iload 4 97) := s_iload (by decide +kernel : decode cX10_kindAt 95 = .ok (.iload 4, 2))
theorem oX10_kindAt_97 : OpS mX10_kindAt 97 (o_const (.int 60) 99) := s_bipush (by decide +kernel : decode cX10_kindAt 97 = .ok (.bipush 60, 2)) (by decide)
theorem oX10_kindAt_99 : OpS mX10_kindAt 99 (o_icmp (fun x y => x = y) 102 107) := s_icmp_ne (by decide +kernel : decode cX10_kindAt 99 = .ok (.if_icmp .ne 8, 3)) (by decide)
theorem oX10_kindAt_102 : OpS mX10_kindAt 102 (o_const (.int 22) 104) := s_bipush (by decide +kernel : decode cX10_kindAt 102 = .ok (.bipush 22, 2)) (by decide)
theorem oX10_kindAt_104 : OpS mX10_kindAt 104 (o_goto 109) := s_goto (by decide +kernel : decode cX10_kindAt 104 = .ok (.goto 5, 3)) (by decide)
theorem oX10_kindAt_107 : OpS mX10_kindAt 107 (o_const (.int 23) 109) := s_bipush (by decide +kernel : decode cX10_kindAt 107 = .ok (.bipush 23, 2)) (by decide)
theorem oX10_kindAt_109 : OpS mX10_kindAt 109 (o_iret) := s_iret rfl (by decide +kernel : decode cX10_kindAt 109 = .ok (.ireturn, 1))
theorem oX10_kindAt_112 : OpS mX10_kindAt 112 (o_iload 4 114) := s_iload (by decide +kernel : decode cX10_kindAt 112 = .ok (.iload 4, 2))
theorem oX10_kindAt_114 : OpS mX10_kindAt 114 (o_iun (fun x => (x.toUInt32 % 65536).toInt32) 115) := s_i2c (by decide +kernel : decode cX10_kindAt 114 = .ok (.i2c, 1))
theorem oX10_kindAt_118 : OpS mX10_kindAt 118 (o_if (fun x => x < 0) 126 121) := s_if_lt (by decide +kernel : decode cX10_kindAt 118 = .ok (.ifCond .lt 8, 3)) (by decide)
theorem oX10_kindAt_121 : OpS mX10_kindAt 121 (o_iload 4 123) := s_iload (by decide +kernel : decode cX10_kindAt 121 = .ok (.iload 4, 2))
theorem oX10_kindAt_123 : OpS mX10_kindAt 123 (o_goto 128) := s_goto (by decide +kernel : decode cX10_kindAt 123 = .ok (.goto 5, 3)) (by decide)
theorem oX10_kindAt_126 : OpS mX10_kindAt 126 (o_const (.int 25) 128) := s_bipush (by decide +kernel : decode cX10_kindAt 126 = .ok (.bipush 25, 2)) (by decide)
theorem oX10_kindAt_128 : OpS mX10_kindAt 128 (o_iret) := s_iret rfl (by decide +kernel : decode cX10_kindAt 128 = .ok (.ireturn, 1))
