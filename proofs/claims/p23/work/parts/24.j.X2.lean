theorem oX2_init_0 : OpS mX2_init 0 (o_aload 0 1) := s_aload_n (by decide +kernel : decode cX2_init 0 = .ok (.aload_n 0, 1)) rfl
theorem oX2_init_1 : OpS mX2_init 1 (o_objinit 4) := s_objinit wd_946 wd_55 wd_56 (by decide +kernel : decode cX2_init 1 = .ok (.invokespecial 3, 3))
theorem oX2_init_4 : OpS mX2_init 4 (o_aload 0 5) := s_aload_n (by decide +kernel : decode cX2_init 4 = .ok (.aload_n 0, 1)) rfl
theorem oX2_init_5 : OpS mX2_init 5 (o_const (.int 0) 6) := s_iconst (by decide +kernel : decode cX2_init 5 = .ok (.iconst 0, 1)) (by decide)
theorem oX2_init_6 : OpS mX2_init 6 (o_putI 2 4 9) := s_putI (k := 4) clsX2 (by decide) rfl (Or.inl ⟨wd_951, Or.inl rfl⟩) (by decide +kernel : decode cX2_init 6 = .ok (.putfield 9, 3)) rfl rfl
theorem oX2_init_9 : OpS mX2_init 9 (o_aload 0 10) := s_aload_n (by decide +kernel : decode cX2_init 9 = .ok (.aload_n 0, 1)) rfl
theorem oX2_init_10 : OpS mX2_init 10 (o_aload 1 11) := s_aload_n (by decide +kernel : decode cX2_init 10 = .ok (.aload_n 1, 1)) rfl
theorem oX2_init_11 : OpS mX2_init 11 (o_putP 2 0 14) := s_putP (k := 0) clsX2 (by decide) rfl (Or.inl ⟨wd_947, Or.inr ⟨rfl, rfl, rfl⟩⟩) (by decide +kernel : decode cX2_init 11 = .ok (.putfield 15, 3)) rfl (fun _ => rfl) (fun _ => rfl)
theorem oX2_init_14 : OpS mX2_init 14 (o_aload 0 15) := s_aload_n (by decide +kernel : decode cX2_init 14 = .ok (.aload_n 0, 1)) rfl
theorem oX2_init_15 : OpS mX2_init 15 (o_aload 1 16) := s_aload_n (by decide +kernel : decode cX2_init 15 = .ok (.aload_n 1, 1)) rfl
theorem oX2_init_16 : OpS mX2_init 16 (o_getP 10 1 19) := s_getP (k := 1) clsX10 (by decide) rfl (Or.inr ⟨_, wd_536⟩) (by decide +kernel : decode cX2_init 16 = .ok (.getfield 19, 3)) rfl
theorem oX2_init_19 : OpS mX2_init 19 (o_putP 2 1 22) := s_putP (k := 1) clsX2 (by decide) rfl (Or.inl ⟨wd_948, Or.inr ⟨rfl, rfl, rfl⟩⟩) (by decide +kernel : decode cX2_init 19 = .ok (.putfield 25, 3)) rfl (fun _ => rfl) (fun _ => rfl)
theorem oX2_init_22 : OpS mX2_init 22 (o_aload 0 23) := s_aload_n (by decide +kernel : decode cX2_init 22 = .ok (.aload_n 0, 1)) rfl
theorem oX2_init_23 : OpS mX2_init 23 (o_aload 2 24) := s_aload_n (by decide +kernel : decode cX2_init 23 = .ok (.aload_n 2, 1)) rfl
theorem oX2_init_24 : OpS mX2_init 24 (o_putP 2 2 27) := s_putP (k := 2) clsX2 (by decide) rfl (Or.inl ⟨wd_949, Or.inr ⟨rfl, rfl, rfl⟩⟩) (by decide +kernel : decode cX2_init 24 = .ok (.putfield 26, 3)) rfl (fun _ => rfl) (fun _ => rfl)
theorem oX2_init_27 : OpS mX2_init 27 (o_aload 0 28) := s_aload_n (by decide +kernel : decode cX2_init 27 = .ok (.aload_n 0, 1)) rfl
theorem oX2_init_28 : OpS mX2_init 28 (o_aload 3 29) := s_aload_n (by decide +kernel : decode cX2_init 28 = .ok (.aload_n 3, 1)) rfl
theorem oX2_init_29 : OpS mX2_init 29 (o_putP 2 3 32) := s_putP (k := 3) clsX2 (by decide) rfl (Or.inl ⟨wd_950, Or.inr ⟨rfl, rfl, rfl⟩⟩) (by decide +kernel : decode cX2_init 29 = .ok (.putfield 29, 3)) rfl (fun _ => rfl) (fun _ => rfl)
theorem oX2_init_32 : OpS mX2_init 32 (o_vret) := s_vret rfl (by decide +kernel : decode cX2_init 32 = .ok (.return_, 1))
theorem oX2_read_0 : OpS mX2_read 0 (o_const (.int 1) 1) := s_iconst (by decide +kernel : decode cX2_read 0 = .ok (.iconst 1, 1)) (by decide)
theorem oX2_read_1 : OpS mX2_read 1 (o_istore 1 3 2) := s_istore_n (by decide +kernel : decode cX2_read 1 = .ok (.istore_n 1, 1)) rfl rfl
theorem oX2_read_2 : OpS mX2_read 2 (o_const (.int 0) 3) := s_iconst (by decide +kernel : decode cX2_read 2 = .ok (.iconst 0, 1)) (by decide)
theorem oX2_read_3 : OpS mX2_read 3 (o_istore 2 3 4) := s_istore_n (by decide +kernel : decode cX2_read 3 = .ok (.istore_n 2, 1)) rfl rfl
theorem oX2_read_4 : OpS mX2_read 4 (o_iload 2 5) := s_iload_n (by decide +kernel : decode cX2_read 4 = .ok (.iload_n 2, 1)) rfl
theorem oX2_read_5 : OpS mX2_read 5 (o_const (.int 400) 8) := s_sipush (by decide +kernel : decode cX2_read 5 = .ok (.sipush 400, 3)) (by decide)
theorem oX2_read_8 : OpS mX2_read 8 (o_icmp (fun x y => y ≤ x) 140 11) := s_icmp_ge (by decide +kernel : decode cX2_read 8 = .ok (.if_icmp .ge 132, 3)) (by decide)
theorem oX2_read_11 : OpS mX2_read 11 (o_iload 1 12) := s_iload_n (by decide +kernel : decode cX2_read 11 = .ok (.iload_n 1, 1)) rfl
theorem oX2_read_12 : OpS mX2_read 12 (o_if (fun x => x = 0) 140 15) := s_if_eq (by decide +kernel : decode cX2_read 12 = .ok (.ifCond .eq 128, 3)) (by decide)
theorem oX2_read_15 : OpS mX2_read 15 (o_aload 0 16) := s_aload_n (by decide +kernel : decode cX2_read 15 = .ok (.aload_n 0, 1)) rfl
theorem oX2_read_16 : OpS mX2_read 16 (o_const (.int 24) 18) := s_bipush (by decide +kernel : decode cX2_read 16 = .ok (.bipush 24, 2)) (by decide)
theorem oX2_read_18 : OpS mX2_read 18 (o_callV mX2_is 2 1 21) := s_callV ceX2_is clsX2 (Or.inl wd_967) wd_969 selX2_is (by decide +kernel : decode cX2_read 18 = .ok (.invokevirtual 33, 3))
theorem oX2_read_21 : OpS mX2_read 21 (o_if (fun x => x = 0) 24 140) := s_if_ne (by decide +kernel : decode cX2_read 21 = .ok (.ifCond .ne 119, 3)) (by decide)
theorem oX2_read_24 : OpS mX2_read 24 (o_aload 0 25) := s_aload_n (by decide +kernel : decode cX2_read 24 = .ok (.aload_n 0, 1)) rfl
theorem oX2_read_25 : OpS mX2_read 25 (o_getP 2 1 28) := s_getP (k := 1) clsX2 (by decide) rfl (Or.inl wd_948) (by decide +kernel : decode cX2_read 25 = .ok (.getfield 25, 3)) rfl
theorem oX2_read_28 : OpS mX2_read 28 (o_aload 0 29) := s_aload_n (by decide +kernel : decode cX2_read 28 = .ok (.aload_n 0, 1)) rfl
theorem oX2_read_29 : OpS mX2_read 29 (o_getI 2 4 32) := s_getI (k := 4) clsX2 (by decide) rfl (Or.inl wd_951) (by decide +kernel : decode cX2_read 29 = .ok (.getfield 9, 3)) rfl
theorem oX2_read_32 : OpS mX2_read 32 (o_callV mX9_at 9 1 35) := s_callV ceX9_at clsX9 (Or.inl wd_971) wd_133 selX9_at (by decide +kernel : decode cX2_read 32 = .ok (.invokevirtual 37, 3))
theorem oX2_read_35 : OpS mX2_read 35 (o_sw [(0, 68), (1, 94), (2, 110), (3, 110), (4, 102)] 110) := s_tsw (by decide +kernel : decode cX2_read 35 = .ok (.tableswitch 75 0 4 #[33, 59, 75, 75, 67], 33)) (by decide) (by decide) (by decide)
theorem oX2_read_68 : OpS mX2_read 68 (o_aload 0 69) := s_aload_n (by decide +kernel : decode cX2_read 68 = .ok (.aload_n 0, 1)) rfl
theorem oX2_read_69 : OpS mX2_read 69 (o_const (.int 0) 70) := s_iconst (by decide +kernel : decode cX2_read 69 = .ok (.iconst 0, 1)) (by decide)
theorem oX2_read_70 : OpS mX2_read 70 (o_callV mX2_skip 2 1 73) := s_callV ceX2_skip clsX2 (Or.inl wd_972) wd_974 selX2_skip (by decide +kernel : decode cX2_read 70 = .ok (.invokevirtual 42, 3))
theorem oX2_read_73 : OpS mX2_read 73 (o_if (fun x => x = 0) 89 76) := s_if_eq (by decide +kernel : decode cX2_read 73 = .ok (.ifCond .eq 16, 3)) (by decide)
theorem oX2_read_76 : OpS mX2_read 76 (o_aload 0 77) := s_aload_n (by decide +kernel : decode cX2_read 76 = .ok (.aload_n 0, 1)) rfl
theorem oX2_read_77 : OpS mX2_read 77 (o_const (.int 20) 79) := s_bipush (by decide +kernel : decode cX2_read 77 = .ok (.bipush 20, 2)) (by decide)
theorem oX2_read_79 : OpS mX2_read 79 (o_callV mX2_skip 2 1 82) := s_callV ceX2_skip clsX2 (Or.inl wd_972) wd_974 selX2_skip (by decide +kernel : decode cX2_read 79 = .ok (.invokevirtual 42, 3))
theorem oX2_read_82 : OpS mX2_read 82 (o_if (fun x => x = 0) 89 85) := s_if_eq (by decide +kernel : decode cX2_read 82 = .ok (.ifCond .eq 7, 3)) (by decide)
theorem oX2_read_85 : OpS mX2_read 85 (o_const (.int 1) 86) := s_iconst (by decide +kernel : decode cX2_read 85 = .ok (.iconst 1, 1)) (by decide)
theorem oX2_read_86 : OpS mX2_read 86 (o_goto 90) := s_goto (by decide +kernel : decode cX2_read 86 = .ok (.goto 4, 3)) (by decide)
theorem oX2_read_89 : OpS mX2_read 89 (o_const (.int 0) 90) := s_iconst (by decide +kernel : decode cX2_read 89 = .ok (.iconst 0, 1)) (by decide)
theorem oX2_read_90 : OpS mX2_read 90 (o_istore 1 3 91) := s_istore_n (by decide +kernel : decode cX2_read 90 = .ok (.istore_n 1, 1)) rfl rfl
theorem oX2_read_91 : OpS mX2_read 91 (o_goto 115) := s_goto (by decide +kernel : decode cX2_read 91 = .ok (.goto 24, 3)) (by decide)
theorem oX2_read_94 : OpS mX2_read 94 (o_aload 0 95) := s_aload_n (by decide +kernel : decode cX2_read 94 = .ok (.aload_n 0, 1)) rfl
theorem oX2_read_95 : OpS mX2_read 95 (o_callV mX2_wordLine 2 0 98) := s_callV ceX2_wordLine clsX2 (Or.inl wd_976) wd_978 selX2_wordLine (by decide +kernel : decode cX2_read 95 = .ok (.invokevirtual 45, 3))
theorem oX2_read_98 : OpS mX2_read 98 (o_istore 1 3 99) := s_istore_n (by decide +kernel : decode cX2_read 98 = .ok (.istore_n 1, 1)) rfl rfl
theorem oX2_read_99 : OpS mX2_read 99 (o_goto 115) := s_goto (by decide +kernel : decode cX2_read 99 = .ok (.goto 16, 3)) (by decide)
theorem oX2_read_102 : OpS mX2_read 102 (o_aload 0 103) := s_aload_n (by decide +kernel : decode cX2_read 102 = .ok (.aload_n 0, 1)) rfl
theorem oX2_read_103 : OpS mX2_read 103 (o_callV mX2_keyRows 2 0 106) := s_callV ceX2_keyRows clsX2 (Or.inl wd_980) wd_982 selX2_keyRows (by decide +kernel : decode cX2_read 103 = .ok (.invokevirtual 49, 3))
theorem oX2_read_106 : OpS mX2_read 106 (o_istore 1 3 107) := s_istore_n (by decide +kernel : decode cX2_read 106 = .ok (.istore_n 1, 1)) rfl rfl
theorem oX2_read_107 : OpS mX2_read 107 (o_goto 115) := s_goto (by decide +kernel : decode cX2_read 107 = .ok (.goto 8, 3)) (by decide)
theorem oX2_read_110 : OpS mX2_read 110 (o_aload 0 111) := s_aload_n (by decide +kernel : decode cX2_read 110 = .ok (.aload_n 0, 1)) rfl
theorem oX2_read_111 : OpS mX2_read 111 (o_callV mX2_boost 2 0 114) := s_callV ceX2_boost clsX2 (Or.inl wd_984) wd_986 selX2_boost (by decide +kernel : decode cX2_read 111 = .ok (.invokevirtual 52, 3))
theorem oX2_read_114 : OpS mX2_read 114 (o_istore 1 3 115) := s_istore_n (by decide +kernel : decode cX2_read 114 = .ok (.istore_n 1, 1)) rfl rfl
theorem oX2_read_115 : OpS mX2_read 115 (o_iload 1 116) := s_iload_n (by decide +kernel : decode cX2_read 115 = .ok (.iload_n 1, 1)) rfl
theorem oX2_read_116 : OpS mX2_read 116 (o_if (fun x => x = 0) 132 119) := s_if_eq (by decide +kernel : decode cX2_read 116 = .ok (.ifCond .eq 16, 3)) (by decide)
theorem oX2_read_119 : OpS mX2_read 119 (o_aload 0 120) := s_aload_n (by decide +kernel : decode cX2_read 119 = .ok (.aload_n 0, 1)) rfl
theorem oX2_read_120 : OpS mX2_read 120 (o_const (.int 59) 122) := s_bipush (by decide +kernel : decode cX2_read 120 = .ok (.bipush 59, 2)) (by decide)
theorem oX2_read_122 : OpS mX2_read 122 (o_callV mX2_skip 2 1 125) := s_callV ceX2_skip clsX2 (Or.inl wd_972) wd_974 selX2_skip (by decide +kernel : decode cX2_read 122 = .ok (.invokevirtual 42, 3))
theorem oX2_read_125 : OpS mX2_read 125 (o_if (fun x => x = 0) 132 128) := s_if_eq (by decide +kernel : decode cX2_read 125 = .ok (.ifCond .eq 7, 3)) (by decide)
theorem oX2_read_128 : OpS mX2_read 128 (o_const (.int 1) 129) := s_iconst (by decide +kernel : decode cX2_read 128 = .ok (.iconst 1, 1)) (by decide)
theorem oX2_read_129 : OpS mX2_read 129 (o_goto 133) := s_goto (by decide +kernel : decode cX2_read 129 = .ok (.goto 4, 3)) (by decide)
theorem oX2_read_132 : OpS mX2_read 132 (o_const (.int 0) 133) := s_iconst (by decide +kernel : decode cX2_read 132 = .ok (.iconst 0, 1)) (by decide)
theorem oX2_read_133 : OpS mX2_read 133 (o_istore 1 3 134) := s_istore_n (by decide +kernel : decode cX2_read 133 = .ok (.istore_n 1, 1)) rfl rfl
theorem oX2_read_134 : OpS mX2_read 134 (o_iinc 2 3 1 137) := s_iinc (by decide +kernel : decode cX2_read 134 = .ok (.iinc 2 1, 3)) (by decide) rfl
theorem oX2_read_137 : OpS mX2_read 137 (o_goto 4) := s_goto (by decide +kernel : decode cX2_read 137 = .ok (.goto (-133), 3)) (by decide)
theorem oX2_read_140 : OpS mX2_read 140 (o_iload 1 141) := s_iload_n (by decide +kernel : decode cX2_read 140 = .ok (.iload_n 1, 1)) rfl
theorem oX2_read_141 : OpS mX2_read 141 (o_if (fun x => x = 0) 148 144) := s_if_eq (by decide +kernel : decode cX2_read 141 = .ok (.ifCond .eq 7, 3)) (by decide)
theorem oX2_read_144 : OpS mX2_read 144 (o_const (.int (-1)) 145) := s_iconst (by decide +kernel : decode cX2_read 144 = .ok (.iconst (-1), 1)) (by decide)
theorem oX2_read_145 : OpS mX2_read 145 (o_goto 159) := s_goto (by decide +kernel : decode cX2_read 145 = .ok (.goto 14, 3)) (by decide)
theorem oX2_read_148 : OpS mX2_read 148 (o_aload 0 149) := s_aload_n (by decide +kernel : decode cX2_read 148 = .ok (.aload_n 0, 1)) rfl
theorem oX2_read_149 : OpS mX2_read 149 (o_getP 2 0 152) := s_getP (k := 0) clsX2 (by decide) rfl (Or.inl wd_947) (by decide +kernel : decode cX2_read 149 = .ok (.getfield 15, 3)) rfl
theorem oX2_read_152 : OpS mX2_read 152 (o_aload 0 153) := s_aload_n (by decide +kernel : decode cX2_read 152 = .ok (.aload_n 0, 1)) rfl
theorem oX2_read_153 : OpS mX2_read 153 (o_getI 2 4 156) := s_getI (k := 4) clsX2 (by decide) rfl (Or.inl wd_951) (by decide +kernel : decode cX2_read 153 = .ok (.getfield 9, 3)) rfl
theorem oX2_read_156 : OpS mX2_read 156 (o_callV mX10_start 10 1 159) := s_callV ceX10_start clsX10 (Or.inl wd_1040) wd_1041 selX10_start (by decide +kernel : decode cX2_read 156 = .ok (.invokevirtual 55, 3))
theorem oX2_read_159 : OpS mX2_read 159 (o_iret) := s_iret rfl (by decide +kernel : decode cX2_read 159 = .ok (.ireturn, 1))
theorem oX2_is_0 : OpS mX2_is 0 (o_aload 0 1) := s_aload_n (by decide +kernel : decode cX2_is 0 = .ok (.aload_n 0, 1)) rfl
theorem oX2_is_1 : OpS mX2_is 1 (o_getP 2 1 4) := s_getP (k := 1) clsX2 (by decide) rfl (Or.inl wd_948) (by decide +kernel : decode cX2_is 1 = .ok (.getfield 25, 3)) rfl
theorem oX2_is_4 : OpS mX2_is 4 (o_aload 0 5) := s_aload_n (by decide +kernel : decode cX2_is 4 = .ok (.aload_n 0, 1)) rfl
theorem oX2_is_5 : OpS mX2_is 5 (o_getI 2 4 8) := s_getI (k := 4) clsX2 (by decide) rfl (Or.inl wd_951) (by decide +kernel : decode cX2_is 5 = .ok (.getfield 9, 3)) rfl
theorem oX2_is_8 : OpS mX2_is 8 (o_callV mX9_at 9 1 11) := s_callV ceX9_at clsX9 (Or.inl wd_971) wd_133 selX9_at (by decide +kernel : decode cX2_is 8 = .ok (.invokevirtual 37, 3))
theorem oX2_is_11 : OpS mX2_is 11 (o_iload 1 12) := s_iload_n (by decide +kernel : decode cX2_is 11 = .ok (.iload_n 1, 1)) rfl
theorem oX2_is_12 : OpS mX2_is 12 (o_icmp (fun x y => x = y) 15 19) := s_icmp_ne (by decide +kernel : decode cX2_is 12 = .ok (.if_icmp .ne 7, 3)) (by decide)
theorem oX2_is_15 : OpS mX2_is 15 (o_const (.int 1) 16) := s_iconst (by decide +kernel : decode cX2_is 15 = .ok (.iconst 1, 1)) (by decide)
theorem oX2_is_16 : OpS mX2_is 16 (o_goto 20) := s_goto (by decide +kernel : decode cX2_is 16 = .ok (.goto 4, 3)) (by decide)
theorem oX2_is_19 : OpS mX2_is 19 (o_const (.int 0) 20) := s_iconst (by decide +kernel : decode cX2_is 19 = .ok (.iconst 0, 1)) (by decide)
theorem oX2_is_20 : OpS mX2_is 20 (o_zret) := s_zret rfl (by decide +kernel : decode cX2_is 20 = .ok (.ireturn, 1))
theorem oX2_skip_0 : OpS mX2_skip 0 (o_aload 0 1) := s_aload_n (by decide +kernel : decode cX2_skip 0 = .ok (.aload_n 0, 1)) rfl
theorem oX2_skip_1 : OpS mX2_skip 1 (o_getP 2 1 4) := s_getP (k := 1) clsX2 (by decide) rfl (Or.inl wd_948) (by decide +kernel : decode cX2_skip 1 = .ok (.getfield 25, 3)) rfl
theorem oX2_skip_4 : OpS mX2_skip 4 (o_aload 0 5) := s_aload_n (by decide +kernel : decode cX2_skip 4 = .ok (.aload_n 0, 1)) rfl
theorem oX2_skip_5 : OpS mX2_skip 5 (o_getI 2 4 8) := s_getI (k := 4) clsX2 (by decide) rfl (Or.inl wd_951) (by decide +kernel : decode cX2_skip 5 = .ok (.getfield 9, 3)) rfl
theorem oX2_skip_8 : OpS mX2_skip 8 (o_callV mX9_at 9 1 11) := s_callV ceX9_at clsX9 (Or.inl wd_971) wd_133 selX9_at (by decide +kernel : decode cX2_skip 8 = .ok (.invokevirtual 37, 3))
theorem oX2_skip_11 : OpS mX2_skip 11 (o_iload 1 12) := s_iload_n (by decide +kernel : decode cX2_skip 11 = .ok (.iload_n 1, 1)) rfl
theorem oX2_skip_12 : OpS mX2_skip 12 (o_icmp (fun x y => x = y) 17 15) := s_icmp_eq (by decide +kernel : decode cX2_skip 12 = .ok (.if_icmp .eq 5, 3)) (by decide)
theorem oX2_skip_15 : OpS mX2_skip 15 (o_const (.int 0) 16) := s_iconst (by decide +kernel : decode cX2_skip 15 = .ok (.iconst 0, 1)) (by decide)
theorem oX2_skip_16 : OpS mX2_skip 16 (o_zret) := s_zret rfl (by decide +kernel : decode cX2_skip 16 = .ok (.ireturn, 1))
theorem oX2_skip_17 : OpS mX2_skip 17 (o_aload 0 18) := s_aload_n (by decide +kernel : decode cX2_skip 17 = .ok (.aload_n 0, 1)) rfl
theorem oX2_skip_18 : OpS mX2_skip 18 (o_dup 19) := s_dup (by decide +kernel : decode cX2_skip 18 = .ok (.dup, 1))
theorem oX2_skip_19 : OpS mX2_skip 19 (o_getI 2 4 22) := s_getI (k := 4) clsX2 (by decide) rfl (Or.inl wd_951) (by decide +kernel : decode cX2_skip 19 = .ok (.getfield 9, 3)) rfl
theorem oX2_skip_22 : OpS mX2_skip 22 (o_const (.int 1) 23) := s_iconst (by decide +kernel : decode cX2_skip 22 = .ok (.iconst 1, 1)) (by decide)
theorem oX2_skip_23 : OpS mX2_skip 23 (o_ibin (fun x y => x + y) 24) := s_iadd (by decide +kernel : decode cX2_skip 23 = .ok (.iadd, 1))
theorem oX2_skip_24 : OpS mX2_skip 24 (o_putI 2 4 27) := s_putI (k := 4) clsX2 (by decide) rfl (Or.inl ⟨wd_951, Or.inl rfl⟩) (by decide +kernel : decode cX2_skip 24 = .ok (.putfield 9, 3)) rfl rfl
theorem oX2_skip_27 : OpS mX2_skip 27 (o_const (.int 1) 28) := s_iconst (by decide +kernel : decode cX2_skip 27 = .ok (.iconst 1, 1)) (by decide)
theorem oX2_skip_28 : OpS mX2_skip 28 (o_zret) := s_zret rfl (by decide +kernel : decode cX2_skip 28 = .ok (.ireturn, 1))
theorem oX2_wordLine_0 : OpS mX2_wordLine 0 (o_aload 0 1) := s_aload_n (by decide +kernel : decode cX2_wordLine 0 = .ok (.aload_n 0, 1)) rfl
theorem oX2_wordLine_1 : OpS mX2_wordLine 1 (o_const (.int 1) 2) := s_iconst (by decide +kernel : decode cX2_wordLine 1 = .ok (.iconst 1, 1)) (by decide)
theorem oX2_wordLine_2 : OpS mX2_wordLine 2 (o_callV mX2_skip 2 1 5) := s_callV ceX2_skip clsX2 (Or.inl wd_972) wd_974 selX2_skip (by decide +kernel : decode cX2_wordLine 2 = .ok (.invokevirtual 42, 3))
theorem oX2_wordLine_5 : OpS mX2_wordLine 5 (o_if (fun x => x = 0) 55 8) := s_if_eq (by decide +kernel : decode cX2_wordLine 5 = .ok (.ifCond .eq 50, 3)) (by decide)
theorem oX2_wordLine_8 : OpS mX2_wordLine 8 (o_aload 0 9) := s_aload_n (by decide +kernel : decode cX2_wordLine 8 = .ok (.aload_n 0, 1)) rfl
theorem oX2_wordLine_9 : OpS mX2_wordLine 9 (o_const (.int 20) 11) := s_bipush (by decide +kernel : decode cX2_wordLine 9 = .ok (.bipush 20, 2)) (by decide)
theorem oX2_wordLine_11 : OpS mX2_wordLine 11 (o_callV mX2_skip 2 1 14) := s_callV ceX2_skip clsX2 (Or.inl wd_972) wd_974 selX2_skip (by decide +kernel : decode cX2_wordLine 11 = .ok (.invokevirtual 42, 3))
theorem oX2_wordLine_14 : OpS mX2_wordLine 14 (o_if (fun x => x = 0) 55 17) := s_if_eq (by decide +kernel : decode cX2_wordLine 14 = .ok (.ifCond .eq 41, 3)) (by decide)
theorem oX2_wordLine_17 : OpS mX2_wordLine 17 (o_aload 0 18) := s_aload_n (by decide +kernel : decode cX2_wordLine 17 = .ok (.aload_n 0, 1)) rfl
theorem oX2_wordLine_18 : OpS mX2_wordLine 18 (o_const (.int 2) 19) := s_iconst (by decide +kernel : decode cX2_wordLine 18 = .ok (.iconst 2, 1)) (by decide)
theorem oX2_wordLine_19 : OpS mX2_wordLine 19 (o_callV mX2_skip 2 1 22) := s_callV ceX2_skip clsX2 (Or.inl wd_972) wd_974 selX2_skip (by decide +kernel : decode cX2_wordLine 19 = .ok (.invokevirtual 42, 3))
theorem oX2_wordLine_22 : OpS mX2_wordLine 22 (o_if (fun x => x = 0) 55 25) := s_if_eq (by decide +kernel : decode cX2_wordLine 22 = .ok (.ifCond .eq 33, 3)) (by decide)
theorem oX2_wordLine_25 : OpS mX2_wordLine 25 (o_aload 0 26) := s_aload_n (by decide +kernel : decode cX2_wordLine 25 = .ok (.aload_n 0, 1)) rfl
theorem oX2_wordLine_26 : OpS mX2_wordLine 26 (o_const (.int 21) 28) := s_bipush (by decide +kernel : decode cX2_wordLine 26 = .ok (.bipush 21, 2)) (by decide)
theorem oX2_wordLine_28 : OpS mX2_wordLine 28 (o_callV mX2_skip 2 1 31) := s_callV ceX2_skip clsX2 (Or.inl wd_972) wd_974 selX2_skip (by decide +kernel : decode cX2_wordLine 28 = .ok (.invokevirtual 42, 3))
theorem oX2_wordLine_31 : OpS mX2_wordLine 31 (o_if (fun x => x = 0) 55 34) := s_if_eq (by decide +kernel : decode cX2_wordLine 31 = .ok (.ifCond .eq 24, 3)) (by decide)
theorem oX2_wordLine_34 : OpS mX2_wordLine 34 (o_aload 0 35) := s_aload_n (by decide +kernel : decode cX2_wordLine 34 = .ok (.aload_n 0, 1)) rfl
theorem oX2_wordLine_35 : OpS mX2_wordLine 35 (o_const (.int 3) 36) := s_iconst (by decide +kernel : decode cX2_wordLine 35 = .ok (.iconst 3, 1)) (by decide)
theorem oX2_wordLine_36 : OpS mX2_wordLine 36 (o_callV mX2_skip 2 1 39) := s_callV ceX2_skip clsX2 (Or.inl wd_972) wd_974 selX2_skip (by decide +kernel : decode cX2_wordLine 36 = .ok (.invokevirtual 42, 3))
theorem oX2_wordLine_39 : OpS mX2_wordLine 39 (o_if (fun x => x = 0) 51 42) := s_if_eq (by decide +kernel : decode cX2_wordLine 39 = .ok (.ifCond .eq 12, 3)) (by decide)
theorem oX2_wordLine_42 : OpS mX2_wordLine 42 (o_aload 0 43) := s_aload_n (by decide +kernel : decode cX2_wordLine 42 = .ok (.aload_n 0, 1)) rfl
theorem oX2_wordLine_43 : OpS mX2_wordLine 43 (o_const (.int 20) 45) := s_bipush (by decide +kernel : decode cX2_wordLine 43 = .ok (.bipush 20, 2)) (by decide)
theorem oX2_wordLine_45 : OpS mX2_wordLine 45 (o_callV mX2_skip 2 1 48) := s_callV ceX2_skip clsX2 (Or.inl wd_972) wd_974 selX2_skip (by decide +kernel : decode cX2_wordLine 45 = .ok (.invokevirtual 42, 3))
theorem oX2_wordLine_48 : OpS mX2_wordLine 48 (o_if (fun x => x = 0) 55 51) := s_if_eq (by decide +kernel : decode cX2_wordLine 48 = .ok (.ifCond .eq 7, 3)) (by decide)
theorem oX2_wordLine_51 : OpS mX2_wordLine 51 (o_const (.int 1) 52) := s_iconst (by decide +kernel : decode cX2_wordLine 51 = .ok (.iconst 1, 1)) (by decide)
theorem oX2_wordLine_52 : OpS mX2_wordLine 52 (o_goto 56) := s_goto (by decide +kernel : decode cX2_wordLine 52 = .ok (.goto 4, 3)) (by decide)
theorem oX2_wordLine_55 : OpS mX2_wordLine 55 (o_const (.int 0) 56) := s_iconst (by decide +kernel : decode cX2_wordLine 55 = .ok (.iconst 0, 1)) (by decide)
theorem oX2_wordLine_56 : OpS mX2_wordLine 56 (o_zret) := s_zret rfl (by decide +kernel : decode cX2_wordLine 56 = .ok (.ireturn, 1))
theorem oX2_keyRows_0 : OpS mX2_keyRows 0 (o_aload 0 1) := s_aload_n (by decide +kernel : decode cX2_keyRows 0 = .ok (.aload_n 0, 1)) rfl
theorem oX2_keyRows_1 : OpS mX2_keyRows 1 (o_const (.int 4) 2) := s_iconst (by decide +kernel : decode cX2_keyRows 1 = .ok (.iconst 4, 1)) (by decide)
theorem oX2_keyRows_2 : OpS mX2_keyRows 2 (o_callV mX2_skip 2 1 5) := s_callV ceX2_skip clsX2 (Or.inl wd_972) wd_974 selX2_skip (by decide +kernel : decode cX2_keyRows 2 = .ok (.invokevirtual 42, 3))
theorem oX2_keyRows_5 : OpS mX2_keyRows 5 (o_if (fun x => x = 0) 21 8) := s_if_eq (by decide +kernel : decode cX2_keyRows 5 = .ok (.ifCond .eq 16, 3)) (by decide)
theorem oX2_keyRows_8 : OpS mX2_keyRows 8 (o_aload 0 9) := s_aload_n (by decide +kernel : decode cX2_keyRows 8 = .ok (.aload_n 0, 1)) rfl
theorem oX2_keyRows_9 : OpS mX2_keyRows 9 (o_const (.int 20) 11) := s_bipush (by decide +kernel : decode cX2_keyRows 9 = .ok (.bipush 20, 2)) (by decide)
theorem oX2_keyRows_11 : OpS mX2_keyRows 11 (o_callV mX2_skip 2 1 14) := s_callV ceX2_skip clsX2 (Or.inl wd_972) wd_974 selX2_skip (by decide +kernel : decode cX2_keyRows 11 = .ok (.invokevirtual 42, 3))
theorem oX2_keyRows_14 : OpS mX2_keyRows 14 (o_if (fun x => x = 0) 21 17) := s_if_eq (by decide +kernel : decode cX2_keyRows 14 = .ok (.ifCond .eq 7, 3)) (by decide)
theorem oX2_keyRows_17 : OpS mX2_keyRows 17 (o_const (.int 1) 18) := s_iconst (by decide +kernel : decode cX2_keyRows 17 = .ok (.iconst 1, 1)) (by decide)
theorem oX2_keyRows_18 : OpS mX2_keyRows 18 (o_goto 22) := s_goto (by decide +kernel : decode cX2_keyRows 18 = .ok (.goto 4, 3)) (by decide)
theorem oX2_keyRows_21 : OpS mX2_keyRows 21 (o_const (.int 0) 22) := s_iconst (by decide +kernel : decode cX2_keyRows 21 = .ok (.iconst 0, 1)) (by decide)
theorem oX2_keyRows_22 : OpS mX2_keyRows 22 (o_istore 1 3 23) := s_istore_n (by decide +kernel : decode cX2_keyRows 22 = .ok (.istore_n 1, 1)) rfl rfl
theorem oX2_keyRows_23 : OpS mX2_keyRows 23 (o_const (.int 0) 24) := s_iconst (by decide +kernel : decode cX2_keyRows 23 = .ok (.iconst 0, 1)) (by decide)
theorem oX2_keyRows_24 : OpS mX2_keyRows 24 (o_istore 2 3 25) := s_istore_n (by decide +kernel : decode cX2_keyRows 24 = .ok (.istore_n 2, 1)) rfl rfl
theorem oX2_keyRows_25 : OpS mX2_keyRows 25 (o_iload 2 26) := s_iload_n (by decide +kernel : decode cX2_keyRows 25 = .ok (.iload_n 2, 1)) rfl
theorem oX2_keyRows_26 : OpS mX2_keyRows 26 (o_const (.int 400) 29) := s_sipush (by decide +kernel : decode cX2_keyRows 26 = .ok (.sipush 400, 3)) (by decide)
theorem oX2_keyRows_29 : OpS mX2_keyRows 29 (o_icmp (fun x y => y ≤ x) 58 32) := s_icmp_ge (by decide +kernel : decode cX2_keyRows 29 = .ok (.if_icmp .ge 29, 3)) (by decide)
theorem oX2_keyRows_32 : OpS mX2_keyRows 32 (o_iload 1 33) := s_iload_n (by decide +kernel : decode cX2_keyRows 32 = .ok (.iload_n 1, 1)) rfl
theorem oX2_keyRows_33 : OpS mX2_keyRows 33 (o_if (fun x => x = 0) 58 36) := s_if_eq (by decide +kernel : decode cX2_keyRows 33 = .ok (.ifCond .eq 25, 3)) (by decide)
theorem oX2_keyRows_36 : OpS mX2_keyRows 36 (o_aload 0 37) := s_aload_n (by decide +kernel : decode cX2_keyRows 36 = .ok (.aload_n 0, 1)) rfl
theorem oX2_keyRows_37 : OpS mX2_keyRows 37 (o_const (.int 44) 39) := s_bipush (by decide +kernel : decode cX2_keyRows 37 = .ok (.bipush 44, 2)) (by decide)
theorem oX2_keyRows_39 : OpS mX2_keyRows 39 (o_callV mX2_skip 2 1 42) := s_callV ceX2_skip clsX2 (Or.inl wd_972) wd_974 selX2_skip (by decide +kernel : decode cX2_keyRows 39 = .ok (.invokevirtual 42, 3))
theorem oX2_keyRows_42 : OpS mX2_keyRows 42 (o_if (fun x => x = 0) 58 45) := s_if_eq (by decide +kernel : decode cX2_keyRows 42 = .ok (.ifCond .eq 16, 3)) (by decide)
theorem oX2_keyRows_45 : OpS mX2_keyRows 45 (o_aload 0 46) := s_aload_n (by decide +kernel : decode cX2_keyRows 45 = .ok (.aload_n 0, 1)) rfl
theorem oX2_keyRows_46 : OpS mX2_keyRows 46 (o_const (.int 20) 48) := s_bipush (by decide +kernel : decode cX2_keyRows 46 = .ok (.bipush 20, 2)) (by decide)
theorem oX2_keyRows_48 : OpS mX2_keyRows 48 (o_callV mX2_skip 2 1 51) := s_callV ceX2_skip clsX2 (Or.inl wd_972) wd_974 selX2_skip (by decide +kernel : decode cX2_keyRows 48 = .ok (.invokevirtual 42, 3))
theorem oX2_keyRows_51 : OpS mX2_keyRows 51 (o_istore 1 3 52) := s_istore_n (by decide +kernel : decode cX2_keyRows 51 = .ok (.istore_n 1, 1)) rfl rfl
theorem oX2_keyRows_52 : OpS mX2_keyRows 52 (o_iinc 2 3 1 55) := s_iinc (by decide +kernel : decode cX2_keyRows 52 = .ok (.iinc 2 1, 3)) (by decide) rfl
theorem oX2_keyRows_55 : OpS mX2_keyRows 55 (o_goto 25) := s_goto (by decide +kernel : decode cX2_keyRows 55 = .ok (.goto (-30), 3)) (by decide)
theorem oX2_keyRows_58 : OpS mX2_keyRows 58 (o_iload 1 59) := s_iload_n (by decide +kernel : decode cX2_keyRows 58 = .ok (.iload_n 1, 1)) rfl
theorem oX2_keyRows_59 : OpS mX2_keyRows 59 (o_zret) := s_zret rfl (by decide +kernel : decode cX2_keyRows 59 = .ok (.ireturn, 1))
theorem oX2_boost_0 : OpS mX2_boost 0 (o_aload 0 1) := s_aload_n (by decide +kernel : decode cX2_boost 0 = .ok (.aload_n 0, 1)) rfl
theorem oX2_boost_1 : OpS mX2_boost 1 (o_const (.int 5) 2) := s_iconst (by decide +kernel : decode cX2_boost 1 = .ok (.iconst 5, 1)) (by decide)
theorem oX2_boost_2 : OpS mX2_boost 2 (o_callV mX2_skip 2 1 5) := s_callV ceX2_skip clsX2 (Or.inl wd_972) wd_974 selX2_skip (by decide +kernel : decode cX2_boost 2 = .ok (.invokevirtual 42, 3))
theorem oX2_boost_5 : OpS mX2_boost 5 (o_if (fun x => x = 0) 26 8) := s_if_eq (by decide +kernel : decode cX2_boost 5 = .ok (.ifCond .eq 21, 3)) (by decide)
theorem oX2_boost_8 : OpS mX2_boost 8 (o_aload 0 9) := s_aload_n (by decide +kernel : decode cX2_boost 8 = .ok (.aload_n 0, 1)) rfl
theorem oX2_boost_9 : OpS mX2_boost 9 (o_const (.int 20) 11) := s_bipush (by decide +kernel : decode cX2_boost 9 = .ok (.bipush 20, 2)) (by decide)
theorem oX2_boost_11 : OpS mX2_boost 11 (o_callV mX2_skip 2 1 14) := s_callV ceX2_skip clsX2 (Or.inl wd_972) wd_974 selX2_skip (by decide +kernel : decode cX2_boost 11 = .ok (.invokevirtual 42, 3))
theorem oX2_boost_14 : OpS mX2_boost 14 (o_if (fun x => x = 0) 26 17) := s_if_eq (by decide +kernel : decode cX2_boost 14 = .ok (.ifCond .eq 12, 3)) (by decide)
theorem oX2_boost_17 : OpS mX2_boost 17 (o_aload 0 18) := s_aload_n (by decide +kernel : decode cX2_boost 17 = .ok (.aload_n 0, 1)) rfl
theorem oX2_boost_18 : OpS mX2_boost 18 (o_const (.int 6) 20) := s_bipush (by decide +kernel : decode cX2_boost 18 = .ok (.bipush 6, 2)) (by decide)
theorem oX2_boost_20 : OpS mX2_boost 20 (o_callV mX2_skip 2 1 23) := s_callV ceX2_skip clsX2 (Or.inl wd_972) wd_974 selX2_skip (by decide +kernel : decode cX2_boost 20 = .ok (.invokevirtual 42, 3))
theorem oX2_boost_23 : OpS mX2_boost 23 (o_if (fun x => x = 0) 26 28) := s_if_ne (by decide +kernel : decode cX2_boost 23 = .ok (.ifCond .ne 5, 3)) (by decide)
theorem oX2_boost_26 : OpS mX2_boost 26 (o_const (.int 0) 27) := s_iconst (by decide +kernel : decode cX2_boost 26 = .ok (.iconst 0, 1)) (by decide)
theorem oX2_boost_27 : OpS mX2_boost 27 (o_zret) := s_zret rfl (by decide +kernel : decode cX2_boost 27 = .ok (.ireturn, 1))
theorem oX2_boost_28 : OpS mX2_boost 28 (o_aload 0 29) := s_aload_n (by decide +kernel : decode cX2_boost 28 = .ok (.aload_n 0, 1)) rfl
theorem oX2_boost_29 : OpS mX2_boost 29 (o_getP 2 3 32) := s_getP (k := 3) clsX2 (by decide) rfl (Or.inl wd_950) (by decide +kernel : decode cX2_boost 29 = .ok (.getfield 29, 3)) rfl
theorem oX2_boost_32 : OpS mX2_boost 32 (o_callV mX1_startSum 1 0 35) := s_callV ceX1_startSum clsX1 (Or.inl wd_988) wd_989 selX1_startSum (by decide +kernel : decode cX2_boost 32 = .ok (.invokevirtual 58, 3))
theorem oX2_boost_35 : OpS mX2_boost 35 (o_aload 0 36) := s_aload_n (by decide +kernel : decode cX2_boost 35 = .ok (.aload_n 0, 1)) rfl
theorem oX2_boost_36 : OpS mX2_boost 36 (o_const (.int 0) 37) := s_iconst (by decide +kernel : decode cX2_boost 36 = .ok (.iconst 0, 1)) (by decide)
theorem oX2_boost_37 : OpS mX2_boost 37 (o_callV mX2_sum 2 1 40) := s_callV ceX2_sum clsX2 (Or.inl wd_993) wd_995 selX2_sum (by decide +kernel : decode cX2_boost 37 = .ok (.invokevirtual 63, 3))
theorem oX2_boost_40 : OpS mX2_boost 40 (o_if (fun x => x = 0) 52 43) := s_if_eq (by decide +kernel : decode cX2_boost 40 = .ok (.ifCond .eq 12, 3)) (by decide)
theorem oX2_boost_43 : OpS mX2_boost 43 (o_aload 0 44) := s_aload_n (by decide +kernel : decode cX2_boost 43 = .ok (.aload_n 0, 1)) rfl
theorem oX2_boost_44 : OpS mX2_boost 44 (o_const (.int 7) 46) := s_bipush (by decide +kernel : decode cX2_boost 44 = .ok (.bipush 7, 2)) (by decide)
theorem oX2_boost_46 : OpS mX2_boost 46 (o_callV mX2_skip 2 1 49) := s_callV ceX2_skip clsX2 (Or.inl wd_972) wd_974 selX2_skip (by decide +kernel : decode cX2_boost 46 = .ok (.invokevirtual 42, 3))
theorem oX2_boost_49 : OpS mX2_boost 49 (o_if (fun x => x = 0) 52 54) := s_if_ne (by decide +kernel : decode cX2_boost 49 = .ok (.ifCond .ne 5, 3)) (by decide)
theorem oX2_boost_52 : OpS mX2_boost 52 (o_const (.int 0) 53) := s_iconst (by decide +kernel : decode cX2_boost 52 = .ok (.iconst 0, 1)) (by decide)
theorem oX2_boost_53 : OpS mX2_boost 53 (o_zret) := s_zret rfl (by decide +kernel : decode cX2_boost 53 = .ok (.ireturn, 1))
theorem oX2_boost_54 : OpS mX2_boost 54 (o_aload 0 55) := s_aload_n (by decide +kernel : decode cX2_boost 54 = .ok (.aload_n 0, 1)) rfl
theorem oX2_boost_55 : OpS mX2_boost 55 (o_getP 2 3 58) := s_getP (k := 3) clsX2 (by decide) rfl (Or.inl wd_950) (by decide +kernel : decode cX2_boost 55 = .ok (.getfield 29, 3)) rfl
theorem oX2_boost_58 : OpS mX2_boost 58 (o_callV mX1_startTest 1 0 61) := s_callV ceX1_startTest clsX1 (Or.inl wd_1017) wd_1018 selX1_startTest (by decide +kernel : decode cX2_boost 58 = .ok (.invokevirtual 66, 3))
theorem oX2_boost_61 : OpS mX2_boost 61 (o_aload 0 62) := s_aload_n (by decide +kernel : decode cX2_boost 61 = .ok (.aload_n 0, 1)) rfl
theorem oX2_boost_62 : OpS mX2_boost 62 (o_const (.int 0) 63) := s_iconst (by decide +kernel : decode cX2_boost 62 = .ok (.iconst 0, 1)) (by decide)
theorem oX2_boost_63 : OpS mX2_boost 63 (o_callV mX2_test 2 1 66) := s_callV ceX2_test clsX2 (Or.inl wd_1021) wd_1023 selX2_test (by decide +kernel : decode cX2_boost 63 = .ok (.invokevirtual 69, 3))
theorem oX2_boost_66 : OpS mX2_boost 66 (o_istore 1 2 67) := s_istore_n (by decide +kernel : decode cX2_boost 66 = .ok (.istore_n 1, 1)) rfl rfl
theorem oX2_boost_67 : OpS mX2_boost 67 (o_aload 0 68) := s_aload_n (by decide +kernel : decode cX2_boost 67 = .ok (.aload_n 0, 1)) rfl
theorem oX2_boost_68 : OpS mX2_boost 68 (o_getP 2 3 71) := s_getP (k := 3) clsX2 (by decide) rfl (Or.inl wd_950) (by decide +kernel : decode cX2_boost 68 = .ok (.getfield 29, 3)) rfl
theorem oX2_boost_71 : OpS mX2_boost 71 (o_callV mX1_end 1 0 74) := s_callV ceX1_end clsX1 (Or.inl wd_1036) wd_1037 selX1_end (by decide +kernel : decode cX2_boost 71 = .ok (.invokevirtual 72, 3))
theorem oX2_boost_74 : OpS mX2_boost 74 (o_iload 1 75) := s_iload_n (by decide +kernel : decode cX2_boost 74 = .ok (.iload_n 1, 1)) rfl
theorem oX2_boost_75 : OpS mX2_boost 75 (o_zret) := s_zret rfl (by decide +kernel : decode cX2_boost 75 = .ok (.ireturn, 1))
theorem oX2_test_0 : OpS mX2_test 0 (o_aload 0 1) := s_aload_n (by decide +kernel : decode cX2_test 0 = .ok (.aload_n 0, 1)) rfl
theorem oX2_test_1 : OpS mX2_test 1 (o_iload 1 2) := s_iload_n (by decide +kernel : decode cX2_test 1 = .ok (.iload_n 1, 1)) rfl
theorem oX2_test_2 : OpS mX2_test 2 (o_callV mX2_both 2 1 5) := s_callV ceX2_both clsX2 (Or.inl wd_1025) wd_1027 selX2_both (by decide +kernel : decode cX2_test 2 = .ok (.invokevirtual 75, 3))
theorem oX2_test_5 : OpS mX2_test 5 (o_istore 2 4 6) := s_istore_n (by decide +kernel : decode cX2_test 5 = .ok (.istore_n 2, 1)) rfl rfl
theorem oX2_test_6 : OpS mX2_test 6 (o_const (.int 0) 7) := s_iconst (by decide +kernel : decode cX2_test 6 = .ok (.iconst 0, 1)) (by decide)
theorem oX2_test_7 : OpS mX2_test 7 (o_istore 3 4 8) := s_istore_n (by decide +kernel : decode cX2_test 7 = .ok (.istore_n 3, 1)) rfl rfl
theorem oX2_test_8 : OpS mX2_test 8 (o_iload 3 9) := s_iload_n (by decide +kernel : decode cX2_test 8 = .ok (.iload_n 3, 1)) rfl
theorem oX2_test_9 : OpS mX2_test 9 (o_const (.int 400) 12) := s_sipush (by decide +kernel : decode cX2_test 9 = .ok (.sipush 400, 3)) (by decide)
theorem oX2_test_12 : OpS mX2_test 12 (o_icmp (fun x y => y ≤ x) 50 15) := s_icmp_ge (by decide +kernel : decode cX2_test 12 = .ok (.if_icmp .ge 38, 3)) (by decide)
theorem oX2_test_15 : OpS mX2_test 15 (o_iload 2 16) := s_iload_n (by decide +kernel : decode cX2_test 15 = .ok (.iload_n 2, 1)) rfl
theorem oX2_test_16 : OpS mX2_test 16 (o_if (fun x => x = 0) 50 19) := s_if_eq (by decide +kernel : decode cX2_test 16 = .ok (.ifCond .eq 34, 3)) (by decide)
theorem oX2_test_19 : OpS mX2_test 19 (o_aload 0 20) := s_aload_n (by decide +kernel : decode cX2_test 19 = .ok (.aload_n 0, 1)) rfl
theorem oX2_test_20 : OpS mX2_test 20 (o_const (.int 16) 22) := s_bipush (by decide +kernel : decode cX2_test 20 = .ok (.bipush 16, 2)) (by decide)
theorem oX2_test_22 : OpS mX2_test 22 (o_callV mX2_skip 2 1 25) := s_callV ceX2_skip clsX2 (Or.inl wd_972) wd_974 selX2_skip (by decide +kernel : decode cX2_test 22 = .ok (.invokevirtual 42, 3))
theorem oX2_test_25 : OpS mX2_test 25 (o_if (fun x => x = 0) 50 28) := s_if_eq (by decide +kernel : decode cX2_test 25 = .ok (.ifCond .eq 25, 3)) (by decide)
theorem oX2_test_28 : OpS mX2_test 28 (o_aload 0 29) := s_aload_n (by decide +kernel : decode cX2_test 28 = .ok (.aload_n 0, 1)) rfl
theorem oX2_test_29 : OpS mX2_test 29 (o_iload 1 30) := s_iload_n (by decide +kernel : decode cX2_test 29 = .ok (.iload_n 1, 1)) rfl
theorem oX2_test_30 : OpS mX2_test 30 (o_callV mX2_both 2 1 33) := s_callV ceX2_both clsX2 (Or.inl wd_1025) wd_1027 selX2_both (by decide +kernel : decode cX2_test 30 = .ok (.invokevirtual 75, 3))
theorem oX2_test_33 : OpS mX2_test 33 (o_istore 2 4 34) := s_istore_n (by decide +kernel : decode cX2_test 33 = .ok (.istore_n 2, 1)) rfl rfl
theorem oX2_test_34 : OpS mX2_test 34 (o_aload 0 35) := s_aload_n (by decide +kernel : decode cX2_test 34 = .ok (.aload_n 0, 1)) rfl
theorem oX2_test_35 : OpS mX2_test 35 (o_getP 2 3 38) := s_getP (k := 3) clsX2 (by decide) rfl (Or.inl wd_950) (by decide +kernel : decode cX2_test 35 = .ok (.getfield 29, 3)) rfl
theorem oX2_test_38 : OpS mX2_test 38 (o_const (.int 16) 40) := s_bipush (by decide +kernel : decode cX2_test 38 = .ok (.bipush 16, 2)) (by decide)
theorem oX2_test_40 : OpS mX2_test 40 (o_const (.int 0) 41) := s_iconst (by decide +kernel : decode cX2_test 40 = .ok (.iconst 0, 1)) (by decide)
theorem oX2_test_41 : OpS mX2_test 41 (o_callV mX1_addStep 1 2 44) := s_callV ceX1_addStep clsX1 (Or.inl wd_1009) wd_1010 selX1_addStep (by decide +kernel : decode cX2_test 41 = .ok (.invokevirtual 78, 3))
theorem oX2_test_44 : OpS mX2_test 44 (o_iinc 3 4 1 47) := s_iinc (by decide +kernel : decode cX2_test 44 = .ok (.iinc 3 1, 3)) (by decide) rfl
theorem oX2_test_47 : OpS mX2_test 47 (o_goto 8) := s_goto (by decide +kernel : decode cX2_test 47 = .ok (.goto (-39), 3)) (by decide)
theorem oX2_test_50 : OpS mX2_test 50 (o_iload 2 51) := s_iload_n (by decide +kernel : decode cX2_test 50 = .ok (.iload_n 2, 1)) rfl
theorem oX2_test_51 : OpS mX2_test 51 (o_zret) := s_zret rfl (by decide +kernel : decode cX2_test 51 = .ok (.ireturn, 1))
theorem oX2_both_0 : OpS mX2_both 0 (o_aload 0 1) := s_aload_n (by decide +kernel : decode cX2_both 0 = .ok (.aload_n 0, 1)) rfl
theorem oX2_both_1 : OpS mX2_both 1 (o_iload 1 2) := s_iload_n (by decide +kernel : decode cX2_both 1 = .ok (.iload_n 1, 1)) rfl
theorem oX2_both_2 : OpS mX2_both 2 (o_callV mX2_single 2 1 5) := s_callV ceX2_single clsX2 (Or.inl wd_1029) wd_1031 selX2_single (by decide +kernel : decode cX2_both 2 = .ok (.invokevirtual 82, 3))
theorem oX2_both_5 : OpS mX2_both 5 (o_istore 2 4 6) := s_istore_n (by decide +kernel : decode cX2_both 5 = .ok (.istore_n 2, 1)) rfl rfl
theorem oX2_both_6 : OpS mX2_both 6 (o_const (.int 0) 7) := s_iconst (by decide +kernel : decode cX2_both 6 = .ok (.iconst 0, 1)) (by decide)
theorem oX2_both_7 : OpS mX2_both 7 (o_istore 3 4 8) := s_istore_n (by decide +kernel : decode cX2_both 7 = .ok (.istore_n 3, 1)) rfl rfl
theorem oX2_both_8 : OpS mX2_both 8 (o_iload 3 9) := s_iload_n (by decide +kernel : decode cX2_both 8 = .ok (.iload_n 3, 1)) rfl
theorem oX2_both_9 : OpS mX2_both 9 (o_const (.int 400) 12) := s_sipush (by decide +kernel : decode cX2_both 9 = .ok (.sipush 400, 3)) (by decide)
theorem oX2_both_12 : OpS mX2_both 12 (o_icmp (fun x y => y ≤ x) 50 15) := s_icmp_ge (by decide +kernel : decode cX2_both 12 = .ok (.if_icmp .ge 38, 3)) (by decide)
theorem oX2_both_15 : OpS mX2_both 15 (o_iload 2 16) := s_iload_n (by decide +kernel : decode cX2_both 15 = .ok (.iload_n 2, 1)) rfl
theorem oX2_both_16 : OpS mX2_both 16 (o_if (fun x => x = 0) 50 19) := s_if_eq (by decide +kernel : decode cX2_both 16 = .ok (.ifCond .eq 34, 3)) (by decide)
theorem oX2_both_19 : OpS mX2_both 19 (o_aload 0 20) := s_aload_n (by decide +kernel : decode cX2_both 19 = .ok (.aload_n 0, 1)) rfl
theorem oX2_both_20 : OpS mX2_both 20 (o_const (.int 15) 22) := s_bipush (by decide +kernel : decode cX2_both 20 = .ok (.bipush 15, 2)) (by decide)
theorem oX2_both_22 : OpS mX2_both 22 (o_callV mX2_skip 2 1 25) := s_callV ceX2_skip clsX2 (Or.inl wd_972) wd_974 selX2_skip (by decide +kernel : decode cX2_both 22 = .ok (.invokevirtual 42, 3))
theorem oX2_both_25 : OpS mX2_both 25 (o_if (fun x => x = 0) 50 28) := s_if_eq (by decide +kernel : decode cX2_both 25 = .ok (.ifCond .eq 25, 3)) (by decide)
theorem oX2_both_28 : OpS mX2_both 28 (o_aload 0 29) := s_aload_n (by decide +kernel : decode cX2_both 28 = .ok (.aload_n 0, 1)) rfl
theorem oX2_both_29 : OpS mX2_both 29 (o_iload 1 30) := s_iload_n (by decide +kernel : decode cX2_both 29 = .ok (.iload_n 1, 1)) rfl
theorem oX2_both_30 : OpS mX2_both 30 (o_callV mX2_single 2 1 33) := s_callV ceX2_single clsX2 (Or.inl wd_1029) wd_1031 selX2_single (by decide +kernel : decode cX2_both 30 = .ok (.invokevirtual 82, 3))
theorem oX2_both_33 : OpS mX2_both 33 (o_istore 2 4 34) := s_istore_n (by decide +kernel : decode cX2_both 33 = .ok (.istore_n 2, 1)) rfl rfl
theorem oX2_both_34 : OpS mX2_both 34 (o_aload 0 35) := s_aload_n (by decide +kernel : decode cX2_both 34 = .ok (.aload_n 0, 1)) rfl
theorem oX2_both_35 : OpS mX2_both 35 (o_getP 2 3 38) := s_getP (k := 3) clsX2 (by decide) rfl (Or.inl wd_950) (by decide +kernel : decode cX2_both 35 = .ok (.getfield 29, 3)) rfl
theorem oX2_both_38 : OpS mX2_both 38 (o_const (.int 15) 40) := s_bipush (by decide +kernel : decode cX2_both 38 = .ok (.bipush 15, 2)) (by decide)
theorem oX2_both_40 : OpS mX2_both 40 (o_const (.int 0) 41) := s_iconst (by decide +kernel : decode cX2_both 40 = .ok (.iconst 0, 1)) (by decide)
theorem oX2_both_41 : OpS mX2_both 41 (o_callV mX1_addStep 1 2 44) := s_callV ceX1_addStep clsX1 (Or.inl wd_1009) wd_1010 selX1_addStep (by decide +kernel : decode cX2_both 41 = .ok (.invokevirtual 78, 3))
theorem oX2_both_44 : OpS mX2_both 44 (o_iinc 3 4 1 47) := s_iinc (by decide +kernel : decode cX2_both 44 = .ok (.iinc 3 1, 3)) (by decide) rfl
theorem oX2_both_47 : OpS mX2_both 47 (o_goto 8) := s_goto (by decide +kernel : decode cX2_both 47 = .ok (.goto (-39), 3)) (by decide)
theorem oX2_both_50 : OpS mX2_both 50 (o_iload 2 51) := s_iload_n (by decide +kernel : decode cX2_both 50 = .ok (.iload_n 2, 1)) rfl
theorem oX2_both_51 : OpS mX2_both 51 (o_zret) := s_zret rfl (by decide +kernel : decode cX2_both 51 = .ok (.ireturn, 1))
theorem oX2_single_0 : OpS mX2_single 0 (o_aload 0 1) := s_aload_n (by decide +kernel : decode cX2_single 0 = .ok (.aload_n 0, 1)) rfl
theorem oX2_single_1 : OpS mX2_single 1 (o_getP 2 1 4) := s_getP (k := 1) clsX2 (by decide) rfl (Or.inl wd_948) (by decide +kernel : decode cX2_single 1 = .ok (.getfield 25, 3)) rfl
theorem oX2_single_4 : OpS mX2_single 4 (o_aload 0 5) := s_aload_n (by decide +kernel : decode cX2_single 4 = .ok (.aload_n 0, 1)) rfl
theorem oX2_single_5 : OpS mX2_single 5 (o_getI 2 4 8) := s_getI (k := 4) clsX2 (by decide) rfl (Or.inl wd_951) (by decide +kernel : decode cX2_single 5 = .ok (.getfield 9, 3)) rfl
theorem oX2_single_8 : OpS mX2_single 8 (o_callV mX9_at 9 1 11) := s_callV ceX9_at clsX9 (Or.inl wd_971) wd_133 selX9_at (by decide +kernel : decode cX2_single 8 = .ok (.invokevirtual 37, 3))
theorem oX2_single_11 : OpS mX2_single 11 (o_istore 2 4 12) := s_istore_n (by decide +kernel : decode cX2_single 11 = .ok (.istore_n 2, 1)) rfl rfl
theorem oX2_single_12 : OpS mX2_single 12 (o_iload 2 13) := s_iload_n (by decide +kernel : decode cX2_single 12 = .ok (.iload_n 2, 1)) rfl
theorem oX2_single_13 : OpS mX2_single 13 (o_sw [(12, 132), (13, 132), (14, 56), (91, 93)] 169) := s_lsw (by decide +kernel : decode cX2_single 13 = .ok (.lookupswitch 156 #[(12, 119), (13, 119), (14, 43), (91, 80)], 43)) (by decide) (by decide) (by decide)
theorem oX2_single_56 : OpS mX2_single 56 (o_iload 1 57) := s_iload_n (by decide +kernel : decode cX2_single 56 = .ok (.iload_n 1, 1)) rfl
theorem oX2_single_57 : OpS mX2_single 57 (o_const (.int 8) 59) := s_bipush (by decide +kernel : decode cX2_single 57 = .ok (.bipush 8, 2)) (by decide)
theorem oX2_single_59 : OpS mX2_single 59 (o_icmp (fun x y => y ≤ x) 80 62) := s_icmp_ge (by decide +kernel : decode cX2_single 59 = .ok (.if_icmp .ge 21, 3)) (by decide)
theorem oX2_single_62 : OpS mX2_single 62 (o_aload 0 63) := s_aload_n (by decide +kernel : decode cX2_single 62 = .ok (.aload_n 0, 1)) rfl
theorem oX2_single_63 : OpS mX2_single 63 (o_iload 2 64) := s_iload_n (by decide +kernel : decode cX2_single 63 = .ok (.iload_n 2, 1)) rfl
theorem oX2_single_64 : OpS mX2_single 64 (o_callV mX2_skip 2 1 67) := s_callV ceX2_skip clsX2 (Or.inl wd_972) wd_974 selX2_skip (by decide +kernel : decode cX2_single 64 = .ok (.invokevirtual 42, 3))
theorem oX2_single_67 : OpS mX2_single 67 (o_if (fun x => x = 0) 80 70) := s_if_eq (by decide +kernel : decode cX2_single 67 = .ok (.ifCond .eq 13, 3)) (by decide)
theorem oX2_single_70 : OpS mX2_single 70 (o_aload 0 71) := s_aload_n (by decide +kernel : decode cX2_single 70 = .ok (.aload_n 0, 1)) rfl
theorem oX2_single_71 : OpS mX2_single 71 (o_iload 1 72) := s_iload_n (by decide +kernel : decode cX2_single 71 = .ok (.iload_n 1, 1)) rfl
theorem oX2_single_72 : OpS mX2_single 72 (o_const (.int 1) 73) := s_iconst (by decide +kernel : decode cX2_single 72 = .ok (.iconst 1, 1)) (by decide)
theorem oX2_single_73 : OpS mX2_single 73 (o_ibin (fun x y => x + y) 74) := s_iadd (by decide +kernel : decode cX2_single 73 = .ok (.iadd, 1))
theorem oX2_single_74 : OpS mX2_single 74 (o_callV mX2_single 2 1 77) := s_callV ceX2_single clsX2 (Or.inl wd_1029) wd_1031 selX2_single (by decide +kernel : decode cX2_single 74 = .ok (.invokevirtual 82, 3))
theorem oX2_single_77 : OpS mX2_single 77 (o_if (fun x => x = 0) 80 82) := s_if_ne (by decide +kernel : decode cX2_single 77 = .ok (.ifCond .ne 5, 3)) (by decide)
theorem oX2_single_80 : OpS mX2_single 80 (o_const (.int 0) 81) := s_iconst (by decide +kernel : decode cX2_single 80 = .ok (.iconst 0, 1)) (by decide)
theorem oX2_single_81 : OpS mX2_single 81 (o_zret) := s_zret rfl (by decide +kernel : decode cX2_single 81 = .ok (.ireturn, 1))
theorem oX2_single_82 : OpS mX2_single 82 (o_aload 0 83) := s_aload_n (by decide +kernel : decode cX2_single 82 = .ok (.aload_n 0, 1)) rfl
theorem oX2_single_83 : OpS mX2_single 83 (o_getP 2 3 86) := s_getP (k := 3) clsX2 (by decide) rfl (Or.inl wd_950) (by decide +kernel : decode cX2_single 83 = .ok (.getfield 29, 3)) rfl
theorem oX2_single_86 : OpS mX2_single 86 (o_iload 2 87) := s_iload_n (by decide +kernel : decode cX2_single 86 = .ok (.iload_n 2, 1)) rfl
theorem oX2_single_87 : OpS mX2_single 87 (o_const (.int 0) 88) := s_iconst (by decide +kernel : decode cX2_single 87 = .ok (.iconst 0, 1)) (by decide)
theorem oX2_single_88 : OpS mX2_single 88 (o_callV mX1_addStep 1 2 91) := s_callV ceX1_addStep clsX1 (Or.inl wd_1009) wd_1010 selX1_addStep (by decide +kernel : decode cX2_single 88 = .ok (.invokevirtual 78, 3))
theorem oX2_single_91 : OpS mX2_single 91 (o_const (.int 1) 92) := s_iconst (by decide +kernel : decode cX2_single 91 = .ok (.iconst 1, 1)) (by decide)
theorem oX2_single_92 : OpS mX2_single 92 (o_zret) := s_zret rfl (by decide +kernel : decode cX2_single 92 = .ok (.ireturn, 1))
theorem oX2_single_93 : OpS mX2_single 93 (o_iload 1 94) := s_iload_n (by decide +kernel : decode cX2_single 93 = .ok (.iload_n 1, 1)) rfl
theorem oX2_single_94 : OpS mX2_single 94 (o_const (.int 8) 96) := s_bipush (by decide +kernel : decode cX2_single 94 = .ok (.bipush 8, 2)) (by decide)
theorem oX2_single_96 : OpS mX2_single 96 (o_icmp (fun x y => y ≤ x) 130 99) := s_icmp_ge (by decide +kernel : decode cX2_single 96 = .ok (.if_icmp .ge 34, 3)) (by decide)
theorem oX2_single_99 : OpS mX2_single 99 (o_aload 0 100) := s_aload_n (by decide +kernel : decode cX2_single 99 = .ok (.aload_n 0, 1)) rfl
theorem oX2_single_100 : OpS mX2_single 100 (o_iload 2 101) := s_iload_n (by decide +kernel : decode cX2_single 100 = .ok (.iload_n 2, 1)) rfl
theorem oX2_single_101 : OpS mX2_single 101 (o_callV mX2_skip 2 1 104) := s_callV ceX2_skip clsX2 (Or.inl wd_972) wd_974 selX2_skip (by decide +kernel : decode cX2_single 101 = .ok (.invokevirtual 42, 3))
theorem oX2_single_104 : OpS mX2_single 104 (o_if (fun x => x = 0) 130 107) := s_if_eq (by decide +kernel : decode cX2_single 104 = .ok (.ifCond .eq 26, 3)) (by decide)
theorem oX2_single_107 : OpS mX2_single 107 (o_aload 0 108) := s_aload_n (by decide +kernel : decode cX2_single 107 = .ok (.aload_n 0, 1)) rfl
theorem oX2_single_108 : OpS mX2_single 108 (o_iload 1 109) := s_iload_n (by decide +kernel : decode cX2_single 108 = .ok (.iload_n 1, 1)) rfl
theorem oX2_single_109 : OpS mX2_single 109 (o_const (.int 1) 110) := s_iconst (by decide +kernel : decode cX2_single 109 = .ok (.iconst 1, 1)) (by decide)
theorem oX2_single_110 : OpS mX2_single 110 (o_ibin (fun x y => x + y) 111) := s_iadd (by decide +kernel : decode cX2_single 110 = .ok (.iadd, 1))
theorem oX2_single_111 : OpS mX2_single 111 (o_callV mX2_test 2 1 114) := s_callV ceX2_test clsX2 (Or.inl wd_1021) wd_1023 selX2_test (by decide +kernel : decode cX2_single 111 = .ok (.invokevirtual 69, 3))
theorem oX2_single_114 : OpS mX2_single 114 (o_if (fun x => x = 0) 130 117) := s_if_eq (by decide +kernel : decode cX2_single 114 = .ok (.ifCond .eq 16, 3)) (by decide)
theorem oX2_single_117 : OpS mX2_single 117 (o_aload 0 118) := s_aload_n (by decide +kernel : decode cX2_single 117 = .ok (.aload_n 0, 1)) rfl
theorem oX2_single_118 : OpS mX2_single 118 (o_const (.int 93) 120) := s_bipush (by decide +kernel : decode cX2_single 118 = .ok (.bipush 93, 2)) (by decide)
theorem oX2_single_120 : OpS mX2_single 120 (o_callV mX2_skip 2 1 123) := s_callV ceX2_skip clsX2 (Or.inl wd_972) wd_974 selX2_skip (by decide +kernel : decode cX2_single 120 = .ok (.invokevirtual 42, 3))
theorem oX2_single_123 : OpS mX2_single 123 (o_if (fun x => x = 0) 130 126) := s_if_eq (by decide +kernel : decode cX2_single 123 = .ok (.ifCond .eq 7, 3)) (by decide)
theorem oX2_single_126 : OpS mX2_single 126 (o_const (.int 1) 127) := s_iconst (by decide +kernel : decode cX2_single 126 = .ok (.iconst 1, 1)) (by decide)
theorem oX2_single_127 : OpS mX2_single 127 (o_goto 131) := s_goto (by decide +kernel : decode cX2_single 127 = .ok (.goto 4, 3)) (by decide)
theorem oX2_single_130 : OpS mX2_single 130 (o_const (.int 0) 131) := s_iconst (by decide +kernel : decode cX2_single 130 = .ok (.iconst 0, 1)) (by decide)
theorem oX2_single_131 : OpS mX2_single 131 (o_zret) := s_zret rfl (by decide +kernel : decode cX2_single 131 = .ok (.ireturn, 1))
theorem oX2_single_132 : OpS mX2_single 132 (o_aload 0 133) := s_aload_n (by decide +kernel : decode cX2_single 132 = .ok (.aload_n 0, 1)) rfl
theorem oX2_single_133 : OpS mX2_single 133 (o_getP 2 3 136) := s_getP (k := 3) clsX2 (by decide) rfl (Or.inl wd_950) (by decide +kernel : decode cX2_single 133 = .ok (.getfield 29, 3)) rfl
theorem oX2_single_136 : OpS mX2_single 136 (o_iload 2 137) := s_iload_n (by decide +kernel : decode cX2_single 136 = .ok (.iload_n 2, 1)) rfl
theorem oX2_single_137 : OpS mX2_single 137 (o_aload 0 138) := s_aload_n (by decide +kernel : decode cX2_single 137 = .ok (.aload_n 0, 1)) rfl
theorem oX2_single_138 : OpS mX2_single 138 (o_getI 2 4 141) := s_getI (k := 4) clsX2 (by decide) rfl (Or.inl wd_951) (by decide +kernel : decode cX2_single 138 = .ok (.getfield 9, 3)) rfl
theorem oX2_single_141 : OpS mX2_single 141 (o_const (.int 1) 142) := s_iconst (by decide +kernel : decode cX2_single 141 = .ok (.iconst 1, 1)) (by decide)
theorem oX2_single_142 : OpS mX2_single 142 (o_ibin (fun x y => x + y) 143) := s_iadd (by decide +kernel : decode cX2_single 142 = .ok (.iadd, 1))
theorem oX2_single_143 : OpS mX2_single 143 (o_callV mX1_addStep 1 2 146) := s_callV ceX1_addStep clsX1 (Or.inl wd_1009) wd_1010 selX1_addStep (by decide +kernel : decode cX2_single 143 = .ok (.invokevirtual 78, 3))
theorem oX2_single_146 : OpS mX2_single 146 (o_aload 0 147) := s_aload_n (by decide +kernel : decode cX2_single 146 = .ok (.aload_n 0, 1)) rfl
theorem oX2_single_147 : OpS mX2_single 147 (o_iload 2 148) := s_iload_n (by decide +kernel : decode cX2_single 147 = .ok (.iload_n 2, 1)) rfl
theorem oX2_single_148 : OpS mX2_single 148 (o_callV mX2_skip 2 1 151) := s_callV ceX2_skip clsX2 (Or.inl wd_972) wd_974 selX2_skip (by decide +kernel : decode cX2_single 148 = .ok (.invokevirtual 42, 3))
theorem oX2_single_151 : OpS mX2_single 151 (o_if (fun x => x = 0) 167 154) := s_if_eq (by decide +kernel : decode cX2_single 151 = .ok (.ifCond .eq 16, 3)) (by decide)
theorem oX2_single_154 : OpS mX2_single 154 (o_aload 0 155) := s_aload_n (by decide +kernel : decode cX2_single 154 = .ok (.aload_n 0, 1)) rfl
theorem oX2_single_155 : OpS mX2_single 155 (o_const (.int 20) 157) := s_bipush (by decide +kernel : decode cX2_single 155 = .ok (.bipush 20, 2)) (by decide)
theorem oX2_single_157 : OpS mX2_single 157 (o_callV mX2_skip 2 1 160) := s_callV ceX2_skip clsX2 (Or.inl wd_972) wd_974 selX2_skip (by decide +kernel : decode cX2_single 157 = .ok (.invokevirtual 42, 3))
theorem oX2_single_160 : OpS mX2_single 160 (o_if (fun x => x = 0) 167 163) := s_if_eq (by decide +kernel : decode cX2_single 160 = .ok (.ifCond .eq 7, 3)) (by decide)
theorem oX2_single_163 : OpS mX2_single 163 (o_const (.int 1) 164) := s_iconst (by decide +kernel : decode cX2_single 163 = .ok (.iconst 1, 1)) (by decide)
theorem oX2_single_164 : OpS mX2_single 164 (o_goto 168) := s_goto (by decide +kernel : decode cX2_single 164 = .ok (.goto 4, 3)) (by decide)
theorem oX2_single_167 : OpS mX2_single 167 (o_const (.int 0) 168) := s_iconst (by decide +kernel : decode cX2_single 167 = .ok (.iconst 0, 1)) (by decide)
theorem oX2_single_168 : OpS mX2_single 168 (o_zret) := s_zret rfl (by decide +kernel : decode cX2_single 168 = .ok (.ireturn, 1))
theorem oX2_single_169 : OpS mX2_single 169 (o_aload 0 170) := s_aload_n (by decide +kernel : decode cX2_single 169 = .ok (.aload_n 0, 1)) rfl
theorem oX2_single_170 : OpS mX2_single 170 (o_iload 1 171) := s_iload_n (by decide +kernel : decode cX2_single 170 = .ok (.iload_n 1, 1)) rfl
theorem oX2_single_171 : OpS mX2_single 171 (o_callV mX2_sum 2 1 174) := s_callV ceX2_sum clsX2 (Or.inl wd_993) wd_995 selX2_sum (by decide +kernel : decode cX2_single 171 = .ok (.invokevirtual 63, 3))
theorem oX2_single_174 : OpS mX2_single 174 (o_if (fun x => x = 0) 177 179) := s_if_ne (by decide +kernel : decode cX2_single 174 = .ok (.ifCond .ne 5, 3)) (by decide)
theorem oX2_single_177 : OpS mX2_single 177 (o_const (.int 0) 178) := s_iconst (by decide +kernel : decode cX2_single 177 = .ok (.iconst 0, 1)) (by decide)
theorem oX2_single_178 : OpS mX2_single 178 (o_zret) := s_zret rfl (by decide +kernel : decode cX2_single 178 = .ok (.ireturn, 1))
theorem oX2_single_179 : OpS mX2_single 179 (o_aload 0 180) := s_aload_n (by decide +kernel : decode cX2_single 179 = .ok (.aload_n 0, 1)) rfl
theorem oX2_single_180 : OpS mX2_single 180 (o_getP 2 1 183) := s_getP (k := 1) clsX2 (by decide) rfl (Or.inl wd_948) (by decide +kernel : decode cX2_single 180 = .ok (.getfield 25, 3)) rfl
theorem oX2_single_183 : OpS mX2_single 183 (o_aload 0 184) := s_aload_n (by decide +kernel : decode cX2_single 183 = .ok (.aload_n 0, 1)) rfl
theorem oX2_single_184 : OpS mX2_single 184 (o_getI 2 4 187) := s_getI (k := 4) clsX2 (by decide) rfl (Or.inl wd_951) (by decide +kernel : decode cX2_single 184 = .ok (.getfield 9, 3)) rfl
theorem oX2_single_187 : OpS mX2_single 187 (o_callV mX9_at 9 1 190) := s_callV ceX9_at clsX9 (Or.inl wd_971) wd_133 selX9_at (by decide +kernel : decode cX2_single 187 = .ok (.invokevirtual 37, 3))
theorem oX2_single_190 : OpS mX2_single 190 (o_istore 3 4 191) := s_istore_n (by decide +kernel : decode cX2_single 190 = .ok (.istore_n 3, 1)) rfl rfl
theorem oX2_single_191 : OpS mX2_single 191 (o_iload 3 192) := s_iload_n (by decide +kernel : decode cX2_single 191 = .ok (.iload_n 3, 1)) rfl
theorem oX2_single_192 : OpS mX2_single 192 (o_callS mX2_compares 1 195) := s_callS ceX2_compares (Or.inl wd_1033) wd_1034 (by decide +kernel : decode cX2_single 192 = .ok (.invokestatic 85, 3))
theorem oX2_single_195 : OpS mX2_single 195 (o_if (fun x => x = 0) 214 198) := s_if_eq (by decide +kernel : decode cX2_single 195 = .ok (.ifCond .eq 19, 3)) (by decide)
theorem oX2_single_198 : OpS mX2_single 198 (o_aload 0 199) := s_aload_n (by decide +kernel : decode cX2_single 198 = .ok (.aload_n 0, 1)) rfl
theorem oX2_single_199 : OpS mX2_single 199 (o_iload 3 200) := s_iload_n (by decide +kernel : decode cX2_single 199 = .ok (.iload_n 3, 1)) rfl
theorem oX2_single_200 : OpS mX2_single 200 (o_callV mX2_skip 2 1 203) := s_callV ceX2_skip clsX2 (Or.inl wd_972) wd_974 selX2_skip (by decide +kernel : decode cX2_single 200 = .ok (.invokevirtual 42, 3))
theorem oX2_single_203 : OpS mX2_single 203 (o_if (fun x => x = 0) 214 206) := s_if_eq (by decide +kernel : decode cX2_single 203 = .ok (.ifCond .eq 11, 3)) (by decide)
theorem oX2_single_206 : OpS mX2_single 206 (o_aload 0 207) := s_aload_n (by decide +kernel : decode cX2_single 206 = .ok (.aload_n 0, 1)) rfl
theorem oX2_single_207 : OpS mX2_single 207 (o_iload 1 208) := s_iload_n (by decide +kernel : decode cX2_single 207 = .ok (.iload_n 1, 1)) rfl
theorem oX2_single_208 : OpS mX2_single 208 (o_callV mX2_sum 2 1 211) := s_callV ceX2_sum clsX2 (Or.inl wd_993) wd_995 selX2_sum (by decide +kernel : decode cX2_single 208 = .ok (.invokevirtual 63, 3))
theorem oX2_single_211 : OpS mX2_single 211 (o_if (fun x => x = 0) 214 216) := s_if_ne (by decide +kernel : decode cX2_single 211 = .ok (.ifCond .ne 5, 3)) (by decide)
theorem oX2_single_214 : OpS mX2_single 214 (o_const (.int 0) 215) := s_iconst (by decide +kernel : decode cX2_single 214 = .ok (.iconst 0, 1)) (by decide)
theorem oX2_single_215 : OpS mX2_single 215 (o_zret) := s_zret rfl (by decide +kernel : decode cX2_single 215 = .ok (.ireturn, 1))
theorem oX2_single_216 : OpS mX2_single 216 (o_aload 0 217) := s_aload_n (by decide +kernel : decode cX2_single 216 = .ok (.aload_n 0, 1)) rfl
theorem oX2_single_217 : OpS mX2_single 217 (o_getP 2 3 220) := s_getP (k := 3) clsX2 (by decide) rfl (Or.inl wd_950) (by decide +kernel : decode cX2_single 217 = .ok (.getfield 29, 3)) rfl
theorem oX2_single_220 : OpS mX2_single 220 (o_iload 3 221) := s_iload_n (by decide +kernel : decode cX2_single 220 = .ok (.iload_n 3, 1)) rfl
theorem oX2_single_221 : OpS mX2_single 221 (o_const (.int 0) 222) := s_iconst (by decide +kernel : decode cX2_single 221 = .ok (.iconst 0, 1)) (by decide)
theorem oX2_single_222 : OpS mX2_single 222 (o_callV mX1_addStep 1 2 225) := s_callV ceX1_addStep clsX1 (Or.inl wd_1009) wd_1010 selX1_addStep (by decide +kernel : decode cX2_single 222 = .ok (.invokevirtual 78, 3))
theorem oX2_single_225 : OpS mX2_single 225 (o_const (.int 1) 226) := s_iconst (by decide +kernel : decode cX2_single 225 = .ok (.iconst 1, 1)) (by decide)
theorem oX2_single_226 : OpS mX2_single 226 (o_zret) := s_zret rfl (by decide +kernel : decode cX2_single 226 = .ok (.ireturn, 1))
theorem oX2_compares_0 : OpS mX2_compares 0 (o_iload 0 1) := s_iload_n (by decide +kernel : decode cX2_compares 0 = .ok (.iload_n 0, 1)) rfl
theorem oX2_compares_1 : OpS mX2_compares 1 (o_const (.int 60) 3) := s_bipush (by decide +kernel : decode cX2_compares 1 = .ok (.bipush 60, 2)) (by decide)
theorem oX2_compares_3 : OpS mX2_compares 3 (o_icmp (fun x y => x = y) 30 6) := s_icmp_eq (by decide +kernel : decode cX2_compares 3 = .ok (.if_icmp .eq 27, 3)) (by decide)
theorem oX2_compares_6 : OpS mX2_compares 6 (o_iload 0 7) := s_iload_n (by decide +kernel : decode cX2_compares 6 = .ok (.iload_n 0, 1)) rfl
theorem oX2_compares_7 : OpS mX2_compares 7 (o_const (.int 62) 9) := s_bipush (by decide +kernel : decode cX2_compares 7 = .ok (.bipush 62, 2)) (by decide)
theorem oX2_compares_9 : OpS mX2_compares 9 (o_icmp (fun x y => x = y) 30 12) := s_icmp_eq (by decide +kernel : decode cX2_compares 9 = .ok (.if_icmp .eq 21, 3)) (by decide)
theorem oX2_compares_12 : OpS mX2_compares 12 (o_iload 0 13) := s_iload_n (by decide +kernel : decode cX2_compares 12 = .ok (.iload_n 0, 1)) rfl
theorem oX2_compares_13 : OpS mX2_compares 13 (o_const (.int 61) 15) := s_bipush (by decide +kernel : decode cX2_compares 13 = .ok (.bipush 61, 2)) (by decide)
theorem oX2_compares_15 : OpS mX2_compares 15 (o_icmp (fun x y => x = y) 30 18) := s_icmp_eq (by decide +kernel : decode cX2_compares 15 = .ok (.if_icmp .eq 15, 3)) (by decide)
theorem oX2_compares_18 : OpS mX2_compares 18 (o_iload 0 19) := s_iload_n (by decide +kernel : decode cX2_compares 18 = .ok (.iload_n 0, 1)) rfl
theorem oX2_compares_19 : OpS mX2_compares 19 (o_const (.int 22) 21) := s_bipush (by decide +kernel : decode cX2_compares 19 = .ok (.bipush 22, 2)) (by decide)
theorem oX2_compares_21 : OpS mX2_compares 21 (o_icmp (fun x y => x = y) 30 24) := s_icmp_eq (by decide +kernel : decode cX2_compares 21 = .ok (.if_icmp .eq 9, 3)) (by decide)
theorem oX2_compares_24 : OpS mX2_compares 24 (o_iload 0 25) := s_iload_n (by decide +kernel : decode cX2_compares 24 = .ok (.iload_n 0, 1)) rfl
theorem oX2_compares_25 : OpS mX2_compares 25 (o_const (.int 23) 27) := s_bipush (by decide +kernel : decode cX2_compares 25 = .ok (.bipush 23, 2)) (by decide)
theorem oX2_compares_27 : OpS mX2_compares 27 (o_icmp (fun x y => x = y) 30 34) := s_icmp_ne (by decide +kernel : decode cX2_compares 27 = .ok (.if_icmp .ne 7, 3)) (by decide)
theorem oX2_compares_30 : OpS mX2_compares 30 (o_const (.int 1) 31) := s_iconst (by decide +kernel : decode cX2_compares 30 = .ok (.iconst 1, 1)) (by decide)
theorem oX2_compares_31 : OpS mX2_compares 31 (o_goto 35) := s_goto (by decide +kernel : decode cX2_compares 31 = .ok (.goto 4, 3)) (by decide)
theorem oX2_compares_34 : OpS mX2_compares 34 (o_const (.int 0) 35) := s_iconst (by decide +kernel : decode cX2_compares 34 = .ok (.iconst 0, 1)) (by decide)
theorem oX2_compares_35 : OpS mX2_compares 35 (o_zret) := s_zret rfl (by decide +kernel : decode cX2_compares 35 = .ok (.ireturn, 1))
theorem oX2_sum_0 : OpS mX2_sum 0 (o_aload 0 1) := s_aload_n (by decide +kernel : decode cX2_sum 0 = .ok (.aload_n 0, 1)) rfl
theorem oX2_sum_1 : OpS mX2_sum 1 (o_iload 1 2) := s_iload_n (by decide +kernel : decode cX2_sum 1 = .ok (.iload_n 1, 1)) rfl
theorem oX2_sum_2 : OpS mX2_sum 2 (o_callV mX2_product 2 1 5) := s_callV ceX2_product clsX2 (Or.inl wd_997) wd_999 selX2_product (by decide +kernel : decode cX2_sum 2 = .ok (.invokevirtual 88, 3))
theorem oX2_sum_5 : OpS mX2_sum 5 (o_istore 2 5 6) := s_istore_n (by decide +kernel : decode cX2_sum 5 = .ok (.istore_n 2, 1)) rfl rfl
theorem oX2_sum_6 : OpS mX2_sum 6 (o_const (.int 0) 7) := s_iconst (by decide +kernel : decode cX2_sum 6 = .ok (.iconst 0, 1)) (by decide)
theorem oX2_sum_7 : OpS mX2_sum 7 (o_istore 3 5 8) := s_istore_n (by decide +kernel : decode cX2_sum 7 = .ok (.istore_n 3, 1)) rfl rfl
theorem oX2_sum_8 : OpS mX2_sum 8 (o_iload 3 9) := s_iload_n (by decide +kernel : decode cX2_sum 8 = .ok (.iload_n 3, 1)) rfl
theorem oX2_sum_9 : OpS mX2_sum 9 (o_const (.int 400) 12) := s_sipush (by decide +kernel : decode cX2_sum 9 = .ok (.sipush 400, 3)) (by decide)
theorem oX2_sum_12 : OpS mX2_sum 12 (o_icmp (fun x y => y ≤ x) 89 15) := s_icmp_ge (by decide +kernel : decode cX2_sum 12 = .ok (.if_icmp .ge 77, 3)) (by decide)
theorem oX2_sum_15 : OpS mX2_sum 15 (o_iload 2 16) := s_iload_n (by decide +kernel : decode cX2_sum 15 = .ok (.iload_n 2, 1)) rfl
theorem oX2_sum_16 : OpS mX2_sum 16 (o_if (fun x => x = 0) 89 19) := s_if_eq (by decide +kernel : decode cX2_sum 16 = .ok (.ifCond .eq 73, 3)) (by decide)
theorem oX2_sum_19 : OpS mX2_sum 19 (o_aload 0 20) := s_aload_n (by decide +kernel : decode cX2_sum 19 = .ok (.aload_n 0, 1)) rfl
theorem oX2_sum_20 : OpS mX2_sum 20 (o_const (.int 43) 22) := s_bipush (by decide +kernel : decode cX2_sum 20 = .ok (.bipush 43, 2)) (by decide)
theorem oX2_sum_22 : OpS mX2_sum 22 (o_callV mX2_is 2 1 25) := s_callV ceX2_is clsX2 (Or.inl wd_967) wd_969 selX2_is (by decide +kernel : decode cX2_sum 22 = .ok (.invokevirtual 33, 3))
theorem oX2_sum_25 : OpS mX2_sum 25 (o_if (fun x => x = 0) 28 37) := s_if_ne (by decide +kernel : decode cX2_sum 25 = .ok (.ifCond .ne 12, 3)) (by decide)
theorem oX2_sum_28 : OpS mX2_sum 28 (o_aload 0 29) := s_aload_n (by decide +kernel : decode cX2_sum 28 = .ok (.aload_n 0, 1)) rfl
theorem oX2_sum_29 : OpS mX2_sum 29 (o_const (.int 45) 31) := s_bipush (by decide +kernel : decode cX2_sum 29 = .ok (.bipush 45, 2)) (by decide)
theorem oX2_sum_31 : OpS mX2_sum 31 (o_callV mX2_is 2 1 34) := s_callV ceX2_is clsX2 (Or.inl wd_967) wd_969 selX2_is (by decide +kernel : decode cX2_sum 31 = .ok (.invokevirtual 33, 3))
theorem oX2_sum_34 : OpS mX2_sum 34 (o_if (fun x => x = 0) 89 37) := s_if_eq (by decide +kernel : decode cX2_sum 34 = .ok (.ifCond .eq 55, 3)) (by decide)
theorem oX2_sum_37 : OpS mX2_sum 37 (o_aload 0 38) := s_aload_n (by decide +kernel : decode cX2_sum 37 = .ok (.aload_n 0, 1)) rfl
theorem oX2_sum_38 : OpS mX2_sum 38 (o_getP 2 1 41) := s_getP (k := 1) clsX2 (by decide) rfl (Or.inl wd_948) (by decide +kernel : decode cX2_sum 38 = .ok (.getfield 25, 3)) rfl
theorem oX2_sum_41 : OpS mX2_sum 41 (o_aload 0 42) := s_aload_n (by decide +kernel : decode cX2_sum 41 = .ok (.aload_n 0, 1)) rfl
theorem oX2_sum_42 : OpS mX2_sum 42 (o_getI 2 4 45) := s_getI (k := 4) clsX2 (by decide) rfl (Or.inl wd_951) (by decide +kernel : decode cX2_sum 42 = .ok (.getfield 9, 3)) rfl
theorem oX2_sum_45 : OpS mX2_sum 45 (o_callV mX9_at 9 1 48) := s_callV ceX9_at clsX9 (Or.inl wd_971) wd_133 selX9_at (by decide +kernel : decode cX2_sum 45 = .ok (.invokevirtual 37, 3))
theorem oX2_sum_48 : OpS mX2_sum 48 (o_istore 4 5 50) := s_istore (by decide +kernel : decode cX2_sum 48 = .ok (.istore 4, 2)) rfl
theorem oX2_sum_50 : OpS mX2_sum 50 (o_aload 0 51) := s_aload_n (by decide +kernel : decode cX2_sum 50 = .ok (.aload_n 0, 1)) rfl
theorem oX2_sum_51 : OpS mX2_sum 51 (o_iload 4 53) := s_iload (by decide +kernel : decode cX2_sum 51 = .ok (.iload 4, 2))
theorem oX2_sum_53 : OpS mX2_sum 53 (o_callV mX2_skip 2 1 56) := s_callV ceX2_skip clsX2 (Or.inl wd_972) wd_974 selX2_skip (by decide +kernel : decode cX2_sum 53 = .ok (.invokevirtual 42, 3))
theorem oX2_sum_56 : OpS mX2_sum 56 (o_if (fun x => x = 0) 71 59) := s_if_eq (by decide +kernel : decode cX2_sum 56 = .ok (.ifCond .eq 15, 3)) (by decide)
theorem oX2_sum_59 : OpS mX2_sum 59 (o_aload 0 60) := s_aload_n (by decide +kernel : decode cX2_sum 59 = .ok (.aload_n 0, 1)) rfl
theorem oX2_sum_60 : OpS mX2_sum 60 (o_iload 1 61) := s_iload_n (by decide +kernel : decode cX2_sum 60 = .ok (.iload_n 1, 1)) rfl
theorem oX2_sum_61 : OpS mX2_sum 61 (o_callV mX2_product 2 1 64) := s_callV ceX2_product clsX2 (Or.inl wd_997) wd_999 selX2_product (by decide +kernel : decode cX2_sum 61 = .ok (.invokevirtual 88, 3))
theorem oX2_sum_64 : OpS mX2_sum 64 (o_if (fun x => x = 0) 71 67) := s_if_eq (by decide +kernel : decode cX2_sum 64 = .ok (.ifCond .eq 7, 3)) (by decide)
theorem oX2_sum_67 : OpS mX2_sum 67 (o_const (.int 1) 68) := s_iconst (by decide +kernel : decode cX2_sum 67 = .ok (.iconst 1, 1)) (by decide)
theorem oX2_sum_68 : OpS mX2_sum 68 (o_goto 72) := s_goto (by decide +kernel : decode cX2_sum 68 = .ok (.goto 4, 3)) (by decide)
theorem oX2_sum_71 : OpS mX2_sum 71 (o_const (.int 0) 72) := s_iconst (by decide +kernel : decode cX2_sum 71 = .ok (.iconst 0, 1)) (by decide)
theorem oX2_sum_72 : OpS mX2_sum 72 (o_istore 2 5 73) := s_istore_n (by decide +kernel : decode cX2_sum 72 = .ok (.istore_n 2, 1)) rfl rfl
theorem oX2_sum_73 : OpS mX2_sum 73 (o_aload 0 74) := s_aload_n (by decide +kernel : decode cX2_sum 73 = .ok (.aload_n 0, 1)) rfl
theorem oX2_sum_74 : OpS mX2_sum 74 (o_getP 2 3 77) := s_getP (k := 3) clsX2 (by decide) rfl (Or.inl wd_950) (by decide +kernel : decode cX2_sum 74 = .ok (.getfield 29, 3)) rfl
theorem oX2_sum_77 : OpS mX2_sum 77 (o_iload 4 79) := s_iload (by decide +kernel : decode cX2_sum 77 = .ok (.iload 4, 2))
theorem oX2_sum_79 : OpS mX2_sum 79 (o_const (.int 0) 80) := s_iconst (by decide +kernel : decode cX2_sum 79 = .ok (.iconst 0, 1)) (by decide)
theorem oX2_sum_80 : OpS mX2_sum 80 (o_callV mX1_addStep 1 2 83) := s_callV ceX1_addStep clsX1 (Or.inl wd_1009) wd_1010 selX1_addStep (by decide +kernel : decode cX2_sum 80 = .ok (.invokevirtual 78, 3))
theorem oX2_sum_83 : OpS mX2_sum 83 (o_iinc 3 5 1 86) := s_iinc (by decide +kernel : decode cX2_sum 83 = .ok (.iinc 3 1, 3)) (by decide) rfl
theorem oX2_sum_86 : OpS mX2_sum 86 (o_goto 8) := s_goto (by decide +kernel : decode cX2_sum 86 = .ok (.goto (-78), 3)) (by decide)
theorem oX2_sum_89 : OpS mX2_sum 89 (o_iload 2 90) := s_iload_n (by decide +kernel : decode cX2_sum 89 = .ok (.iload_n 2, 1)) rfl
theorem oX2_sum_90 : OpS mX2_sum 90 (o_zret) := s_zret rfl (by decide +kernel : decode cX2_sum 90 = .ok (.ireturn, 1))
theorem oX2_product_0 : OpS mX2_product 0 (o_aload 0 1) := s_aload_n (by decide +kernel : decode cX2_product 0 = .ok (.aload_n 0, 1)) rfl
theorem oX2_product_1 : OpS mX2_product 1 (o_iload 1 2) := s_iload_n (by decide +kernel : decode cX2_product 1 = .ok (.iload_n 1, 1)) rfl
theorem oX2_product_2 : OpS mX2_product 2 (o_callV mX2_value 2 1 5) := s_callV ceX2_value clsX2 (Or.inl wd_1001) wd_1003 selX2_value (by decide +kernel : decode cX2_product 2 = .ok (.invokevirtual 91, 3))
theorem oX2_product_5 : OpS mX2_product 5 (o_istore 2 5 6) := s_istore_n (by decide +kernel : decode cX2_product 5 = .ok (.istore_n 2, 1)) rfl rfl
theorem oX2_product_6 : OpS mX2_product 6 (o_const (.int 0) 7) := s_iconst (by decide +kernel : decode cX2_product 6 = .ok (.iconst 0, 1)) (by decide)
theorem oX2_product_7 : OpS mX2_product 7 (o_istore 3 5 8) := s_istore_n (by decide +kernel : decode cX2_product 7 = .ok (.istore_n 3, 1)) rfl rfl
theorem oX2_product_8 : OpS mX2_product 8 (o_iload 3 9) := s_iload_n (by decide +kernel : decode cX2_product 8 = .ok (.iload_n 3, 1)) rfl
theorem oX2_product_9 : OpS mX2_product 9 (o_const (.int 400) 12) := s_sipush (by decide +kernel : decode cX2_product 9 = .ok (.sipush 400, 3)) (by decide)
theorem oX2_product_12 : OpS mX2_product 12 (o_icmp (fun x y => y ≤ x) 89 15) := s_icmp_ge (by decide +kernel : decode cX2_product 12 = .ok (.if_icmp .ge 77, 3)) (by decide)
theorem oX2_product_15 : OpS mX2_product 15 (o_iload 2 16) := s_iload_n (by decide +kernel : decode cX2_product 15 = .ok (.iload_n 2, 1)) rfl
theorem oX2_product_16 : OpS mX2_product 16 (o_if (fun x => x = 0) 89 19) := s_if_eq (by decide +kernel : decode cX2_product 16 = .ok (.ifCond .eq 73, 3)) (by decide)
theorem oX2_product_19 : OpS mX2_product 19 (o_aload 0 20) := s_aload_n (by decide +kernel : decode cX2_product 19 = .ok (.aload_n 0, 1)) rfl
theorem oX2_product_20 : OpS mX2_product 20 (o_const (.int 42) 22) := s_bipush (by decide +kernel : decode cX2_product 20 = .ok (.bipush 42, 2)) (by decide)
theorem oX2_product_22 : OpS mX2_product 22 (o_callV mX2_is 2 1 25) := s_callV ceX2_is clsX2 (Or.inl wd_967) wd_969 selX2_is (by decide +kernel : decode cX2_product 22 = .ok (.invokevirtual 33, 3))
theorem oX2_product_25 : OpS mX2_product 25 (o_if (fun x => x = 0) 28 37) := s_if_ne (by decide +kernel : decode cX2_product 25 = .ok (.ifCond .ne 12, 3)) (by decide)
theorem oX2_product_28 : OpS mX2_product 28 (o_aload 0 29) := s_aload_n (by decide +kernel : decode cX2_product 28 = .ok (.aload_n 0, 1)) rfl
theorem oX2_product_29 : OpS mX2_product 29 (o_const (.int 47) 31) := s_bipush (by decide +kernel : decode cX2_product 29 = .ok (.bipush 47, 2)) (by decide)
theorem oX2_product_31 : OpS mX2_product 31 (o_callV mX2_is 2 1 34) := s_callV ceX2_is clsX2 (Or.inl wd_967) wd_969 selX2_is (by decide +kernel : decode cX2_product 31 = .ok (.invokevirtual 33, 3))
theorem oX2_product_34 : OpS mX2_product 34 (o_if (fun x => x = 0) 89 37) := s_if_eq (by decide +kernel : decode cX2_product 34 = .ok (.ifCond .eq 55, 3)) (by decide)
theorem oX2_product_37 : OpS mX2_product 37 (o_aload 0 38) := s_aload_n (by decide +kernel : decode cX2_product 37 = .ok (.aload_n 0, 1)) rfl
theorem oX2_product_38 : OpS mX2_product 38 (o_getP 2 1 41) := s_getP (k := 1) clsX2 (by decide) rfl (Or.inl wd_948) (by decide +kernel : decode cX2_product 38 = .ok (.getfield 25, 3)) rfl
theorem oX2_product_41 : OpS mX2_product 41 (o_aload 0 42) := s_aload_n (by decide +kernel : decode cX2_product 41 = .ok (.aload_n 0, 1)) rfl
theorem oX2_product_42 : OpS mX2_product 42 (o_getI 2 4 45) := s_getI (k := 4) clsX2 (by decide) rfl (Or.inl wd_951) (by decide +kernel : decode cX2_product 42 = .ok (.getfield 9, 3)) rfl
theorem oX2_product_45 : OpS mX2_product 45 (o_callV mX9_at 9 1 48) := s_callV ceX9_at clsX9 (Or.inl wd_971) wd_133 selX9_at (by decide +kernel : decode cX2_product 45 = .ok (.invokevirtual 37, 3))
theorem oX2_product_48 : OpS mX2_product 48 (o_istore 4 5 50) := s_istore (by decide +kernel : decode cX2_product 48 = .ok (.istore 4, 2)) rfl
theorem oX2_product_50 : OpS mX2_product 50 (o_aload 0 51) := s_aload_n (by decide +kernel : decode cX2_product 50 = .ok (.aload_n 0, 1)) rfl
theorem oX2_product_51 : OpS mX2_product 51 (o_iload 4 53) := s_iload (by decide +kernel : decode cX2_product 51 = .ok (.iload 4, 2))
theorem oX2_product_53 : OpS mX2_product 53 (o_callV mX2_skip 2 1 56) := s_callV ceX2_skip clsX2 (Or.inl wd_972) wd_974 selX2_skip (by decide +kernel : decode cX2_product 53 = .ok (.invokevirtual 42, 3))
theorem oX2_product_56 : OpS mX2_product 56 (o_if (fun x => x = 0) 71 59) := s_if_eq (by decide +kernel : decode cX2_product 56 = .ok (.ifCond .eq 15, 3)) (by decide)
theorem oX2_product_59 : OpS mX2_product 59 (o_aload 0 60) := s_aload_n (by decide +kernel : decode cX2_product 59 = .ok (.aload_n 0, 1)) rfl
theorem oX2_product_60 : OpS mX2_product 60 (o_iload 1 61) := s_iload_n (by decide +kernel : decode cX2_product 60 = .ok (.iload_n 1, 1)) rfl
theorem oX2_product_61 : OpS mX2_product 61 (o_callV mX2_value 2 1 64) := s_callV ceX2_value clsX2 (Or.inl wd_1001) wd_1003 selX2_value (by decide +kernel : decode cX2_product 61 = .ok (.invokevirtual 91, 3))
theorem oX2_product_64 : OpS mX2_product 64 (o_if (fun x => x = 0) 71 67) := s_if_eq (by decide +kernel : decode cX2_product 64 = .ok (.ifCond .eq 7, 3)) (by decide)
theorem oX2_product_67 : OpS mX2_product 67 (o_const (.int 1) 68) := s_iconst (by decide +kernel : decode cX2_product 67 = .ok (.iconst 1, 1)) (by decide)
theorem oX2_product_68 : OpS mX2_product 68 (o_goto 72) := s_goto (by decide +kernel : decode cX2_product 68 = .ok (.goto 4, 3)) (by decide)
theorem oX2_product_71 : OpS mX2_product 71 (o_const (.int 0) 72) := s_iconst (by decide +kernel : decode cX2_product 71 = .ok (.iconst 0, 1)) (by decide)
theorem oX2_product_72 : OpS mX2_product 72 (o_istore 2 5 73) := s_istore_n (by decide +kernel : decode cX2_product 72 = .ok (.istore_n 2, 1)) rfl rfl
theorem oX2_product_73 : OpS mX2_product 73 (o_aload 0 74) := s_aload_n (by decide +kernel : decode cX2_product 73 = .ok (.aload_n 0, 1)) rfl
theorem oX2_product_74 : OpS mX2_product 74 (o_getP 2 3 77) := s_getP (k := 3) clsX2 (by decide) rfl (Or.inl wd_950) (by decide +kernel : decode cX2_product 74 = .ok (.getfield 29, 3)) rfl
theorem oX2_product_77 : OpS mX2_product 77 (o_iload 4 79) := s_iload (by decide +kernel : decode cX2_product 77 = .ok (.iload 4, 2))
theorem oX2_product_79 : OpS mX2_product 79 (o_const (.int 0) 80) := s_iconst (by decide +kernel : decode cX2_product 79 = .ok (.iconst 0, 1)) (by decide)
theorem oX2_product_80 : OpS mX2_product 80 (o_callV mX1_addStep 1 2 83) := s_callV ceX1_addStep clsX1 (Or.inl wd_1009) wd_1010 selX1_addStep (by decide +kernel : decode cX2_product 80 = .ok (.invokevirtual 78, 3))
theorem oX2_product_83 : OpS mX2_product 83 (o_iinc 3 5 1 86) := s_iinc (by decide +kernel : decode cX2_product 83 = .ok (.iinc 3 1, 3)) (by decide) rfl
theorem oX2_product_86 : OpS mX2_product 86 (o_goto 8) := s_goto (by decide +kernel : decode cX2_product 86 = .ok (.goto (-78), 3)) (by decide)
theorem oX2_product_89 : OpS mX2_product 89 (o_iload 2 90) := s_iload_n (by decide +kernel : decode cX2_product 89 = .ok (.iload_n 2, 1)) rfl
theorem oX2_product_90 : OpS mX2_product 90 (o_zret) := s_zret rfl (by decide +kernel : decode cX2_product 90 = .ok (.ireturn, 1))
theorem oX2_value_0 : OpS mX2_value 0 (o_aload 0 1) := s_aload_n (by decide +kernel : decode cX2_value 0 = .ok (.aload_n 0, 1)) rfl
theorem oX2_value_1 : OpS mX2_value 1 (o_getP 2 1 4) := s_getP (k := 1) clsX2 (by decide) rfl (Or.inl wd_948) (by decide +kernel : decode cX2_value 1 = .ok (.getfield 25, 3)) rfl
theorem oX2_value_4 : OpS mX2_value 4 (o_aload 0 5) := s_aload_n (by decide +kernel : decode cX2_value 4 = .ok (.aload_n 0, 1)) rfl
theorem oX2_value_5 : OpS mX2_value 5 (o_getI 2 4 8) := s_getI (k := 4) clsX2 (by decide) rfl (Or.inl wd_951) (by decide +kernel : decode cX2_value 5 = .ok (.getfield 9, 3)) rfl
theorem oX2_value_8 : OpS mX2_value 8 (o_callV mX9_at 9 1 11) := s_callV ceX9_at clsX9 (Or.inl wd_971) wd_133 selX9_at (by decide +kernel : decode cX2_value 8 = .ok (.invokevirtual 37, 3))
theorem oX2_value_11 : OpS mX2_value 11 (o_istore 2 3 12) := s_istore_n (by decide +kernel : decode cX2_value 11 = .ok (.istore_n 2, 1)) rfl rfl
theorem oX2_value_12 : OpS mX2_value 12 (o_iload 2 13) := s_iload_n (by decide +kernel : decode cX2_value 12 = .ok (.iload_n 2, 1)) rfl
theorem oX2_value_13 : OpS mX2_value 13 (o_sw [(2, 148), (8, 133), (9, 133), (10, 133), (11, 133), (17, 262), (18, 262), (21, 104), (40, 223), (45, 185)] 285) := s_lsw (by decide +kernel : decode cX2_value 13 = .ok (.lookupswitch 272 #[(2, 135), (8, 120), (9, 120), (10, 120), (11, 120), (17, 249), (18, 249), (21, 91), (40, 210), (45, 172)], 91)) (by decide) (by decide) (by decide)
theorem oX2_value_104 : OpS mX2_value 104 (o_aload 0 105) := s_aload_n (by decide +kernel : decode cX2_value 104 = .ok (.aload_n 0, 1)) rfl
theorem oX2_value_105 : OpS mX2_value 105 (o_getP 2 3 108) := s_getP (k := 3) clsX2 (by decide) rfl (Or.inl wd_950) (by decide +kernel : decode cX2_value 105 = .ok (.getfield 29, 3)) rfl
theorem oX2_value_108 : OpS mX2_value 108 (o_iload 2 109) := s_iload_n (by decide +kernel : decode cX2_value 108 = .ok (.iload_n 2, 1)) rfl
theorem oX2_value_109 : OpS mX2_value 109 (o_aload 0 110) := s_aload_n (by decide +kernel : decode cX2_value 109 = .ok (.aload_n 0, 1)) rfl
theorem oX2_value_110 : OpS mX2_value 110 (o_getP 2 0 113) := s_getP (k := 0) clsX2 (by decide) rfl (Or.inl wd_947) (by decide +kernel : decode cX2_value 110 = .ok (.getfield 15, 3)) rfl
theorem oX2_value_113 : OpS mX2_value 113 (o_aload 0 114) := s_aload_n (by decide +kernel : decode cX2_value 113 = .ok (.aload_n 0, 1)) rfl
theorem oX2_value_114 : OpS mX2_value 114 (o_getP 2 2 117) := s_getP (k := 2) clsX2 (by decide) rfl (Or.inl wd_949) (by decide +kernel : decode cX2_value 114 = .ok (.getfield 26, 3)) rfl
theorem oX2_value_117 : OpS mX2_value 117 (o_aload 0 118) := s_aload_n (by decide +kernel : decode cX2_value 117 = .ok (.aload_n 0, 1)) rfl
theorem oX2_value_118 : OpS mX2_value 118 (o_getI 2 4 121) := s_getI (k := 4) clsX2 (by decide) rfl (Or.inl wd_951) (by decide +kernel : decode cX2_value 118 = .ok (.getfield 9, 3)) rfl
theorem oX2_value_121 : OpS mX2_value 121 (o_callV mX10_number 10 2 124) := s_callV ceX10_number clsX10 (Or.inl wd_1005) wd_1006 selX10_number (by decide +kernel : decode cX2_value 121 = .ok (.invokevirtual 94, 3))
theorem oX2_value_124 : OpS mX2_value 124 (o_callV mX1_addStep 1 2 127) := s_callV ceX1_addStep clsX1 (Or.inl wd_1009) wd_1010 selX1_addStep (by decide +kernel : decode cX2_value 124 = .ok (.invokevirtual 78, 3))
theorem oX2_value_127 : OpS mX2_value 127 (o_aload 0 128) := s_aload_n (by decide +kernel : decode cX2_value 127 = .ok (.aload_n 0, 1)) rfl
theorem oX2_value_128 : OpS mX2_value 128 (o_iload 2 129) := s_iload_n (by decide +kernel : decode cX2_value 128 = .ok (.iload_n 2, 1)) rfl
theorem oX2_value_129 : OpS mX2_value 129 (o_callV mX2_skip 2 1 132) := s_callV ceX2_skip clsX2 (Or.inl wd_972) wd_974 selX2_skip (by decide +kernel : decode cX2_value 129 = .ok (.invokevirtual 42, 3))
theorem oX2_value_132 : OpS mX2_value 132 (o_zret) := s_zret rfl (by decide +kernel : decode cX2_value 132 = .ok (.ireturn, 1))
theorem oX2_value_133 : OpS mX2_value 133 (o_aload 0 134) := s_aload_n (by decide +kernel : decode cX2_value 133 = .ok (.aload_n 0, 1)) rfl
theorem oX2_value_134 : OpS mX2_value 134 (o_getP 2 3 137) := s_getP (k := 3) clsX2 (by decide) rfl (Or.inl wd_950) (by decide +kernel : decode cX2_value 134 = .ok (.getfield 29, 3)) rfl
theorem oX2_value_137 : OpS mX2_value 137 (o_iload 2 138) := s_iload_n (by decide +kernel : decode cX2_value 137 = .ok (.iload_n 2, 1)) rfl
theorem oX2_value_138 : OpS mX2_value 138 (o_const (.int 0) 139) := s_iconst (by decide +kernel : decode cX2_value 138 = .ok (.iconst 0, 1)) (by decide)
theorem oX2_value_139 : OpS mX2_value 139 (o_callV mX1_addStep 1 2 142) := s_callV ceX1_addStep clsX1 (Or.inl wd_1009) wd_1010 selX1_addStep (by decide +kernel : decode cX2_value 139 = .ok (.invokevirtual 78, 3))
theorem oX2_value_142 : OpS mX2_value 142 (o_aload 0 143) := s_aload_n (by decide +kernel : decode cX2_value 142 = .ok (.aload_n 0, 1)) rfl
theorem oX2_value_143 : OpS mX2_value 143 (o_iload 2 144) := s_iload_n (by decide +kernel : decode cX2_value 143 = .ok (.iload_n 2, 1)) rfl
theorem oX2_value_144 : OpS mX2_value 144 (o_callV mX2_skip 2 1 147) := s_callV ceX2_skip clsX2 (Or.inl wd_972) wd_974 selX2_skip (by decide +kernel : decode cX2_value 144 = .ok (.invokevirtual 42, 3))
theorem oX2_value_147 : OpS mX2_value 147 (o_zret) := s_zret rfl (by decide +kernel : decode cX2_value 147 = .ok (.ireturn, 1))
theorem oX2_value_148 : OpS mX2_value 148 (o_aload 0 149) := s_aload_n (by decide +kernel : decode cX2_value 148 = .ok (.aload_n 0, 1)) rfl
theorem oX2_value_149 : OpS mX2_value 149 (o_getP 2 3 152) := s_getP (k := 3) clsX2 (by decide) rfl (Or.inl wd_950) (by decide +kernel : decode cX2_value 149 = .ok (.getfield 29, 3)) rfl
theorem oX2_value_152 : OpS mX2_value 152 (o_iload 2 153) := s_iload_n (by decide +kernel : decode cX2_value 152 = .ok (.iload_n 2, 1)) rfl
theorem oX2_value_153 : OpS mX2_value 153 (o_aload 0 154) := s_aload_n (by decide +kernel : decode cX2_value 153 = .ok (.aload_n 0, 1)) rfl
theorem oX2_value_154 : OpS mX2_value 154 (o_getI 2 4 157) := s_getI (k := 4) clsX2 (by decide) rfl (Or.inl wd_951) (by decide +kernel : decode cX2_value 154 = .ok (.getfield 9, 3)) rfl
theorem oX2_value_157 : OpS mX2_value 157 (o_const (.int 1) 158) := s_iconst (by decide +kernel : decode cX2_value 157 = .ok (.iconst 1, 1)) (by decide)
theorem oX2_value_158 : OpS mX2_value 158 (o_ibin (fun x y => x + y) 159) := s_iadd (by decide +kernel : decode cX2_value 158 = .ok (.iadd, 1))
theorem oX2_value_159 : OpS mX2_value 159 (o_callV mX1_addStep 1 2 162) := s_callV ceX1_addStep clsX1 (Or.inl wd_1009) wd_1010 selX1_addStep (by decide +kernel : decode cX2_value 159 = .ok (.invokevirtual 78, 3))
theorem oX2_value_162 : OpS mX2_value 162 (o_aload 0 163) := s_aload_n (by decide +kernel : decode cX2_value 162 = .ok (.aload_n 0, 1)) rfl
theorem oX2_value_163 : OpS mX2_value 163 (o_iload 2 164) := s_iload_n (by decide +kernel : decode cX2_value 163 = .ok (.iload_n 2, 1)) rfl
theorem oX2_value_164 : OpS mX2_value 164 (o_callV mX2_skip 2 1 167) := s_callV ceX2_skip clsX2 (Or.inl wd_972) wd_974 selX2_skip (by decide +kernel : decode cX2_value 164 = .ok (.invokevirtual 42, 3))
theorem oX2_value_167 : OpS mX2_value 167 (o_if (fun x => x = 0) 183 170) := s_if_eq (by decide +kernel : decode cX2_value 167 = .ok (.ifCond .eq 16, 3)) (by decide)
theorem oX2_value_170 : OpS mX2_value 170 (o_aload 0 171) := s_aload_n (by decide +kernel : decode cX2_value 170 = .ok (.aload_n 0, 1)) rfl
theorem oX2_value_171 : OpS mX2_value 171 (o_const (.int 20) 173) := s_bipush (by decide +kernel : decode cX2_value 171 = .ok (.bipush 20, 2)) (by decide)
theorem oX2_value_173 : OpS mX2_value 173 (o_callV mX2_skip 2 1 176) := s_callV ceX2_skip clsX2 (Or.inl wd_972) wd_974 selX2_skip (by decide +kernel : decode cX2_value 173 = .ok (.invokevirtual 42, 3))
theorem oX2_value_176 : OpS mX2_value 176 (o_if (fun x => x = 0) 183 179) := s_if_eq (by decide +kernel : decode cX2_value 176 = .ok (.ifCond .eq 7, 3)) (by decide)
theorem oX2_value_179 : OpS mX2_value 179 (o_const (.int 1) 180) := s_iconst (by decide +kernel : decode cX2_value 179 = .ok (.iconst 1, 1)) (by decide)
theorem oX2_value_180 : OpS mX2_value 180 (o_goto 184) := s_goto (by decide +kernel : decode cX2_value 180 = .ok (.goto 4, 3)) (by decide)
theorem oX2_value_183 : OpS mX2_value 183 (o_const (.int 0) 184) := s_iconst (by decide +kernel : decode cX2_value 183 = .ok (.iconst 0, 1)) (by decide)
theorem oX2_value_184 : OpS mX2_value 184 (o_zret) := s_zret rfl (by decide +kernel : decode cX2_value 184 = .ok (.ireturn, 1))
theorem oX2_value_185 : OpS mX2_value 185 (o_iload 1 186) := s_iload_n (by decide +kernel : decode cX2_value 185 = .ok (.iload_n 1, 1)) rfl
theorem oX2_value_186 : OpS mX2_value 186 (o_const (.int 8) 188) := s_bipush (by decide +kernel : decode cX2_value 186 = .ok (.bipush 8, 2)) (by decide)
theorem oX2_value_188 : OpS mX2_value 188 (o_icmp (fun x y => y ≤ x) 209 191) := s_icmp_ge (by decide +kernel : decode cX2_value 188 = .ok (.if_icmp .ge 21, 3)) (by decide)
theorem oX2_value_191 : OpS mX2_value 191 (o_aload 0 192) := s_aload_n (by decide +kernel : decode cX2_value 191 = .ok (.aload_n 0, 1)) rfl
theorem oX2_value_192 : OpS mX2_value 192 (o_iload 2 193) := s_iload_n (by decide +kernel : decode cX2_value 192 = .ok (.iload_n 2, 1)) rfl
theorem oX2_value_193 : OpS mX2_value 193 (o_callV mX2_skip 2 1 196) := s_callV ceX2_skip clsX2 (Or.inl wd_972) wd_974 selX2_skip (by decide +kernel : decode cX2_value 193 = .ok (.invokevirtual 42, 3))
theorem oX2_value_196 : OpS mX2_value 196 (o_if (fun x => x = 0) 209 199) := s_if_eq (by decide +kernel : decode cX2_value 196 = .ok (.ifCond .eq 13, 3)) (by decide)
theorem oX2_value_199 : OpS mX2_value 199 (o_aload 0 200) := s_aload_n (by decide +kernel : decode cX2_value 199 = .ok (.aload_n 0, 1)) rfl
theorem oX2_value_200 : OpS mX2_value 200 (o_iload 1 201) := s_iload_n (by decide +kernel : decode cX2_value 200 = .ok (.iload_n 1, 1)) rfl
theorem oX2_value_201 : OpS mX2_value 201 (o_const (.int 1) 202) := s_iconst (by decide +kernel : decode cX2_value 201 = .ok (.iconst 1, 1)) (by decide)
theorem oX2_value_202 : OpS mX2_value 202 (o_ibin (fun x y => x + y) 203) := s_iadd (by decide +kernel : decode cX2_value 202 = .ok (.iadd, 1))
theorem oX2_value_203 : OpS mX2_value 203 (o_callV mX2_value 2 1 206) := s_callV ceX2_value clsX2 (Or.inl wd_1001) wd_1003 selX2_value (by decide +kernel : decode cX2_value 203 = .ok (.invokevirtual 91, 3))
theorem oX2_value_206 : OpS mX2_value 206 (o_if (fun x => x = 0) 209 211) := s_if_ne (by decide +kernel : decode cX2_value 206 = .ok (.ifCond .ne 5, 3)) (by decide)
theorem oX2_value_209 : OpS mX2_value 209 (o_const (.int 0) 210) := s_iconst (by decide +kernel : decode cX2_value 209 = .ok (.iconst 0, 1)) (by decide)
theorem oX2_value_210 : OpS mX2_value 210 (o_zret) := s_zret rfl (by decide +kernel : decode cX2_value 210 = .ok (.ireturn, 1))
theorem oX2_value_211 : OpS mX2_value 211 (o_aload 0 212) := s_aload_n (by decide +kernel : decode cX2_value 211 = .ok (.aload_n 0, 1)) rfl
theorem oX2_value_212 : OpS mX2_value 212 (o_getP 2 3 215) := s_getP (k := 3) clsX2 (by decide) rfl (Or.inl wd_950) (by decide +kernel : decode cX2_value 212 = .ok (.getfield 29, 3)) rfl
theorem oX2_value_215 : OpS mX2_value 215 (o_const (.int 30) 217) := s_bipush (by decide +kernel : decode cX2_value 215 = .ok (.bipush 30, 2)) (by decide)
theorem oX2_value_217 : OpS mX2_value 217 (o_const (.int 0) 218) := s_iconst (by decide +kernel : decode cX2_value 217 = .ok (.iconst 0, 1)) (by decide)
theorem oX2_value_218 : OpS mX2_value 218 (o_callV mX1_addStep 1 2 221) := s_callV ceX1_addStep clsX1 (Or.inl wd_1009) wd_1010 selX1_addStep (by decide +kernel : decode cX2_value 218 = .ok (.invokevirtual 78, 3))
theorem oX2_value_221 : OpS mX2_value 221 (o_const (.int 1) 222) := s_iconst (by decide +kernel : decode cX2_value 221 = .ok (.iconst 1, 1)) (by decide)
theorem oX2_value_222 : OpS mX2_value 222 (o_zret) := s_zret rfl (by decide +kernel : decode cX2_value 222 = .ok (.ireturn, 1))
theorem oX2_value_223 : OpS mX2_value 223 (o_iload 1 224) := s_iload_n (by decide +kernel : decode cX2_value 223 = .ok (.iload_n 1, 1)) rfl
theorem oX2_value_224 : OpS mX2_value 224 (o_const (.int 8) 226) := s_bipush (by decide +kernel : decode cX2_value 224 = .ok (.bipush 8, 2)) (by decide)
theorem oX2_value_226 : OpS mX2_value 226 (o_icmp (fun x y => y ≤ x) 260 229) := s_icmp_ge (by decide +kernel : decode cX2_value 226 = .ok (.if_icmp .ge 34, 3)) (by decide)
theorem oX2_value_229 : OpS mX2_value 229 (o_aload 0 230) := s_aload_n (by decide +kernel : decode cX2_value 229 = .ok (.aload_n 0, 1)) rfl
theorem oX2_value_230 : OpS mX2_value 230 (o_iload 2 231) := s_iload_n (by decide +kernel : decode cX2_value 230 = .ok (.iload_n 2, 1)) rfl
theorem oX2_value_231 : OpS mX2_value 231 (o_callV mX2_skip 2 1 234) := s_callV ceX2_skip clsX2 (Or.inl wd_972) wd_974 selX2_skip (by decide +kernel : decode cX2_value 231 = .ok (.invokevirtual 42, 3))
theorem oX2_value_234 : OpS mX2_value 234 (o_if (fun x => x = 0) 260 237) := s_if_eq (by decide +kernel : decode cX2_value 234 = .ok (.ifCond .eq 26, 3)) (by decide)
theorem oX2_value_237 : OpS mX2_value 237 (o_aload 0 238) := s_aload_n (by decide +kernel : decode cX2_value 237 = .ok (.aload_n 0, 1)) rfl
theorem oX2_value_238 : OpS mX2_value 238 (o_iload 1 239) := s_iload_n (by decide +kernel : decode cX2_value 238 = .ok (.iload_n 1, 1)) rfl
theorem oX2_value_239 : OpS mX2_value 239 (o_const (.int 1) 240) := s_iconst (by decide +kernel : decode cX2_value 239 = .ok (.iconst 1, 1)) (by decide)
theorem oX2_value_240 : OpS mX2_value 240 (o_ibin (fun x y => x + y) 241) := s_iadd (by decide +kernel : decode cX2_value 240 = .ok (.iadd, 1))
theorem oX2_value_241 : OpS mX2_value 241 (o_callV mX2_sum 2 1 244) := s_callV ceX2_sum clsX2 (Or.inl wd_993) wd_995 selX2_sum (by decide +kernel : decode cX2_value 241 = .ok (.invokevirtual 63, 3))
theorem oX2_value_244 : OpS mX2_value 244 (o_if (fun x => x = 0) 260 247) := s_if_eq (by decide +kernel : decode cX2_value 244 = .ok (.ifCond .eq 16, 3)) (by decide)
theorem oX2_value_247 : OpS mX2_value 247 (o_aload 0 248) := s_aload_n (by decide +kernel : decode cX2_value 247 = .ok (.aload_n 0, 1)) rfl
theorem oX2_value_248 : OpS mX2_value 248 (o_const (.int 41) 250) := s_bipush (by decide +kernel : decode cX2_value 248 = .ok (.bipush 41, 2)) (by decide)
theorem oX2_value_250 : OpS mX2_value 250 (o_callV mX2_skip 2 1 253) := s_callV ceX2_skip clsX2 (Or.inl wd_972) wd_974 selX2_skip (by decide +kernel : decode cX2_value 250 = .ok (.invokevirtual 42, 3))
theorem oX2_value_253 : OpS mX2_value 253 (o_if (fun x => x = 0) 260 256) := s_if_eq (by decide +kernel : decode cX2_value 253 = .ok (.ifCond .eq 7, 3)) (by decide)
theorem oX2_value_256 : OpS mX2_value 256 (o_const (.int 1) 257) := s_iconst (by decide +kernel : decode cX2_value 256 = .ok (.iconst 1, 1)) (by decide)
theorem oX2_value_257 : OpS mX2_value 257 (o_goto 261) := s_goto (by decide +kernel : decode cX2_value 257 = .ok (.goto 4, 3)) (by decide)
theorem oX2_value_260 : OpS mX2_value 260 (o_const (.int 0) 261) := s_iconst (by decide +kernel : decode cX2_value 260 = .ok (.iconst 0, 1)) (by decide)
theorem oX2_value_261 : OpS mX2_value 261 (o_zret) := s_zret rfl (by decide +kernel : decode cX2_value 261 = .ok (.ireturn, 1))
theorem oX2_value_262 : OpS mX2_value 262 (o_aload 0 263) := s_aload_n (by decide +kernel : decode cX2_value 262 = .ok (.aload_n 0, 1)) rfl
theorem oX2_value_263 : OpS mX2_value 263 (o_iload 2 264) := s_iload_n (by decide +kernel : decode cX2_value 263 = .ok (.iload_n 2, 1)) rfl
theorem oX2_value_264 : OpS mX2_value 264 (o_callV mX2_skip 2 1 267) := s_callV ceX2_skip clsX2 (Or.inl wd_972) wd_974 selX2_skip (by decide +kernel : decode cX2_value 264 = .ok (.invokevirtual 42, 3))
theorem oX2_value_267 : OpS mX2_value 267 (o_if (fun x => x = 0) 283 270) := s_if_eq (by decide +kernel : decode cX2_value 267 = .ok (.ifCond .eq 16, 3)) (by decide)
theorem oX2_value_270 : OpS mX2_value 270 (o_aload 0 271) := s_aload_n (by decide +kernel : decode cX2_value 270 = .ok (.aload_n 0, 1)) rfl
theorem oX2_value_271 : OpS mX2_value 271 (o_iload 2 272) := s_iload_n (by decide +kernel : decode cX2_value 271 = .ok (.iload_n 2, 1)) rfl
theorem oX2_value_272 : OpS mX2_value 272 (o_iload 1 273) := s_iload_n (by decide +kernel : decode cX2_value 272 = .ok (.iload_n 1, 1)) rfl
theorem oX2_value_273 : OpS mX2_value 273 (o_callV mX2_ofTwo 2 2 276) := s_callV ceX2_ofTwo clsX2 (Or.inl wd_1013) wd_1015 selX2_ofTwo (by decide +kernel : decode cX2_value 273 = .ok (.invokevirtual 98, 3))
theorem oX2_value_276 : OpS mX2_value 276 (o_if (fun x => x = 0) 283 279) := s_if_eq (by decide +kernel : decode cX2_value 276 = .ok (.ifCond .eq 7, 3)) (by decide)
theorem oX2_value_279 : OpS mX2_value 279 (o_const (.int 1) 280) := s_iconst (by decide +kernel : decode cX2_value 279 = .ok (.iconst 1, 1)) (by decide)
theorem oX2_value_280 : OpS mX2_value 280 (o_goto 284) := s_goto (by decide +kernel : decode cX2_value 280 = .ok (.goto 4, 3)) (by decide)
theorem oX2_value_283 : OpS mX2_value 283 (o_const (.int 0) 284) := s_iconst (by decide +kernel : decode cX2_value 283 = .ok (.iconst 0, 1)) (by decide)
theorem oX2_value_284 : OpS mX2_value 284 (o_zret) := s_zret rfl (by decide +kernel : decode cX2_value 284 = .ok (.ireturn, 1))
theorem oX2_value_285 : OpS mX2_value 285 (o_const (.int 0) 286) := s_iconst (by decide +kernel : decode cX2_value 285 = .ok (.iconst 0, 1)) (by decide)
theorem oX2_value_286 : OpS mX2_value 286 (o_zret) := s_zret rfl (by decide +kernel : decode cX2_value 286 = .ok (.ireturn, 1))
theorem oX2_ofTwo_0 : OpS mX2_ofTwo 0 (o_iload 2 1) := s_iload_n (by decide +kernel : decode cX2_ofTwo 0 = .ok (.iload_n 2, 1)) rfl
theorem oX2_ofTwo_1 : OpS mX2_ofTwo 1 (o_const (.int 8) 3) := s_bipush (by decide +kernel : decode cX2_ofTwo 1 = .ok (.bipush 8, 2)) (by decide)
theorem oX2_ofTwo_3 : OpS mX2_ofTwo 3 (o_icmp (fun x y => y ≤ x) 53 6) := s_icmp_ge (by decide +kernel : decode cX2_ofTwo 3 = .ok (.if_icmp .ge 50, 3)) (by decide)
theorem oX2_ofTwo_6 : OpS mX2_ofTwo 6 (o_aload 0 7) := s_aload_n (by decide +kernel : decode cX2_ofTwo 6 = .ok (.aload_n 0, 1)) rfl
theorem oX2_ofTwo_7 : OpS mX2_ofTwo 7 (o_const (.int 40) 9) := s_bipush (by decide +kernel : decode cX2_ofTwo 7 = .ok (.bipush 40, 2)) (by decide)
theorem oX2_ofTwo_9 : OpS mX2_ofTwo 9 (o_callV mX2_skip 2 1 12) := s_callV ceX2_skip clsX2 (Or.inl wd_972) wd_974 selX2_skip (by decide +kernel : decode cX2_ofTwo 9 = .ok (.invokevirtual 42, 3))
theorem oX2_ofTwo_12 : OpS mX2_ofTwo 12 (o_if (fun x => x = 0) 53 15) := s_if_eq (by decide +kernel : decode cX2_ofTwo 12 = .ok (.ifCond .eq 41, 3)) (by decide)
theorem oX2_ofTwo_15 : OpS mX2_ofTwo 15 (o_aload 0 16) := s_aload_n (by decide +kernel : decode cX2_ofTwo 15 = .ok (.aload_n 0, 1)) rfl
theorem oX2_ofTwo_16 : OpS mX2_ofTwo 16 (o_iload 2 17) := s_iload_n (by decide +kernel : decode cX2_ofTwo 16 = .ok (.iload_n 2, 1)) rfl
theorem oX2_ofTwo_17 : OpS mX2_ofTwo 17 (o_const (.int 1) 18) := s_iconst (by decide +kernel : decode cX2_ofTwo 17 = .ok (.iconst 1, 1)) (by decide)
theorem oX2_ofTwo_18 : OpS mX2_ofTwo 18 (o_ibin (fun x y => x + y) 19) := s_iadd (by decide +kernel : decode cX2_ofTwo 18 = .ok (.iadd, 1))
theorem oX2_ofTwo_19 : OpS mX2_ofTwo 19 (o_callV mX2_sum 2 1 22) := s_callV ceX2_sum clsX2 (Or.inl wd_993) wd_995 selX2_sum (by decide +kernel : decode cX2_ofTwo 19 = .ok (.invokevirtual 63, 3))
theorem oX2_ofTwo_22 : OpS mX2_ofTwo 22 (o_if (fun x => x = 0) 53 25) := s_if_eq (by decide +kernel : decode cX2_ofTwo 22 = .ok (.ifCond .eq 31, 3)) (by decide)
theorem oX2_ofTwo_25 : OpS mX2_ofTwo 25 (o_aload 0 26) := s_aload_n (by decide +kernel : decode cX2_ofTwo 25 = .ok (.aload_n 0, 1)) rfl
theorem oX2_ofTwo_26 : OpS mX2_ofTwo 26 (o_const (.int 44) 28) := s_bipush (by decide +kernel : decode cX2_ofTwo 26 = .ok (.bipush 44, 2)) (by decide)
theorem oX2_ofTwo_28 : OpS mX2_ofTwo 28 (o_callV mX2_skip 2 1 31) := s_callV ceX2_skip clsX2 (Or.inl wd_972) wd_974 selX2_skip (by decide +kernel : decode cX2_ofTwo 28 = .ok (.invokevirtual 42, 3))
theorem oX2_ofTwo_31 : OpS mX2_ofTwo 31 (o_if (fun x => x = 0) 53 34) := s_if_eq (by decide +kernel : decode cX2_ofTwo 31 = .ok (.ifCond .eq 22, 3)) (by decide)
theorem oX2_ofTwo_34 : OpS mX2_ofTwo 34 (o_aload 0 35) := s_aload_n (by decide +kernel : decode cX2_ofTwo 34 = .ok (.aload_n 0, 1)) rfl
theorem oX2_ofTwo_35 : OpS mX2_ofTwo 35 (o_iload 2 36) := s_iload_n (by decide +kernel : decode cX2_ofTwo 35 = .ok (.iload_n 2, 1)) rfl
theorem oX2_ofTwo_36 : OpS mX2_ofTwo 36 (o_const (.int 1) 37) := s_iconst (by decide +kernel : decode cX2_ofTwo 36 = .ok (.iconst 1, 1)) (by decide)
theorem oX2_ofTwo_37 : OpS mX2_ofTwo 37 (o_ibin (fun x y => x + y) 38) := s_iadd (by decide +kernel : decode cX2_ofTwo 37 = .ok (.iadd, 1))
theorem oX2_ofTwo_38 : OpS mX2_ofTwo 38 (o_callV mX2_sum 2 1 41) := s_callV ceX2_sum clsX2 (Or.inl wd_993) wd_995 selX2_sum (by decide +kernel : decode cX2_ofTwo 38 = .ok (.invokevirtual 63, 3))
theorem oX2_ofTwo_41 : OpS mX2_ofTwo 41 (o_if (fun x => x = 0) 53 44) := s_if_eq (by decide +kernel : decode cX2_ofTwo 41 = .ok (.ifCond .eq 12, 3)) (by decide)
theorem oX2_ofTwo_44 : OpS mX2_ofTwo 44 (o_aload 0 45) := s_aload_n (by decide +kernel : decode cX2_ofTwo 44 = .ok (.aload_n 0, 1)) rfl
theorem oX2_ofTwo_45 : OpS mX2_ofTwo 45 (o_const (.int 41) 47) := s_bipush (by decide +kernel : decode cX2_ofTwo 45 = .ok (.bipush 41, 2)) (by decide)
theorem oX2_ofTwo_47 : OpS mX2_ofTwo 47 (o_callV mX2_skip 2 1 50) := s_callV ceX2_skip clsX2 (Or.inl wd_972) wd_974 selX2_skip (by decide +kernel : decode cX2_ofTwo 47 = .ok (.invokevirtual 42, 3))
theorem oX2_ofTwo_50 : OpS mX2_ofTwo 50 (o_if (fun x => x = 0) 53 55) := s_if_ne (by decide +kernel : decode cX2_ofTwo 50 = .ok (.ifCond .ne 5, 3)) (by decide)
theorem oX2_ofTwo_53 : OpS mX2_ofTwo 53 (o_const (.int 0) 54) := s_iconst (by decide +kernel : decode cX2_ofTwo 53 = .ok (.iconst 0, 1)) (by decide)
theorem oX2_ofTwo_54 : OpS mX2_ofTwo 54 (o_zret) := s_zret rfl (by decide +kernel : decode cX2_ofTwo 54 = .ok (.ireturn, 1))
theorem oX2_ofTwo_55 : OpS mX2_ofTwo 55 (o_aload 0 56) := s_aload_n (by decide +kernel : decode cX2_ofTwo 55 = .ok (.aload_n 0, 1)) rfl
theorem oX2_ofTwo_56 : OpS mX2_ofTwo 56 (o_getP 2 3 59) := s_getP (k := 3) clsX2 (by decide) rfl (Or.inl wd_950) (by decide +kernel : decode cX2_ofTwo 56 = .ok (.getfield 29, 3)) rfl
theorem oX2_ofTwo_59 : OpS mX2_ofTwo 59 (o_iload 1 60) := s_iload_n (by decide +kernel : decode cX2_ofTwo 59 = .ok (.iload_n 1, 1)) rfl
theorem oX2_ofTwo_60 : OpS mX2_ofTwo 60 (o_const (.int 0) 61) := s_iconst (by decide +kernel : decode cX2_ofTwo 60 = .ok (.iconst 0, 1)) (by decide)
theorem oX2_ofTwo_61 : OpS mX2_ofTwo 61 (o_callV mX1_addStep 1 2 64) := s_callV ceX1_addStep clsX1 (Or.inl wd_1009) wd_1010 selX1_addStep (by decide +kernel : decode cX2_ofTwo 61 = .ok (.invokevirtual 78, 3))
theorem oX2_ofTwo_64 : OpS mX2_ofTwo 64 (o_const (.int 1) 65) := s_iconst (by decide +kernel : decode cX2_ofTwo 64 = .ok (.iconst 1, 1)) (by decide)
theorem oX2_ofTwo_65 : OpS mX2_ofTwo 65 (o_zret) := s_zret rfl (by decide +kernel : decode cX2_ofTwo 65 = .ok (.ireturn, 1))
