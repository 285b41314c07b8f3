theorem oX8_init_0 : OpS mX8_init 0 (o_aload 0 1) := s_aload_n (by decide +kernel : decode cX8_init 0 = .ok (.aload_n 0, 1)) rfl
theorem oX8_init_1 : OpS mX8_init 1 (o_objinit 4) := s_objinit wd_717 wd_55 wd_56 (by decide +kernel : decode cX8_init 1 = .ok (.invokespecial 3, 3))
theorem oX8_init_4 : OpS mX8_init 4 (o_aload 0 5) := s_aload_n (by decide +kernel : decode cX8_init 4 = .ok (.aload_n 0, 1)) rfl
theorem oX8_init_5 : OpS mX8_init 5 (o_new 9 2 8) := s_new clsX9 defX9 wd_718 wd_426 wd_2 (by decide +kernel : decode cX8_init 5 = .ok (.new 9, 3))
theorem oX8_init_8 : OpS mX8_init 8 (o_dup 9) := s_dup (by decide +kernel : decode cX8_init 8 = .ok (.dup, 1))
theorem oX8_init_9 : OpS mX8_init 9 (o_const (.int 400) 12) := s_sipush (by decide +kernel : decode cX8_init 9 = .ok (.sipush 400, 3)) (by decide)
theorem oX8_init_12 : OpS mX8_init 12 (o_callI mX9_init 1 15) := s_callI ceX9_init rfl rfl (Or.inl wd_719) wd_428 (by decide +kernel : decode cX8_init 12 = .ok (.invokespecial 11, 3))
theorem oX8_init_15 : OpS mX8_init 15 (o_putP 8 0 18) := s_putP (k := 0) clsX8 (by decide) rfl (Or.inl ⟨wd_720, Or.inr ⟨rfl, rfl, rfl⟩⟩) (by decide +kernel : decode cX8_init 15 = .ok (.putfield 14, 3)) rfl (fun _ => rfl) (fun _ => rfl)
theorem oX8_init_18 : OpS mX8_init 18 (o_vret) := s_vret rfl (by decide +kernel : decode cX8_init 18 = .ok (.return_, 1))
theorem oX8_boost_0 : OpS mX8_boost 0 (o_aload 1 1) := s_aload_n (by decide +kernel : decode cX8_boost 0 = .ok (.aload_n 1, 1)) rfl
theorem oX8_boost_1 : OpS mX8_boost 1 (o_getP 0 5 4) := s_getP (k := 5) clsX0 (by decide) rfl (Or.inr ⟨_, wd_659⟩) (by decide +kernel : decode cX8_boost 1 = .ok (.getfield 20, 3)) rfl
theorem oX8_boost_4 : OpS mX8_boost 4 (o_astore 5 10 6) := s_astore (by decide +kernel : decode cX8_boost 4 = .ok (.astore 5, 2)) rfl
theorem oX8_boost_6 : OpS mX8_boost 6 (o_const (.int 0) 7) := s_iconst (by decide +kernel : decode cX8_boost 6 = .ok (.iconst 0, 1)) (by decide)
theorem oX8_boost_7 : OpS mX8_boost 7 (o_istore 6 10 9) := s_istore (by decide +kernel : decode cX8_boost 7 = .ok (.istore 6, 2)) rfl
theorem oX8_boost_9 : OpS mX8_boost 9 (o_const (.int 0) 10) := s_iconst (by decide +kernel : decode cX8_boost 9 = .ok (.iconst 0, 1)) (by decide)
theorem oX8_boost_10 : OpS mX8_boost 10 (o_istore 7 10 12) := s_istore (by decide +kernel : decode cX8_boost 10 = .ok (.istore 7, 2)) rfl
theorem oX8_boost_12 : OpS mX8_boost 12 (o_iload 7 14) := s_iload (by decide +kernel : decode cX8_boost 12 = .ok (.iload 7, 2))
theorem oX8_boost_14 : OpS mX8_boost 14 (o_aload 5 16) := s_aload (by decide +kernel : decode cX8_boost 14 = .ok (.aload 5, 2))
theorem oX8_boost_16 : OpS mX8_boost 16 (o_callV mX1_size 1 0 19) := s_callV ceX1_size clsX1 (Or.inl wd_157) wd_158 selX1_size (by decide +kernel : decode cX8_boost 16 = .ok (.invokevirtual 26, 3))
theorem oX8_boost_19 : OpS mX8_boost 19 (o_icmp (fun x y => y ≤ x) 118 22) := s_icmp_ge (by decide +kernel : decode cX8_boost 19 = .ok (.if_icmp .ge 99, 3)) (by decide)
theorem oX8_boost_22 : OpS mX8_boost 22 (o_aload 5 24) := s_aload (by decide +kernel : decode cX8_boost 22 = .ok (.aload 5, 2))
theorem oX8_boost_24 : OpS mX8_boost 24 (o_getP 1 0 27) := s_getP (k := 0) clsX1 (by decide) rfl (Or.inr ⟨_, wd_608⟩) (by decide +kernel : decode cX8_boost 24 = .ok (.getfield 32, 3)) rfl
theorem oX8_boost_27 : OpS mX8_boost 27 (o_iload 7 29) := s_iload (by decide +kernel : decode cX8_boost 27 = .ok (.iload 7, 2))
theorem oX8_boost_29 : OpS mX8_boost 29 (o_callV mX9_at 9 1 32) := s_callV ceX9_at clsX9 (Or.inl wd_162) wd_133 selX9_at (by decide +kernel : decode cX8_boost 29 = .ok (.invokevirtual 35, 3))
theorem oX8_boost_32 : OpS mX8_boost 32 (o_iload 3 33) := s_iload_n (by decide +kernel : decode cX8_boost 32 = .ok (.iload_n 3, 1)) rfl
theorem oX8_boost_33 : OpS mX8_boost 33 (o_icmp (fun x y => x = y) 36 112) := s_icmp_ne (by decide +kernel : decode cX8_boost 33 = .ok (.if_icmp .ne 79, 3)) (by decide)
theorem oX8_boost_36 : OpS mX8_boost 36 (o_aload 0 37) := s_aload_n (by decide +kernel : decode cX8_boost 36 = .ok (.aload_n 0, 1)) rfl
theorem oX8_boost_37 : OpS mX8_boost 37 (o_aload 1 38) := s_aload_n (by decide +kernel : decode cX8_boost 37 = .ok (.aload_n 1, 1)) rfl
theorem oX8_boost_38 : OpS mX8_boost 38 (o_aload 2 39) := s_aload_n (by decide +kernel : decode cX8_boost 38 = .ok (.aload_n 2, 1)) rfl
theorem oX8_boost_39 : OpS mX8_boost 39 (o_iload 4 41) := s_iload (by decide +kernel : decode cX8_boost 39 = .ok (.iload 4, 2))
theorem oX8_boost_41 : OpS mX8_boost 41 (o_aload 5 43) := s_aload (by decide +kernel : decode cX8_boost 41 = .ok (.aload 5, 2))
theorem oX8_boost_43 : OpS mX8_boost 43 (o_getP 1 1 46) := s_getP (k := 1) clsX1 (by decide) rfl (Or.inr ⟨_, wd_611⟩) (by decide +kernel : decode cX8_boost 43 = .ok (.getfield 39, 3)) rfl
theorem oX8_boost_46 : OpS mX8_boost 46 (o_iload 7 48) := s_iload (by decide +kernel : decode cX8_boost 46 = .ok (.iload 7, 2))
theorem oX8_boost_48 : OpS mX8_boost 48 (o_callV mX9_at 9 1 51) := s_callV ceX9_at clsX9 (Or.inl wd_162) wd_133 selX9_at (by decide +kernel : decode cX8_boost 48 = .ok (.invokevirtual 35, 3))
theorem oX8_boost_51 : OpS mX8_boost 51 (o_aload 5 53) := s_aload (by decide +kernel : decode cX8_boost 51 = .ok (.aload 5, 2))
theorem oX8_boost_53 : OpS mX8_boost 53 (o_getP 1 2 56) := s_getP (k := 2) clsX1 (by decide) rfl (Or.inr ⟨_, wd_613⟩) (by decide +kernel : decode cX8_boost 53 = .ok (.getfield 42, 3)) rfl
theorem oX8_boost_56 : OpS mX8_boost 56 (o_iload 7 58) := s_iload (by decide +kernel : decode cX8_boost 56 = .ok (.iload 7, 2))
theorem oX8_boost_58 : OpS mX8_boost 58 (o_callV mX9_at 9 1 61) := s_callV ceX9_at clsX9 (Or.inl wd_162) wd_133 selX9_at (by decide +kernel : decode cX8_boost 58 = .ok (.invokevirtual 35, 3))
theorem oX8_boost_61 : OpS mX8_boost 61 (o_callV mX8_run 8 5 64) := s_callV ceX8_run clsX8 (Or.inl wd_163) wd_165 selX8_run (by decide +kernel : decode cX8_boost 61 = .ok (.invokevirtual 45, 3))
theorem oX8_boost_64 : OpS mX8_boost 64 (o_istore 8 10 66) := s_istore (by decide +kernel : decode cX8_boost 64 = .ok (.istore 8, 2)) rfl
theorem oX8_boost_66 : OpS mX8_boost 66 (o_aload 0 67) := s_aload_n (by decide +kernel : decode cX8_boost 66 = .ok (.aload_n 0, 1)) rfl
theorem oX8_boost_67 : OpS mX8_boost 67 (o_aload 1 68) := s_aload_n (by decide +kernel : decode cX8_boost 67 = .ok (.aload_n 1, 1)) rfl
theorem oX8_boost_68 : OpS mX8_boost 68 (o_aload 2 69) := s_aload_n (by decide +kernel : decode cX8_boost 68 = .ok (.aload_n 2, 1)) rfl
theorem oX8_boost_69 : OpS mX8_boost 69 (o_iload 4 71) := s_iload (by decide +kernel : decode cX8_boost 69 = .ok (.iload 4, 2))
theorem oX8_boost_71 : OpS mX8_boost 71 (o_aload 5 73) := s_aload (by decide +kernel : decode cX8_boost 71 = .ok (.aload 5, 2))
theorem oX8_boost_73 : OpS mX8_boost 73 (o_getP 1 2 76) := s_getP (k := 2) clsX1 (by decide) rfl (Or.inr ⟨_, wd_613⟩) (by decide +kernel : decode cX8_boost 73 = .ok (.getfield 42, 3)) rfl
theorem oX8_boost_76 : OpS mX8_boost 76 (o_iload 7 78) := s_iload (by decide +kernel : decode cX8_boost 76 = .ok (.iload 7, 2))
theorem oX8_boost_78 : OpS mX8_boost 78 (o_callV mX9_at 9 1 81) := s_callV ceX9_at clsX9 (Or.inl wd_162) wd_133 selX9_at (by decide +kernel : decode cX8_boost 78 = .ok (.invokevirtual 35, 3))
theorem oX8_boost_81 : OpS mX8_boost 81 (o_aload 5 83) := s_aload (by decide +kernel : decode cX8_boost 81 = .ok (.aload 5, 2))
theorem oX8_boost_83 : OpS mX8_boost 83 (o_getP 1 3 86) := s_getP (k := 3) clsX1 (by decide) rfl (Or.inr ⟨_, wd_615⟩) (by decide +kernel : decode cX8_boost 83 = .ok (.getfield 49, 3)) rfl
theorem oX8_boost_86 : OpS mX8_boost 86 (o_iload 7 88) := s_iload (by decide +kernel : decode cX8_boost 86 = .ok (.iload 7, 2))
theorem oX8_boost_88 : OpS mX8_boost 88 (o_callV mX9_at 9 1 91) := s_callV ceX9_at clsX9 (Or.inl wd_162) wd_133 selX9_at (by decide +kernel : decode cX8_boost 88 = .ok (.invokevirtual 35, 3))
theorem oX8_boost_91 : OpS mX8_boost 91 (o_callV mX8_run 8 5 94) := s_callV ceX8_run clsX8 (Or.inl wd_163) wd_165 selX8_run (by decide +kernel : decode cX8_boost 91 = .ok (.invokevirtual 45, 3))
theorem oX8_boost_94 : OpS mX8_boost 94 (o_istore 9 10 96) := s_istore (by decide +kernel : decode cX8_boost 94 = .ok (.istore 9, 2)) rfl
theorem oX8_boost_96 : OpS mX8_boost 96 (o_iload 6 98) := s_iload (by decide +kernel : decode cX8_boost 96 = .ok (.iload 6, 2))
theorem oX8_boost_98 : OpS mX8_boost 98 (o_iload 9 100) := s_iload (by decide +kernel : decode cX8_boost 98 = .ok (.iload 9, 2))
theorem oX8_boost_100 : OpS mX8_boost 100 (o_if (fun x => x = 0) 108 103) := s_if_eq (by decide +kernel : decode cX8_boost 100 = .ok (.ifCond .eq 8, 3)) (by decide)
theorem oX8_boost_103 : OpS mX8_boost 103 (o_iload 8 105) := s_iload (by decide +kernel : decode cX8_boost 103 = .ok (.iload 8, 2))
theorem oX8_boost_105 : OpS mX8_boost 105 (o_goto 109) := s_goto (by decide +kernel : decode cX8_boost 105 = .ok (.goto 4, 3)) (by decide)
theorem oX8_boost_108 : OpS mX8_boost 108 (o_const (.int 0) 109) := s_iconst (by decide +kernel : decode cX8_boost 108 = .ok (.iconst 0, 1)) (by decide)
theorem oX8_boost_109 : OpS mX8_boost 109 (o_ibin (fun x y => x + y) 110) := s_iadd (by decide +kernel : decode cX8_boost 109 = .ok (.iadd, 1))
theorem oX8_boost_110 : OpS mX8_boost 110 (o_istore 6 10 112) := s_istore (by decide +kernel : decode cX8_boost 110 = .ok (.istore 6, 2)) rfl
theorem oX8_boost_112 : OpS mX8_boost 112 (o_iinc 7 10 1 115) := s_iinc (by decide +kernel : decode cX8_boost 112 = .ok (.iinc 7 1, 3)) (by decide) rfl
theorem oX8_boost_115 : OpS mX8_boost 115 (o_goto 12) := s_goto (by decide +kernel : decode cX8_boost 115 = .ok (.goto (-103), 3)) (by decide)
theorem oX8_boost_118 : OpS mX8_boost 118 (o_iload 6 120) := s_iload (by decide +kernel : decode cX8_boost 118 = .ok (.iload 6, 2))
theorem oX8_boost_120 : OpS mX8_boost 120 (o_iret) := s_iret rfl (by decide +kernel : decode cX8_boost 120 = .ok (.ireturn, 1))
theorem oX8_run_0 : OpS mX8_run 0 (o_aload 0 1) := s_aload_n (by decide +kernel : decode cX8_run 0 = .ok (.aload_n 0, 1)) rfl
theorem oX8_run_1 : OpS mX8_run 1 (o_getP 8 0 4) := s_getP (k := 0) clsX8 (by decide) rfl (Or.inl wd_720) (by decide +kernel : decode cX8_run 1 = .ok (.getfield 14, 3)) rfl
theorem oX8_run_4 : OpS mX8_run 4 (o_callV mX9_clear 9 0 7) := s_callV ceX9_clear clsX9 (Or.inl wd_168) wd_109 selX9_clear (by decide +kernel : decode cX8_run 4 = .ok (.invokevirtual 52, 3))
theorem oX8_run_7 : OpS mX8_run 7 (o_iload 4 9) := s_iload (by decide +kernel : decode cX8_run 7 = .ok (.iload 4, 2))
theorem oX8_run_9 : OpS mX8_run 9 (o_istore 6 9 11) := s_istore (by decide +kernel : decode cX8_run 9 = .ok (.istore 6, 2)) rfl
theorem oX8_run_11 : OpS mX8_run 11 (o_iload 6 13) := s_iload (by decide +kernel : decode cX8_run 11 = .ok (.iload 6, 2))
theorem oX8_run_13 : OpS mX8_run 13 (o_iload 5 15) := s_iload (by decide +kernel : decode cX8_run 13 = .ok (.iload 5, 2))
theorem oX8_run_15 : OpS mX8_run 15 (o_icmp (fun x y => y ≤ x) 352 18) := s_icmp_ge (by decide +kernel : decode cX8_run 15 = .ok (.if_icmp .ge 337, 3)) (by decide)
theorem oX8_run_18 : OpS mX8_run 18 (o_aload 1 19) := s_aload_n (by decide +kernel : decode cX8_run 18 = .ok (.aload_n 1, 1)) rfl
theorem oX8_run_19 : OpS mX8_run 19 (o_getP 0 5 22) := s_getP (k := 5) clsX0 (by decide) rfl (Or.inr ⟨_, wd_659⟩) (by decide +kernel : decode cX8_run 19 = .ok (.getfield 20, 3)) rfl
theorem oX8_run_22 : OpS mX8_run 22 (o_getP 1 4 25) := s_getP (k := 4) clsX1 (by decide) rfl (Or.inr ⟨_, wd_617⟩) (by decide +kernel : decode cX8_run 22 = .ok (.getfield 55, 3)) rfl
theorem oX8_run_25 : OpS mX8_run 25 (o_iload 6 27) := s_iload (by decide +kernel : decode cX8_run 25 = .ok (.iload 6, 2))
theorem oX8_run_27 : OpS mX8_run 27 (o_callV mX9_at 9 1 30) := s_callV ceX9_at clsX9 (Or.inl wd_162) wd_133 selX9_at (by decide +kernel : decode cX8_run 27 = .ok (.invokevirtual 35, 3))
theorem oX8_run_30 : OpS mX8_run 30 (o_istore 7 9 32) := s_istore (by decide +kernel : decode cX8_run 30 = .ok (.istore 7, 2)) rfl
theorem oX8_run_32 : OpS mX8_run 32 (o_aload 1 33) := s_aload_n (by decide +kernel : decode cX8_run 32 = .ok (.aload_n 1, 1)) rfl
theorem oX8_run_33 : OpS mX8_run 33 (o_getP 0 5 36) := s_getP (k := 5) clsX0 (by decide) rfl (Or.inr ⟨_, wd_659⟩) (by decide +kernel : decode cX8_run 33 = .ok (.getfield 20, 3)) rfl
theorem oX8_run_36 : OpS mX8_run 36 (o_getP 1 5 39) := s_getP (k := 5) clsX1 (by decide) rfl (Or.inr ⟨_, wd_619⟩) (by decide +kernel : decode cX8_run 36 = .ok (.getfield 58, 3)) rfl
theorem oX8_run_39 : OpS mX8_run 39 (o_iload 6 41) := s_iload (by decide +kernel : decode cX8_run 39 = .ok (.iload 6, 2))
theorem oX8_run_41 : OpS mX8_run 41 (o_callV mX9_at 9 1 44) := s_callV ceX9_at clsX9 (Or.inl wd_162) wd_133 selX9_at (by decide +kernel : decode cX8_run 41 = .ok (.invokevirtual 35, 3))
theorem oX8_run_44 : OpS mX8_run 44 (o_istore 8 9 46) := s_istore (by decide +kernel : decode cX8_run 44 = .ok (.istore 8, 2)) rfl
theorem oX8_run_46 : OpS mX8_run 46 (o_iload 7 48) := s_iload (by decide +kernel : decode cX8_run 46 = .ok (.iload 7, 2))
theorem oX8_run_48 : OpS mX8_run 48 (o_sw [(2, 203), (3, 320), (4, 320), (5, 320), (6, 320), (7, 320), (8, 259), (9, 259), (10, 259), (11, 192), (12, 259), (13, 222), (14, 295), (15, 320), (16, 320), (17, 320), (18, 320), (19, 320), (20, 320), (21, 180), (22, 320), (23, 320), (24, 320), (25, 320), (26, 320), (27, 320), (28, 320), (29, 320), (30, 277)] 320) := s_tsw (by decide +kernel : decode cX8_run 48 = .ok (.tableswitch 272 2 30 #[155, 272, 272, 272, 272, 272, 211, 211, 211, 144, 211, 174, 247, 272, 272, 272, 272, 272, 272, 132, 272, 272, 272, 272, 272, 272, 272, 272, 229], 132)) (by decide) (by decide) (by decide)
theorem oX8_run_180 : OpS mX8_run 180 (o_aload 0 181) := s_aload_n (by decide +kernel : decode cX8_run 180 = .ok (.aload_n 0, 1)) rfl
theorem oX8_run_181 : OpS mX8_run 181 (o_getP 8 0 184) := s_getP (k := 0) clsX8 (by decide) rfl (Or.inl wd_720) (by decide +kernel : decode cX8_run 181 = .ok (.getfield 14, 3)) rfl
theorem oX8_run_184 : OpS mX8_run 184 (o_iload 8 186) := s_iload (by decide +kernel : decode cX8_run 184 = .ok (.iload 8, 2))
theorem oX8_run_186 : OpS mX8_run 186 (o_callV mX9_add 9 1 189) := s_callV ceX9_add clsX9 (Or.inl wd_169) wd_129 selX9_add (by decide +kernel : decode cX8_run 186 = .ok (.invokevirtual 61, 3))
theorem oX8_run_189 : OpS mX8_run 189 (o_goto 346) := s_goto (by decide +kernel : decode cX8_run 189 = .ok (.goto 157, 3)) (by decide)
theorem oX8_run_192 : OpS mX8_run 192 (o_aload 0 193) := s_aload_n (by decide +kernel : decode cX8_run 192 = .ok (.aload_n 0, 1)) rfl
theorem oX8_run_193 : OpS mX8_run 193 (o_getP 8 0 196) := s_getP (k := 0) clsX8 (by decide) rfl (Or.inl wd_720) (by decide +kernel : decode cX8_run 193 = .ok (.getfield 14, 3)) rfl
theorem oX8_run_196 : OpS mX8_run 196 (o_iload 3 197) := s_iload_n (by decide +kernel : decode cX8_run 196 = .ok (.iload_n 3, 1)) rfl
theorem oX8_run_197 : OpS mX8_run 197 (o_callV mX9_add 9 1 200) := s_callV ceX9_add clsX9 (Or.inl wd_169) wd_129 selX9_add (by decide +kernel : decode cX8_run 197 = .ok (.invokevirtual 61, 3))
theorem oX8_run_200 : OpS mX8_run 200 (o_goto 346) := s_goto (by decide +kernel : decode cX8_run 200 = .ok (.goto 146, 3)) (by decide)
theorem oX8_run_203 : OpS mX8_run 203 (o_aload 0 204) := s_aload_n (by decide +kernel : decode cX8_run 203 = .ok (.aload_n 0, 1)) rfl
theorem oX8_run_204 : OpS mX8_run 204 (o_getP 8 0 207) := s_getP (k := 0) clsX8 (by decide) rfl (Or.inl wd_720) (by decide +kernel : decode cX8_run 204 = .ok (.getfield 14, 3)) rfl
theorem oX8_run_207 : OpS mX8_run 207 (o_aload 1 208) := s_aload_n (by decide +kernel : decode cX8_run 207 = .ok (.aload_n 1, 1)) rfl
theorem oX8_run_208 : OpS mX8_run 208 (o_getP 0 2 211) := s_getP (k := 2) clsX0 (by decide) rfl (Or.inr ⟨_, wd_646⟩) (by decide +kernel : decode cX8_run 208 = .ok (.getfield 64, 3)) rfl
theorem oX8_run_211 : OpS mX8_run 211 (o_iload 8 213) := s_iload (by decide +kernel : decode cX8_run 211 = .ok (.iload 8, 2))
theorem oX8_run_213 : OpS mX8_run 213 (o_callV mX9_at 9 1 216) := s_callV ceX9_at clsX9 (Or.inl wd_162) wd_133 selX9_at (by decide +kernel : decode cX8_run 213 = .ok (.invokevirtual 35, 3))
theorem oX8_run_216 : OpS mX8_run 216 (o_callV mX9_add 9 1 219) := s_callV ceX9_add clsX9 (Or.inl wd_169) wd_129 selX9_add (by decide +kernel : decode cX8_run 216 = .ok (.invokevirtual 61, 3))
theorem oX8_run_219 : OpS mX8_run 219 (o_goto 346) := s_goto (by decide +kernel : decode cX8_run 219 = .ok (.goto 127, 3)) (by decide)
theorem oX8_run_222 : OpS mX8_run 222 (o_aload 0 223) := s_aload_n (by decide +kernel : decode cX8_run 222 = .ok (.aload_n 0, 1)) rfl
theorem oX8_run_223 : OpS mX8_run 223 (o_getP 8 0 226) := s_getP (k := 0) clsX8 (by decide) rfl (Or.inl wd_720) (by decide +kernel : decode cX8_run 223 = .ok (.getfield 14, 3)) rfl
theorem oX8_run_226 : OpS mX8_run 226 (o_aload 2 227) := s_aload_n (by decide +kernel : decode cX8_run 226 = .ok (.aload_n 2, 1)) rfl
theorem oX8_run_227 : OpS mX8_run 227 (o_getP 3 0 230) := s_getP (k := 0) clsX3 (by decide) rfl (Or.inr ⟨_, wd_684⟩) (by decide +kernel : decode cX8_run 227 = .ok (.getfield 67, 3)) rfl
theorem oX8_run_230 : OpS mX8_run 230 (o_aload 1 231) := s_aload_n (by decide +kernel : decode cX8_run 230 = .ok (.aload_n 1, 1)) rfl
theorem oX8_run_231 : OpS mX8_run 231 (o_getP 0 5 234) := s_getP (k := 5) clsX0 (by decide) rfl (Or.inr ⟨_, wd_659⟩) (by decide +kernel : decode cX8_run 231 = .ok (.getfield 20, 3)) rfl
theorem oX8_run_234 : OpS mX8_run 234 (o_getP 1 6 237) := s_getP (k := 6) clsX1 (by decide) rfl (Or.inr ⟨_, wd_621⟩) (by decide +kernel : decode cX8_run 234 = .ok (.getfield 72, 3)) rfl
theorem oX8_run_237 : OpS mX8_run 237 (o_iload 8 239) := s_iload (by decide +kernel : decode cX8_run 237 = .ok (.iload 8, 2))
theorem oX8_run_239 : OpS mX8_run 239 (o_callV mX5_at 5 1 242) := s_callV ceX5_at clsX5 (Or.inl wd_170) wd_117 selX5_at (by decide +kernel : decode cX8_run 239 = .ok (.invokevirtual 76, 3))
theorem oX8_run_242 : OpS mX8_run 242 (o_callV mX9_beginsWith 9 1 245) := s_callV ceX9_beginsWith clsX9 (Or.inl wd_171) wd_172 selX9_beginsWith (by decide +kernel : decode cX8_run 242 = .ok (.invokevirtual 81, 3))
theorem oX8_run_245 : OpS mX8_run 245 (o_if (fun x => x = 0) 252 248) := s_if_eq (by decide +kernel : decode cX8_run 245 = .ok (.ifCond .eq 7, 3)) (by decide)
theorem oX8_run_248 : OpS mX8_run 248 (o_const (.int 1) 249) := s_iconst (by decide +kernel : decode cX8_run 248 = .ok (.iconst 1, 1)) (by decide)
theorem oX8_run_249 : OpS mX8_run 249 (o_goto 253) := s_goto (by decide +kernel : decode cX8_run 249 = .ok (.goto 4, 3)) (by decide)
theorem oX8_run_252 : OpS mX8_run 252 (o_const (.int 0) 253) := s_iconst (by decide +kernel : decode cX8_run 252 = .ok (.iconst 0, 1)) (by decide)
theorem oX8_run_253 : OpS mX8_run 253 (o_callV mX9_add 9 1 256) := s_callV ceX9_add clsX9 (Or.inl wd_169) wd_129 selX9_add (by decide +kernel : decode cX8_run 253 = .ok (.invokevirtual 61, 3))
theorem oX8_run_256 : OpS mX8_run 256 (o_goto 346) := s_goto (by decide +kernel : decode cX8_run 256 = .ok (.goto 90, 3)) (by decide)
theorem oX8_run_259 : OpS mX8_run 259 (o_aload 0 260) := s_aload_n (by decide +kernel : decode cX8_run 259 = .ok (.aload_n 0, 1)) rfl
theorem oX8_run_260 : OpS mX8_run 260 (o_getP 8 0 263) := s_getP (k := 0) clsX8 (by decide) rfl (Or.inl wd_720) (by decide +kernel : decode cX8_run 260 = .ok (.getfield 14, 3)) rfl
theorem oX8_run_263 : OpS mX8_run 263 (o_iload 7 265) := s_iload (by decide +kernel : decode cX8_run 263 = .ok (.iload 7, 2))
theorem oX8_run_265 : OpS mX8_run 265 (o_iload 8 267) := s_iload (by decide +kernel : decode cX8_run 265 = .ok (.iload 8, 2))
theorem oX8_run_267 : OpS mX8_run 267 (o_aload 2 268) := s_aload_n (by decide +kernel : decode cX8_run 267 = .ok (.aload_n 2, 1)) rfl
theorem oX8_run_268 : OpS mX8_run 268 (o_callS mX8_ofHand 3 271) := s_callS ceX8_ofHand (Or.inl wd_180) wd_181 (by decide +kernel : decode cX8_run 268 = .ok (.invokestatic 85, 3))
theorem oX8_run_271 : OpS mX8_run 271 (o_callV mX9_add 9 1 274) := s_callV ceX9_add clsX9 (Or.inl wd_169) wd_129 selX9_add (by decide +kernel : decode cX8_run 271 = .ok (.invokevirtual 61, 3))
theorem oX8_run_274 : OpS mX8_run 274 (o_goto 346) := s_goto (by decide +kernel : decode cX8_run 274 = .ok (.goto 72, 3)) (by decide)
theorem oX8_run_277 : OpS mX8_run 277 (o_aload 0 278) := s_aload_n (by decide +kernel : decode cX8_run 277 = .ok (.aload_n 0, 1)) rfl
theorem oX8_run_278 : OpS mX8_run 278 (o_getP 8 0 281) := s_getP (k := 0) clsX8 (by decide) rfl (Or.inl wd_720) (by decide +kernel : decode cX8_run 278 = .ok (.getfield 14, 3)) rfl
theorem oX8_run_281 : OpS mX8_run 281 (o_aload 0 282) := s_aload_n (by decide +kernel : decode cX8_run 281 = .ok (.aload_n 0, 1)) rfl
theorem oX8_run_282 : OpS mX8_run 282 (o_getP 8 0 285) := s_getP (k := 0) clsX8 (by decide) rfl (Or.inl wd_720) (by decide +kernel : decode cX8_run 282 = .ok (.getfield 14, 3)) rfl
theorem oX8_run_285 : OpS mX8_run 285 (o_callV mX9_removeLast 9 0 288) := s_callV ceX9_removeLast clsX9 (Or.inl wd_184) wd_185 selX9_removeLast (by decide +kernel : decode cX8_run 285 = .ok (.invokevirtual 89, 3))
theorem oX8_run_288 : OpS mX8_run 288 (o_iun (fun x => -x) 289) := s_ineg (by decide +kernel : decode cX8_run 288 = .ok (.ineg, 1))
theorem oX8_run_289 : OpS mX8_run 289 (o_callV mX9_add 9 1 292) := s_callV ceX9_add clsX9 (Or.inl wd_169) wd_129 selX9_add (by decide +kernel : decode cX8_run 289 = .ok (.invokevirtual 61, 3))
theorem oX8_run_292 : OpS mX8_run 292 (o_goto 346) := s_goto (by decide +kernel : decode cX8_run 292 = .ok (.goto 54, 3)) (by decide)
theorem oX8_run_295 : OpS mX8_run 295 (o_aload 0 296) := s_aload_n (by decide +kernel : decode cX8_run 295 = .ok (.aload_n 0, 1)) rfl
theorem oX8_run_296 : OpS mX8_run 296 (o_getP 8 0 299) := s_getP (k := 0) clsX8 (by decide) rfl (Or.inl wd_720) (by decide +kernel : decode cX8_run 296 = .ok (.getfield 14, 3)) rfl
theorem oX8_run_299 : OpS mX8_run 299 (o_aload 0 300) := s_aload_n (by decide +kernel : decode cX8_run 299 = .ok (.aload_n 0, 1)) rfl
theorem oX8_run_300 : OpS mX8_run 300 (o_getP 8 0 303) := s_getP (k := 0) clsX8 (by decide) rfl (Or.inl wd_720) (by decide +kernel : decode cX8_run 300 = .ok (.getfield 14, 3)) rfl
theorem oX8_run_303 : OpS mX8_run 303 (o_callV mX9_removeLast 9 0 306) := s_callV ceX9_removeLast clsX9 (Or.inl wd_184) wd_185 selX9_removeLast (by decide +kernel : decode cX8_run 303 = .ok (.invokevirtual 89, 3))
theorem oX8_run_306 : OpS mX8_run 306 (o_if (fun x => x = 0) 309 313) := s_if_ne (by decide +kernel : decode cX8_run 306 = .ok (.ifCond .ne 7, 3)) (by decide)
theorem oX8_run_309 : OpS mX8_run 309 (o_const (.int 1) 310) := s_iconst (by decide +kernel : decode cX8_run 309 = .ok (.iconst 1, 1)) (by decide)
theorem oX8_run_310 : OpS mX8_run 310 (o_goto 314) := s_goto (by decide +kernel : decode cX8_run 310 = .ok (.goto 4, 3)) (by decide)
theorem oX8_run_313 : OpS mX8_run 313 (o_const (.int 0) 314) := s_iconst (by decide +kernel : decode cX8_run 313 = .ok (.iconst 0, 1)) (by decide)
theorem oX8_run_314 : OpS mX8_run 314 (o_callV mX9_add 9 1 317) := s_callV ceX9_add clsX9 (Or.inl wd_169) wd_129 selX9_add (by decide +kernel : decode cX8_run 314 = .ok (.invokevirtual 61, 3))
theorem oX8_run_317 : OpS mX8_run 317 (o_goto 346) := s_goto (by decide +kernel : decode cX8_run 317 = .ok (.goto 29, 3)) (by decide)
theorem oX8_run_320 : OpS mX8_run 320 (o_aload 0 321) := s_aload_n (by decide +kernel : decode cX8_run 320 = .ok (.aload_n 0, 1)) rfl
theorem oX8_run_321 : OpS mX8_run 321 (o_getP 8 0 324) := s_getP (k := 0) clsX8 (by decide) rfl (Or.inl wd_720) (by decide +kernel : decode cX8_run 321 = .ok (.getfield 14, 3)) rfl
theorem oX8_run_324 : OpS mX8_run 324 (o_iload 7 326) := s_iload (by decide +kernel : decode cX8_run 324 = .ok (.iload 7, 2))
theorem oX8_run_326 : OpS mX8_run 326 (o_aload 0 327) := s_aload_n (by decide +kernel : decode cX8_run 326 = .ok (.aload_n 0, 1)) rfl
theorem oX8_run_327 : OpS mX8_run 327 (o_getP 8 0 330) := s_getP (k := 0) clsX8 (by decide) rfl (Or.inl wd_720) (by decide +kernel : decode cX8_run 327 = .ok (.getfield 14, 3)) rfl
theorem oX8_run_330 : OpS mX8_run 330 (o_callV mX9_removeLast 9 0 333) := s_callV ceX9_removeLast clsX9 (Or.inl wd_184) wd_185 selX9_removeLast (by decide +kernel : decode cX8_run 330 = .ok (.invokevirtual 89, 3))
theorem oX8_run_333 : OpS mX8_run 333 (o_aload 0 334) := s_aload_n (by decide +kernel : decode cX8_run 333 = .ok (.aload_n 0, 1)) rfl
theorem oX8_run_334 : OpS mX8_run 334 (o_getP 8 0 337) := s_getP (k := 0) clsX8 (by decide) rfl (Or.inl wd_720) (by decide +kernel : decode cX8_run 334 = .ok (.getfield 14, 3)) rfl
theorem oX8_run_337 : OpS mX8_run 337 (o_callV mX9_removeLast 9 0 340) := s_callV ceX9_removeLast clsX9 (Or.inl wd_184) wd_185 selX9_removeLast (by decide +kernel : decode cX8_run 337 = .ok (.invokevirtual 89, 3))
theorem oX8_run_340 : OpS mX8_run 340 (o_callS mX8_ofTwo 3 343) := s_callS ceX8_ofTwo (Or.inl wd_188) wd_189 (by decide +kernel : decode cX8_run 340 = .ok (.invokestatic 92, 3))
theorem oX8_run_343 : OpS mX8_run 343 (o_callV mX9_add 9 1 346) := s_callV ceX9_add clsX9 (Or.inl wd_169) wd_129 selX9_add (by decide +kernel : decode cX8_run 343 = .ok (.invokevirtual 61, 3))
theorem oX8_run_346 : OpS mX8_run 346 (o_iinc 6 9 1 349) := s_iinc (by decide +kernel : decode cX8_run 346 = .ok (.iinc 6 1, 3)) (by decide) rfl
theorem oX8_run_349 : OpS mX8_run 349 (o_goto 11) := s_goto (by decide +kernel : decode cX8_run 349 = .ok (.goto (-338), 3)) (by decide)
theorem oX8_run_352 : OpS mX8_run 352 (o_aload 0 353) := s_aload_n (by decide +kernel : decode cX8_run 352 = .ok (.aload_n 0, 1)) rfl
theorem oX8_run_353 : OpS mX8_run 353 (o_getP 8 0 356) := s_getP (k := 0) clsX8 (by decide) rfl (Or.inl wd_720) (by decide +kernel : decode cX8_run 353 = .ok (.getfield 14, 3)) rfl
theorem oX8_run_356 : OpS mX8_run 356 (o_callV mX9_removeLast 9 0 359) := s_callV ceX9_removeLast clsX9 (Or.inl wd_184) wd_185 selX9_removeLast (by decide +kernel : decode cX8_run 356 = .ok (.invokevirtual 89, 3))
theorem oX8_run_359 : OpS mX8_run 359 (o_iret) := s_iret rfl (by decide +kernel : decode cX8_run 359 = .ok (.ireturn, 1))
theorem oX8_ofHand_0 : OpS mX8_ofHand 0 (o_iload 0 1) := s_iload_n (by decide +kernel : decode cX8_ofHand 0 = .ok (.iload_n 0, 1)) rfl
theorem oX8_ofHand_1 : OpS mX8_ofHand 1 (o_sw [(8, 28), (9, 36), (10, 41)] 46) := s_tsw (by decide +kernel : decode cX8_ofHand 1 = .ok (.tableswitch 45 8 10 #[27, 35, 40], 27)) (by decide) (by decide) (by decide)
theorem oX8_ofHand_28 : OpS mX8_ofHand 28 (o_aload 2 29) := s_aload_n (by decide +kernel : decode cX8_ofHand 28 = .ok (.aload_n 2, 1)) rfl
theorem oX8_ofHand_29 : OpS mX8_ofHand 29 (o_getP 3 0 32) := s_getP (k := 0) clsX3 (by decide) rfl (Or.inr ⟨_, wd_684⟩) (by decide +kernel : decode cX8_ofHand 29 = .ok (.getfield 67, 3)) rfl
theorem oX8_ofHand_32 : OpS mX8_ofHand 32 (o_callV mX9_size 9 0 35) := s_callV ceX9_size clsX9 (Or.inl wd_183) wd_125 selX9_size (by decide +kernel : decode cX8_ofHand 32 = .ok (.invokevirtual 96, 3))
theorem oX8_ofHand_35 : OpS mX8_ofHand 35 (o_iret) := s_iret rfl (by decide +kernel : decode cX8_ofHand 35 = .ok (.ireturn, 1))
theorem oX8_ofHand_36 : OpS mX8_ofHand 36 (o_aload 2 37) := s_aload_n (by decide +kernel : decode cX8_ofHand 36 = .ok (.aload_n 2, 1)) rfl
theorem oX8_ofHand_37 : OpS mX8_ofHand 37 (o_getI 3 1 40) := s_getI (k := 1) clsX3 (by decide) rfl (Or.inr ⟨_, wd_688⟩) (by decide +kernel : decode cX8_ofHand 37 = .ok (.getfield 97, 3)) rfl
theorem oX8_ofHand_40 : OpS mX8_ofHand 40 (o_iret) := s_iret rfl (by decide +kernel : decode cX8_ofHand 40 = .ok (.ireturn, 1))
theorem oX8_ofHand_41 : OpS mX8_ofHand 41 (o_aload 2 42) := s_aload_n (by decide +kernel : decode cX8_ofHand 41 = .ok (.aload_n 2, 1)) rfl
theorem oX8_ofHand_42 : OpS mX8_ofHand 42 (o_getI 3 3 45) := s_getI (k := 3) clsX3 (by decide) rfl (Or.inr ⟨_, wd_694⟩) (by decide +kernel : decode cX8_ofHand 42 = .ok (.getfield 101, 3)) rfl
theorem oX8_ofHand_45 : OpS mX8_ofHand 45 (o_iret) := s_iret rfl (by decide +kernel : decode cX8_ofHand 45 = .ok (.ireturn, 1))
theorem oX8_ofHand_46 : OpS mX8_ofHand 46 (o_aload 2 47) := s_aload_n (by decide +kernel : decode cX8_ofHand 46 = .ok (.aload_n 2, 1)) rfl
theorem oX8_ofHand_47 : OpS mX8_ofHand 47 (o_getI 3 2 50) := s_getI (k := 2) clsX3 (by decide) rfl (Or.inr ⟨_, wd_691⟩) (by decide +kernel : decode cX8_ofHand 47 = .ok (.getfield 104, 3)) rfl
theorem oX8_ofHand_50 : OpS mX8_ofHand 50 (o_iload 1 51) := s_iload_n (by decide +kernel : decode cX8_ofHand 50 = .ok (.iload_n 1, 1)) rfl
theorem oX8_ofHand_51 : OpS mX8_ofHand 51 (o_icmp (fun x y => x = y) 54 58) := s_icmp_ne (by decide +kernel : decode cX8_ofHand 51 = .ok (.if_icmp .ne 7, 3)) (by decide)
theorem oX8_ofHand_54 : OpS mX8_ofHand 54 (o_const (.int 1) 55) := s_iconst (by decide +kernel : decode cX8_ofHand 54 = .ok (.iconst 1, 1)) (by decide)
theorem oX8_ofHand_55 : OpS mX8_ofHand 55 (o_goto 59) := s_goto (by decide +kernel : decode cX8_ofHand 55 = .ok (.goto 4, 3)) (by decide)
theorem oX8_ofHand_58 : OpS mX8_ofHand 58 (o_const (.int 0) 59) := s_iconst (by decide +kernel : decode cX8_ofHand 58 = .ok (.iconst 0, 1)) (by decide)
theorem oX8_ofHand_59 : OpS mX8_ofHand 59 (o_iret) := s_iret rfl (by decide +kernel : decode cX8_ofHand 59 = .ok (.ireturn, 1))
theorem oX8_ofTwo_0 : OpS mX8_ofTwo 0 (o_iload 0 1) := s_iload_n (by decide +kernel : decode cX8_ofTwo 0 = .ok (.iload_n 0, 1)) rfl
theorem oX8_ofTwo_1 : OpS mX8_ofTwo 1 (o_sw [(17, 84), (18, 90), (42, 68), (43, 60), (45, 64), (47, 72)] 96) := s_lsw (by decide +kernel : decode cX8_ofTwo 1 = .ok (.lookupswitch 95 #[(17, 83), (18, 89), (42, 67), (43, 59), (45, 63), (47, 71)], 59)) (by decide) (by decide) (by decide)
theorem oX8_ofTwo_60 : OpS mX8_ofTwo 60 (o_iload 2 61) := s_iload_n (by decide +kernel : decode cX8_ofTwo 60 = .ok (.iload_n 2, 1)) rfl
theorem oX8_ofTwo_61 : OpS mX8_ofTwo 61 (o_iload 1 62) := s_iload_n (by decide +kernel : decode cX8_ofTwo 61 = .ok (.iload_n 1, 1)) rfl
theorem oX8_ofTwo_62 : OpS mX8_ofTwo 62 (o_ibin (fun x y => x + y) 63) := s_iadd (by decide +kernel : decode cX8_ofTwo 62 = .ok (.iadd, 1))
theorem oX8_ofTwo_63 : OpS mX8_ofTwo 63 (o_iret) := s_iret rfl (by decide +kernel : decode cX8_ofTwo 63 = .ok (.ireturn, 1))
theorem oX8_ofTwo_64 : OpS mX8_ofTwo 64 (o_iload 2 65) := s_iload_n (by decide +kernel : decode cX8_ofTwo 64 = .ok (.iload_n 2, 1)) rfl
theorem oX8_ofTwo_65 : OpS mX8_ofTwo 65 (o_iload 1 66) := s_iload_n (by decide +kernel : decode cX8_ofTwo 65 = .ok (.iload_n 1, 1)) rfl
theorem oX8_ofTwo_66 : OpS mX8_ofTwo 66 (o_ibin (fun x y => x - y) 67) := s_isub (by decide +kernel : decode cX8_ofTwo 66 = .ok (.isub, 1))
theorem oX8_ofTwo_67 : OpS mX8_ofTwo 67 (o_iret) := s_iret rfl (by decide +kernel : decode cX8_ofTwo 67 = .ok (.ireturn, 1))
theorem oX8_ofTwo_68 : OpS mX8_ofTwo 68 (o_iload 2 69) := s_iload_n (by decide +kernel : decode cX8_ofTwo 68 = .ok (.iload_n 2, 1)) rfl
theorem oX8_ofTwo_69 : OpS mX8_ofTwo 69 (o_iload 1 70) := s_iload_n (by decide +kernel : decode cX8_ofTwo 69 = .ok (.iload_n 1, 1)) rfl
theorem oX8_ofTwo_70 : OpS mX8_ofTwo 70 (o_ibin (fun x y => x * y) 71) := s_imul (by decide +kernel : decode cX8_ofTwo 70 = .ok (.imul, 1))
theorem oX8_ofTwo_71 : OpS mX8_ofTwo 71 (o_iret) := s_iret rfl (by decide +kernel : decode cX8_ofTwo 71 = .ok (.ireturn, 1))
theorem oX8_ofTwo_72 : OpS mX8_ofTwo 72 (o_iload 1 73) := s_iload_n (by decide +kernel : decode cX8_ofTwo 72 = .ok (.iload_n 1, 1)) rfl
theorem oX8_ofTwo_73 : OpS mX8_ofTwo 73 (o_if (fun x => x = 0) 76 80) := s_if_ne (by decide +kernel : decode cX8_ofTwo 73 = .ok (.ifCond .ne 7, 3)) (by decide)
theorem oX8_ofTwo_76 : OpS mX8_ofTwo 76 (o_const (.int 0) 77) := s_iconst (by decide +kernel : decode cX8_ofTwo 76 = .ok (.iconst 0, 1)) (by decide)
theorem oX8_ofTwo_77 : OpS mX8_ofTwo 77 (o_goto 83) := s_goto (by decide +kernel : decode cX8_ofTwo 77 = .ok (.goto 6, 3)) (by decide)
theorem oX8_ofTwo_80 : OpS mX8_ofTwo 80 (o_iload 2 81) := s_iload_n (by decide +kernel : decode cX8_ofTwo 80 = .ok (.iload_n 2, 1)) rfl
theorem oX8_ofTwo_81 : OpS mX8_ofTwo 81 (o_iload 1 82) := s_iload_n (by decide +kernel : decode cX8_ofTwo 81 = .ok (.iload_n 1, 1)) rfl
theorem oX8_ofTwo_82 : OpS mX8_ofTwo 82 (o_idiv 83) := s_idiv (by decide +kernel : decode cX8_ofTwo 82 = .ok (.idiv, 1))
theorem oX8_ofTwo_83 : OpS mX8_ofTwo 83 (o_iret) := s_iret rfl (by decide +kernel : decode cX8_ofTwo 83 = .ok (.ireturn, 1))
theorem oX8_ofTwo_84 : OpS mX8_ofTwo 84 (o_iload 2 85) := s_iload_n (by decide +kernel : decode cX8_ofTwo 84 = .ok (.iload_n 2, 1)) rfl
theorem oX8_ofTwo_85 : OpS mX8_ofTwo 85 (o_iload 1 86) := s_iload_n (by decide +kernel : decode cX8_ofTwo 85 = .ok (.iload_n 1, 1)) rfl
theorem oX8_ofTwo_86 : OpS mX8_ofTwo 86 (o_min 89) := s_min wd_191 wd_146 wd_3 wd_147 (by decide +kernel : decode cX8_ofTwo 86 = .ok (.invokestatic 107, 3))
theorem oX8_ofTwo_89 : OpS mX8_ofTwo 89 (o_iret) := s_iret rfl (by decide +kernel : decode cX8_ofTwo 89 = .ok (.ireturn, 1))
theorem oX8_ofTwo_90 : OpS mX8_ofTwo 90 (o_iload 2 91) := s_iload_n (by decide +kernel : decode cX8_ofTwo 90 = .ok (.iload_n 2, 1)) rfl
theorem oX8_ofTwo_91 : OpS mX8_ofTwo 91 (o_iload 1 92) := s_iload_n (by decide +kernel : decode cX8_ofTwo 91 = .ok (.iload_n 1, 1)) rfl
theorem oX8_ofTwo_92 : OpS mX8_ofTwo 92 (o_max 95) := s_max wd_192 wd_193 wd_3 wd_194 (by decide +kernel : decode cX8_ofTwo 92 = .ok (.invokestatic 113, 3))
theorem oX8_ofTwo_95 : OpS mX8_ofTwo 95 (o_iret) := s_iret rfl (by decide +kernel : decode cX8_ofTwo 95 = .ok (.ireturn, 1))
theorem oX8_ofTwo_96 : OpS mX8_ofTwo 96 (o_iload 0 97) := s_iload_n (by decide +kernel : decode cX8_ofTwo 96 = .ok (.iload_n 0, 1)) rfl
theorem oX8_ofTwo_97 : OpS mX8_ofTwo 97 (o_iload 2 98) := s_iload_n (by decide +kernel : decode cX8_ofTwo 97 = .ok (.iload_n 2, 1)) rfl
theorem oX8_ofTwo_98 : OpS mX8_ofTwo 98 (o_iload 1 99) := s_iload_n (by decide +kernel : decode cX8_ofTwo 98 = .ok (.iload_n 1, 1)) rfl
theorem oX8_ofTwo_99 : OpS mX8_ofTwo 99 (o_callS mX8_holds 3 102) := s_callS ceX8_holds (Or.inl wd_195) wd_196 (by decide +kernel : decode cX8_ofTwo 99 = .ok (.invokestatic 116, 3))
theorem oX8_ofTwo_102 : OpS mX8_ofTwo 102 (o_if (fun x => x = 0) 109 105) := s_if_eq (by decide +kernel : decode cX8_ofTwo 102 = .ok (.ifCond .eq 7, 3)) (by decide)
theorem oX8_ofTwo_105 : OpS mX8_ofTwo 105 (o_const (.int 1) 106) := s_iconst (by decide +kernel : decode cX8_ofTwo 105 = .ok (.iconst 1, 1)) (by decide)
theorem oX8_ofTwo_106 : OpS mX8_ofTwo 106 (o_goto 110) := s_goto (by decide +kernel : decode cX8_ofTwo 106 = .ok (.goto 4, 3)) (by decide)
theorem oX8_ofTwo_109 : OpS mX8_ofTwo 109 (o_const (.int 0) 110) := s_iconst (by decide +kernel : decode cX8_ofTwo 109 = .ok (.iconst 0, 1)) (by decide)
theorem oX8_ofTwo_110 : OpS mX8_ofTwo 110 (o_iret) := s_iret rfl (by decide +kernel : decode cX8_ofTwo 110 = .ok (.ireturn, 1))
theorem oX8_holds_0 : OpS mX8_holds 0 (o_iload 0 1) := s_iload_n (by decide +kernel : decode cX8_holds 0 = .ok (.iload_n 0, 1)) rfl
theorem oX8_holds_1 : OpS mX8_holds 1 (o_sw [(15, 115), (22, 93), (23, 104), (60, 60), (61, 82), (62, 71)] 129) := s_lsw (by decide +kernel : decode cX8_holds 1 = .ok (.lookupswitch 128 #[(15, 114), (22, 92), (23, 103), (60, 59), (61, 81), (62, 70)], 59)) (by decide) (by decide) (by decide)
theorem oX8_holds_60 : OpS mX8_holds 60 (o_iload 1 61) := s_iload_n (by decide +kernel : decode cX8_holds 60 = .ok (.iload_n 1, 1)) rfl
theorem oX8_holds_61 : OpS mX8_holds 61 (o_iload 2 62) := s_iload_n (by decide +kernel : decode cX8_holds 61 = .ok (.iload_n 2, 1)) rfl
theorem oX8_holds_62 : OpS mX8_holds 62 (o_icmp (fun x y => y ≤ x) 69 65) := s_icmp_ge (by decide +kernel : decode cX8_holds 62 = .ok (.if_icmp .ge 7, 3)) (by decide)
theorem oX8_holds_65 : OpS mX8_holds 65 (o_const (.int 1) 66) := s_iconst (by decide +kernel : decode cX8_holds 65 = .ok (.iconst 1, 1)) (by decide)
theorem oX8_holds_66 : OpS mX8_holds 66 (o_goto 70) := s_goto (by decide +kernel : decode cX8_holds 66 = .ok (.goto 4, 3)) (by decide)
theorem oX8_holds_69 : OpS mX8_holds 69 (o_const (.int 0) 70) := s_iconst (by decide +kernel : decode cX8_holds 69 = .ok (.iconst 0, 1)) (by decide)
theorem oX8_holds_70 : OpS mX8_holds 70 (o_zret) := s_zret rfl (by decide +kernel : decode cX8_holds 70 = .ok (.ireturn, 1))
theorem oX8_holds_71 : OpS mX8_holds 71 (o_iload 1 72) := s_iload_n (by decide +kernel : decode cX8_holds 71 = .ok (.iload_n 1, 1)) rfl
theorem oX8_holds_72 : OpS mX8_holds 72 (o_iload 2 73) := s_iload_n (by decide +kernel : decode cX8_holds 72 = .ok (.iload_n 2, 1)) rfl
theorem oX8_holds_73 : OpS mX8_holds 73 (o_icmp (fun x y => x ≤ y) 80 76) := s_icmp_le (by decide +kernel : decode cX8_holds 73 = .ok (.if_icmp .le 7, 3)) (by decide)
theorem oX8_holds_76 : OpS mX8_holds 76 (o_const (.int 1) 77) := s_iconst (by decide +kernel : decode cX8_holds 76 = .ok (.iconst 1, 1)) (by decide)
theorem oX8_holds_77 : OpS mX8_holds 77 (o_goto 81) := s_goto (by decide +kernel : decode cX8_holds 77 = .ok (.goto 4, 3)) (by decide)
theorem oX8_holds_80 : OpS mX8_holds 80 (o_const (.int 0) 81) := s_iconst (by decide +kernel : decode cX8_holds 80 = .ok (.iconst 0, 1)) (by decide)
theorem oX8_holds_81 : OpS mX8_holds 81 (o_zret) := s_zret rfl (by decide +kernel : decode cX8_holds 81 = .ok (.ireturn, 1))
theorem oX8_holds_82 : OpS mX8_holds 82 (o_iload 1 83) := s_iload_n (by decide +kernel : decode cX8_holds 82 = .ok (.iload_n 1, 1)) rfl
theorem oX8_holds_83 : OpS mX8_holds 83 (o_iload 2 84) := s_iload_n (by decide +kernel : decode cX8_holds 83 = .ok (.iload_n 2, 1)) rfl
theorem oX8_holds_84 : OpS mX8_holds 84 (o_icmp (fun x y => x = y) 87 91) := s_icmp_ne (by decide +kernel : decode cX8_holds 84 = .ok (.if_icmp .ne 7, 3)) (by decide)
theorem oX8_holds_87 : OpS mX8_holds 87 (o_const (.int 1) 88) := s_iconst (by decide +kernel : decode cX8_holds 87 = .ok (.iconst 1, 1)) (by decide)
theorem oX8_holds_88 : OpS mX8_holds 88 (o_goto 92) := s_goto (by decide +kernel : decode cX8_holds 88 = .ok (.goto 4, 3)) (by decide)
theorem oX8_holds_91 : OpS mX8_holds 91 (o_const (.int 0) 92) := s_iconst (by decide +kernel : decode cX8_holds 91 = .ok (.iconst 0, 1)) (by decide)
theorem oX8_holds_92 : OpS mX8_holds 92 (o_zret) := s_zret rfl (by decide +kernel : decode cX8_holds 92 = .ok (.ireturn, 1))
theorem oX8_holds_93 : OpS mX8_holds 93 (o_iload 1 94) := s_iload_n (by decide +kernel : decode cX8_holds 93 = .ok (.iload_n 1, 1)) rfl
theorem oX8_holds_94 : OpS mX8_holds 94 (o_iload 2 95) := s_iload_n (by decide +kernel : decode cX8_holds 94 = .ok (.iload_n 2, 1)) rfl
theorem oX8_holds_95 : OpS mX8_holds 95 (o_icmp (fun x y => y < x) 102 98) := s_icmp_gt (by decide +kernel : decode cX8_holds 95 = .ok (.if_icmp .gt 7, 3)) (by decide)
theorem oX8_holds_98 : OpS mX8_holds 98 (o_const (.int 1) 99) := s_iconst (by decide +kernel : decode cX8_holds 98 = .ok (.iconst 1, 1)) (by decide)
theorem oX8_holds_99 : OpS mX8_holds 99 (o_goto 103) := s_goto (by decide +kernel : decode cX8_holds 99 = .ok (.goto 4, 3)) (by decide)
theorem oX8_holds_102 : OpS mX8_holds 102 (o_const (.int 0) 103) := s_iconst (by decide +kernel : decode cX8_holds 102 = .ok (.iconst 0, 1)) (by decide)
theorem oX8_holds_103 : OpS mX8_holds 103 (o_zret) := s_zret rfl (by decide +kernel : decode cX8_holds 103 = .ok (.ireturn, 1))
theorem oX8_holds_104 : OpS mX8_holds 104 (o_iload 1 105) := s_iload_n (by decide +kernel : decode cX8_holds 104 = .ok (.iload_n 1, 1)) rfl
theorem oX8_holds_105 : OpS mX8_holds 105 (o_iload 2 106) := s_iload_n (by decide +kernel : decode cX8_holds 105 = .ok (.iload_n 2, 1)) rfl
theorem oX8_holds_106 : OpS mX8_holds 106 (o_icmp (fun x y => x < y) 113 109) := s_icmp_lt (by decide +kernel : decode cX8_holds 106 = .ok (.if_icmp .lt 7, 3)) (by decide)
theorem oX8_holds_109 : OpS mX8_holds 109 (o_const (.int 1) 110) := s_iconst (by decide +kernel : decode cX8_holds 109 = .ok (.iconst 1, 1)) (by decide)
theorem oX8_holds_110 : OpS mX8_holds 110 (o_goto 114) := s_goto (by decide +kernel : decode cX8_holds 110 = .ok (.goto 4, 3)) (by decide)
theorem oX8_holds_113 : OpS mX8_holds 113 (o_const (.int 0) 114) := s_iconst (by decide +kernel : decode cX8_holds 113 = .ok (.iconst 0, 1)) (by decide)
theorem oX8_holds_114 : OpS mX8_holds 114 (o_zret) := s_zret rfl (by decide +kernel : decode cX8_holds 114 = .ok (.ireturn, 1))
theorem oX8_holds_115 : OpS mX8_holds 115 (o_iload 1 116) := s_iload_n (by decide +kernel : decode cX8_holds 115 = .ok (.iload_n 1, 1)) rfl
theorem oX8_holds_116 : OpS mX8_holds 116 (o_if (fun x => x = 0) 127 119) := s_if_eq (by decide +kernel : decode cX8_holds 116 = .ok (.ifCond .eq 11, 3)) (by decide)
theorem oX8_holds_119 : OpS mX8_holds 119 (o_iload 2 120) := s_iload_n (by decide +kernel : decode cX8_holds 119 = .ok (.iload_n 2, 1)) rfl
theorem oX8_holds_120 : OpS mX8_holds 120 (o_if (fun x => x = 0) 127 123) := s_if_eq (by decide +kernel : decode cX8_holds 120 = .ok (.ifCond .eq 7, 3)) (by decide)
theorem oX8_holds_123 : OpS mX8_holds 123 (o_const (.int 1) 124) := s_iconst (by decide +kernel : decode cX8_holds 123 = .ok (.iconst 1, 1)) (by decide)
theorem oX8_holds_124 : OpS mX8_holds 124 (o_goto 128) := s_goto (by decide +kernel : decode cX8_holds 124 = .ok (.goto 4, 3)) (by decide)
theorem oX8_holds_127 : OpS mX8_holds 127 (o_const (.int 0) 128) := s_iconst (by decide +kernel : decode cX8_holds 127 = .ok (.iconst 0, 1)) (by decide)
theorem oX8_holds_128 : OpS mX8_holds 128 (o_zret) := s_zret rfl (by decide +kernel : decode cX8_holds 128 = .ok (.ireturn, 1))
theorem oX8_holds_129 : OpS mX8_holds 129 (o_iload 1 130) := s_iload_n (by decide +kernel : decode cX8_holds 129 = .ok (.iload_n 1, 1)) rfl
theorem oX8_holds_130 : OpS mX8_holds 130 (o_if (fun x => x = 0) 133 137) := s_if_ne (by decide +kernel : decode cX8_holds 130 = .ok (.ifCond .ne 7, 3)) (by decide)
theorem oX8_holds_133 : OpS mX8_holds 133 (o_iload 2 134) := s_iload_n (by decide +kernel : decode cX8_holds 133 = .ok (.iload_n 2, 1)) rfl
theorem oX8_holds_134 : OpS mX8_holds 134 (o_if (fun x => x = 0) 141 137) := s_if_eq (by decide +kernel : decode cX8_holds 134 = .ok (.ifCond .eq 7, 3)) (by decide)
theorem oX8_holds_137 : OpS mX8_holds 137 (o_const (.int 1) 138) := s_iconst (by decide +kernel : decode cX8_holds 137 = .ok (.iconst 1, 1)) (by decide)
theorem oX8_holds_138 : OpS mX8_holds 138 (o_goto 142) := s_goto (by decide +kernel : decode cX8_holds 138 = .ok (.goto 4, 3)) (by decide)
theorem oX8_holds_141 : OpS mX8_holds 141 (o_const (.int 0) 142) := s_iconst (by decide +kernel : decode cX8_holds 141 = .ok (.iconst 0, 1)) (by decide)
theorem oX8_holds_142 : OpS mX8_holds 142 (o_zret) := s_zret rfl (by decide +kernel : decode cX8_holds 142 = .ok (.ireturn, 1))
