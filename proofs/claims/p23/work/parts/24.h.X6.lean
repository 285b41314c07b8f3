theorem oX6_init_0 : OpS mX6_init 0 (o_aload 0 1) := s_aload_n (by decide +kernel : decode cX6_init 0 = .ok (.aload_n 0, 1)) rfl
theorem oX6_init_1 : OpS mX6_init 1 (o_objinit 4) := s_objinit wd_710 wd_55 wd_56 (by decide +kernel : decode cX6_init 1 = .ok (.invokespecial 3, 3))
theorem oX6_init_4 : OpS mX6_init 4 (o_aload 0 5) := s_aload_n (by decide +kernel : decode cX6_init 4 = .ok (.aload_n 0, 1)) rfl
theorem oX6_init_5 : OpS mX6_init 5 (o_new 9 2 8) := s_new clsX9 defX9 wd_711 wd_426 wd_2 (by decide +kernel : decode cX6_init 5 = .ok (.new 9, 3))
theorem oX6_init_8 : OpS mX6_init 8 (o_dup 9) := s_dup (by decide +kernel : decode cX6_init 8 = .ok (.dup, 1))
theorem oX6_init_9 : OpS mX6_init 9 (o_const (.int 40) 11) := s_bipush (by decide +kernel : decode cX6_init 9 = .ok (.bipush 40, 2)) (by decide)
theorem oX6_init_11 : OpS mX6_init 11 (o_callI mX9_init 1 14) := s_callI ceX9_init rfl rfl (Or.inl wd_712) wd_428 (by decide +kernel : decode cX6_init 11 = .ok (.invokespecial 11, 3))
theorem oX6_init_14 : OpS mX6_init 14 (o_putP 6 0 17) := s_putP (k := 0) clsX6 (by decide) rfl (Or.inl ⟨wd_724, Or.inr ⟨rfl, rfl, rfl⟩⟩) (by decide +kernel : decode cX6_init 14 = .ok (.putfield 14, 3)) rfl (fun _ => rfl) (fun _ => rfl)
theorem oX6_init_17 : OpS mX6_init 17 (o_aload 0 18) := s_aload_n (by decide +kernel : decode cX6_init 17 = .ok (.aload_n 0, 1)) rfl
theorem oX6_init_18 : OpS mX6_init 18 (o_new 9 2 21) := s_new clsX9 defX9 wd_711 wd_426 wd_2 (by decide +kernel : decode cX6_init 18 = .ok (.new 9, 3))
theorem oX6_init_21 : OpS mX6_init 21 (o_dup 22) := s_dup (by decide +kernel : decode cX6_init 21 = .ok (.dup, 1))
theorem oX6_init_22 : OpS mX6_init 22 (o_const (.int 40) 24) := s_bipush (by decide +kernel : decode cX6_init 22 = .ok (.bipush 40, 2)) (by decide)
theorem oX6_init_24 : OpS mX6_init 24 (o_callI mX9_init 1 27) := s_callI ceX9_init rfl rfl (Or.inl wd_712) wd_428 (by decide +kernel : decode cX6_init 24 = .ok (.invokespecial 11, 3))
theorem oX6_init_27 : OpS mX6_init 27 (o_putP 6 1 30) := s_putP (k := 1) clsX6 (by decide) rfl (Or.inl ⟨wd_725, Or.inr ⟨rfl, rfl, rfl⟩⟩) (by decide +kernel : decode cX6_init 27 = .ok (.putfield 20, 3)) rfl (fun _ => rfl) (fun _ => rfl)
theorem oX6_init_30 : OpS mX6_init 30 (o_aload 0 31) := s_aload_n (by decide +kernel : decode cX6_init 30 = .ok (.aload_n 0, 1)) rfl
theorem oX6_init_31 : OpS mX6_init 31 (o_new 9 2 34) := s_new clsX9 defX9 wd_711 wd_426 wd_2 (by decide +kernel : decode cX6_init 31 = .ok (.new 9, 3))
theorem oX6_init_34 : OpS mX6_init 34 (o_dup 35) := s_dup (by decide +kernel : decode cX6_init 34 = .ok (.dup, 1))
theorem oX6_init_35 : OpS mX6_init 35 (o_const (.int 40) 37) := s_bipush (by decide +kernel : decode cX6_init 35 = .ok (.bipush 40, 2)) (by decide)
theorem oX6_init_37 : OpS mX6_init 37 (o_callI mX9_init 1 40) := s_callI ceX9_init rfl rfl (Or.inl wd_712) wd_428 (by decide +kernel : decode cX6_init 37 = .ok (.invokespecial 11, 3))
theorem oX6_init_40 : OpS mX6_init 40 (o_putP 6 2 43) := s_putP (k := 2) clsX6 (by decide) rfl (Or.inl ⟨wd_726, Or.inr ⟨rfl, rfl, rfl⟩⟩) (by decide +kernel : decode cX6_init 40 = .ok (.putfield 23, 3)) rfl (fun _ => rfl) (fun _ => rfl)
theorem oX6_init_43 : OpS mX6_init 43 (o_aload 0 44) := s_aload_n (by decide +kernel : decode cX6_init 43 = .ok (.aload_n 0, 1)) rfl
theorem oX6_init_44 : OpS mX6_init 44 (o_new 9 2 47) := s_new clsX9 defX9 wd_711 wd_426 wd_2 (by decide +kernel : decode cX6_init 44 = .ok (.new 9, 3))
theorem oX6_init_47 : OpS mX6_init 47 (o_dup 48) := s_dup (by decide +kernel : decode cX6_init 47 = .ok (.dup, 1))
theorem oX6_init_48 : OpS mX6_init 48 (o_const (.int 5) 49) := s_iconst (by decide +kernel : decode cX6_init 48 = .ok (.iconst 5, 1)) (by decide)
theorem oX6_init_49 : OpS mX6_init 49 (o_callI mX9_init 1 52) := s_callI ceX9_init rfl rfl (Or.inl wd_712) wd_428 (by decide +kernel : decode cX6_init 49 = .ok (.invokespecial 11, 3))
theorem oX6_init_52 : OpS mX6_init 52 (o_putP 6 3 55) := s_putP (k := 3) clsX6 (by decide) rfl (Or.inl ⟨wd_727, Or.inr ⟨rfl, rfl, rfl⟩⟩) (by decide +kernel : decode cX6_init 52 = .ok (.putfield 26, 3)) rfl (fun _ => rfl) (fun _ => rfl)
theorem oX6_init_55 : OpS mX6_init 55 (o_aload 0 56) := s_aload_n (by decide +kernel : decode cX6_init 55 = .ok (.aload_n 0, 1)) rfl
theorem oX6_init_56 : OpS mX6_init 56 (o_new 9 2 59) := s_new clsX9 defX9 wd_711 wd_426 wd_2 (by decide +kernel : decode cX6_init 56 = .ok (.new 9, 3))
theorem oX6_init_59 : OpS mX6_init 59 (o_dup 60) := s_dup (by decide +kernel : decode cX6_init 59 = .ok (.dup, 1))
theorem oX6_init_60 : OpS mX6_init 60 (o_const (.int 11) 62) := s_bipush (by decide +kernel : decode cX6_init 60 = .ok (.bipush 11, 2)) (by decide)
theorem oX6_init_62 : OpS mX6_init 62 (o_callI mX9_init 1 65) := s_callI ceX9_init rfl rfl (Or.inl wd_712) wd_428 (by decide +kernel : decode cX6_init 62 = .ok (.invokespecial 11, 3))
theorem oX6_init_65 : OpS mX6_init 65 (o_putP 6 4 68) := s_putP (k := 4) clsX6 (by decide) rfl (Or.inl ⟨wd_728, Or.inr ⟨rfl, rfl, rfl⟩⟩) (by decide +kernel : decode cX6_init 65 = .ok (.putfield 29, 3)) rfl (fun _ => rfl) (fun _ => rfl)
theorem oX6_init_68 : OpS mX6_init 68 (o_aload 0 69) := s_aload_n (by decide +kernel : decode cX6_init 68 = .ok (.aload_n 0, 1)) rfl
theorem oX6_init_69 : OpS mX6_init 69 (o_new 8 1 72) := s_new clsX8 defX8 wd_713 wd_166 wd_16 (by decide +kernel : decode cX6_init 69 = .ok (.new 32, 3))
theorem oX6_init_72 : OpS mX6_init 72 (o_dup 73) := s_dup (by decide +kernel : decode cX6_init 72 = .ok (.dup, 1))
theorem oX6_init_73 : OpS mX6_init 73 (o_callI mX8_init 0 76) := s_callI ceX8_init rfl rfl (Or.inr ⟨_, wd_714⟩) wd_715 (by decide +kernel : decode cX6_init 73 = .ok (.invokespecial 34, 3))
theorem oX6_init_76 : OpS mX6_init 76 (o_putP 6 5 79) := s_putP (k := 5) clsX6 (by decide) rfl (Or.inl ⟨wd_729, Or.inr ⟨rfl, rfl, rfl⟩⟩) (by decide +kernel : decode cX6_init 76 = .ok (.putfield 35, 3)) rfl (fun _ => rfl) (fun _ => rfl)
theorem oX6_init_79 : OpS mX6_init 79 (o_aload 0 80) := s_aload_n (by decide +kernel : decode cX6_init 79 = .ok (.aload_n 0, 1)) rfl
theorem oX6_init_80 : OpS mX6_init 80 (o_const (.int 0) 81) := s_iconst (by decide +kernel : decode cX6_init 80 = .ok (.iconst 0, 1)) (by decide)
theorem oX6_init_81 : OpS mX6_init 81 (o_putI 6 6 84) := s_putI (k := 6) clsX6 (by decide) rfl (Or.inl ⟨wd_730, Or.inl rfl⟩) (by decide +kernel : decode cX6_init 81 = .ok (.putfield 39, 3)) rfl rfl
theorem oX6_init_84 : OpS mX6_init 84 (o_vret) := s_vret rfl (by decide +kernel : decode cX6_init 84 = .ok (.return_, 1))
theorem oX6_far_0 : OpS mX6_far 0 (o_aload 0 1) := s_aload_n (by decide +kernel : decode cX6_far 0 = .ok (.aload_n 0, 1)) rfl
theorem oX6_far_1 : OpS mX6_far 1 (o_getP 6 0 4) := s_getP (k := 0) clsX6 (by decide) rfl (Or.inl wd_724) (by decide +kernel : decode cX6_far 1 = .ok (.getfield 14, 3)) rfl
theorem oX6_far_4 : OpS mX6_far 4 (o_iload 1 5) := s_iload_n (by decide +kernel : decode cX6_far 4 = .ok (.iload_n 1, 1)) rfl
theorem oX6_far_5 : OpS mX6_far 5 (o_callV mX9_at 9 1 8) := s_callV ceX9_at clsX9 (Or.inl wd_132) wd_133 selX9_at (by decide +kernel : decode cX6_far 5 = .ok (.invokevirtual 43, 3))
theorem oX6_far_8 : OpS mX6_far 8 (o_iret) := s_iret rfl (by decide +kernel : decode cX6_far 8 = .ok (.ireturn, 1))
theorem oX6_score_0 : OpS mX6_score 0 (o_aload 0 1) := s_aload_n (by decide +kernel : decode cX6_score 0 = .ok (.aload_n 0, 1)) rfl
theorem oX6_score_1 : OpS mX6_score 1 (o_getP 6 1 4) := s_getP (k := 1) clsX6 (by decide) rfl (Or.inl wd_725) (by decide +kernel : decode cX6_score 1 = .ok (.getfield 20, 3)) rfl
theorem oX6_score_4 : OpS mX6_score 4 (o_iload 1 5) := s_iload_n (by decide +kernel : decode cX6_score 4 = .ok (.iload_n 1, 1)) rfl
theorem oX6_score_5 : OpS mX6_score 5 (o_callV mX9_at 9 1 8) := s_callV ceX9_at clsX9 (Or.inl wd_132) wd_133 selX9_at (by decide +kernel : decode cX6_score 5 = .ok (.invokevirtual 43, 3))
theorem oX6_score_8 : OpS mX6_score 8 (o_iret) := s_iret rfl (by decide +kernel : decode cX6_score 8 = .ok (.ireturn, 1))
theorem oX6_place_0 : OpS mX6_place 0 (o_aload 0 1) := s_aload_n (by decide +kernel : decode cX6_place 0 = .ok (.aload_n 0, 1)) rfl
theorem oX6_place_1 : OpS mX6_place 1 (o_getP 6 2 4) := s_getP (k := 2) clsX6 (by decide) rfl (Or.inl wd_726) (by decide +kernel : decode cX6_place 1 = .ok (.getfield 23, 3)) rfl
theorem oX6_place_4 : OpS mX6_place 4 (o_iload 1 5) := s_iload_n (by decide +kernel : decode cX6_place 4 = .ok (.iload_n 1, 1)) rfl
theorem oX6_place_5 : OpS mX6_place 5 (o_callV mX9_at 9 1 8) := s_callV ceX9_at clsX9 (Or.inl wd_132) wd_133 selX9_at (by decide +kernel : decode cX6_place 5 = .ok (.invokevirtual 43, 3))
theorem oX6_place_8 : OpS mX6_place 8 (o_iret) := s_iret rfl (by decide +kernel : decode cX6_place 8 = .ok (.ireturn, 1))
theorem oX6_nearWords_0 : OpS mX6_nearWords 0 (o_aload 0 1) := s_aload_n (by decide +kernel : decode cX6_nearWords 0 = .ok (.aload_n 0, 1)) rfl
theorem oX6_nearWords_1 : OpS mX6_nearWords 1 (o_getI 6 6 4) := s_getI (k := 6) clsX6 (by decide) rfl (Or.inl wd_730) (by decide +kernel : decode cX6_nearWords 1 = .ok (.getfield 39, 3)) rfl
theorem oX6_nearWords_4 : OpS mX6_nearWords 4 (o_iret) := s_iret rfl (by decide +kernel : decode cX6_nearWords 4 = .ok (.ireturn, 1))
theorem oX6_offered_0 : OpS mX6_offered 0 (o_aload 0 1) := s_aload_n (by decide +kernel : decode cX6_offered 0 = .ok (.aload_n 0, 1)) rfl
theorem oX6_offered_1 : OpS mX6_offered 1 (o_getP 6 3 4) := s_getP (k := 3) clsX6 (by decide) rfl (Or.inl wd_727) (by decide +kernel : decode cX6_offered 1 = .ok (.getfield 26, 3)) rfl
theorem oX6_offered_4 : OpS mX6_offered 4 (o_iload 1 5) := s_iload_n (by decide +kernel : decode cX6_offered 4 = .ok (.iload_n 1, 1)) rfl
theorem oX6_offered_5 : OpS mX6_offered 5 (o_callV mX9_at 9 1 8) := s_callV ceX9_at clsX9 (Or.inl wd_132) wd_133 selX9_at (by decide +kernel : decode cX6_offered 5 = .ok (.invokevirtual 43, 3))
theorem oX6_offered_8 : OpS mX6_offered 8 (o_iret) := s_iret rfl (by decide +kernel : decode cX6_offered 8 = .ok (.ireturn, 1))
theorem oX6_isOffered_0 : OpS mX6_isOffered 0 (o_aload 0 1) := s_aload_n (by decide +kernel : decode cX6_isOffered 0 = .ok (.aload_n 0, 1)) rfl
theorem oX6_isOffered_1 : OpS mX6_isOffered 1 (o_getP 6 2 4) := s_getP (k := 2) clsX6 (by decide) rfl (Or.inl wd_726) (by decide +kernel : decode cX6_isOffered 1 = .ok (.getfield 23, 3)) rfl
theorem oX6_isOffered_4 : OpS mX6_isOffered 4 (o_iload 1 5) := s_iload_n (by decide +kernel : decode cX6_isOffered 4 = .ok (.iload_n 1, 1)) rfl
theorem oX6_isOffered_5 : OpS mX6_isOffered 5 (o_callV mX9_at 9 1 8) := s_callV ceX9_at clsX9 (Or.inl wd_132) wd_133 selX9_at (by decide +kernel : decode cX6_isOffered 5 = .ok (.invokevirtual 43, 3))
theorem oX6_isOffered_8 : OpS mX6_isOffered 8 (o_if (fun x => x < 0) 27 11) := s_if_lt (by decide +kernel : decode cX6_isOffered 8 = .ok (.ifCond .lt 19, 3)) (by decide)
theorem oX6_isOffered_11 : OpS mX6_isOffered 11 (o_aload 0 12) := s_aload_n (by decide +kernel : decode cX6_isOffered 11 = .ok (.aload_n 0, 1)) rfl
theorem oX6_isOffered_12 : OpS mX6_isOffered 12 (o_getP 6 2 15) := s_getP (k := 2) clsX6 (by decide) rfl (Or.inl wd_726) (by decide +kernel : decode cX6_isOffered 12 = .ok (.getfield 23, 3)) rfl
theorem oX6_isOffered_15 : OpS mX6_isOffered 15 (o_iload 1 16) := s_iload_n (by decide +kernel : decode cX6_isOffered 15 = .ok (.iload_n 1, 1)) rfl
theorem oX6_isOffered_16 : OpS mX6_isOffered 16 (o_callV mX9_at 9 1 19) := s_callV ceX9_at clsX9 (Or.inl wd_132) wd_133 selX9_at (by decide +kernel : decode cX6_isOffered 16 = .ok (.invokevirtual 43, 3))
theorem oX6_isOffered_19 : OpS mX6_isOffered 19 (o_const (.int 5) 20) := s_iconst (by decide +kernel : decode cX6_isOffered 19 = .ok (.iconst 5, 1)) (by decide)
theorem oX6_isOffered_20 : OpS mX6_isOffered 20 (o_icmp (fun x y => y ≤ x) 27 23) := s_icmp_ge (by decide +kernel : decode cX6_isOffered 20 = .ok (.if_icmp .ge 7, 3)) (by decide)
theorem oX6_isOffered_23 : OpS mX6_isOffered 23 (o_const (.int 1) 24) := s_iconst (by decide +kernel : decode cX6_isOffered 23 = .ok (.iconst 1, 1)) (by decide)
theorem oX6_isOffered_24 : OpS mX6_isOffered 24 (o_goto 28) := s_goto (by decide +kernel : decode cX6_isOffered 24 = .ok (.goto 4, 3)) (by decide)
theorem oX6_isOffered_27 : OpS mX6_isOffered 27 (o_const (.int 0) 28) := s_iconst (by decide +kernel : decode cX6_isOffered 27 = .ok (.iconst 0, 1)) (by decide)
theorem oX6_isOffered_28 : OpS mX6_isOffered 28 (o_zret) := s_zret rfl (by decide +kernel : decode cX6_isOffered 28 = .ok (.ireturn, 1))
theorem oX6_renew_0 : OpS mX6_renew 0 (o_aload 0 1) := s_aload_n (by decide +kernel : decode cX6_renew 0 = .ok (.aload_n 0, 1)) rfl
theorem oX6_renew_1 : OpS mX6_renew 1 (o_getP 6 0 4) := s_getP (k := 0) clsX6 (by decide) rfl (Or.inl wd_724) (by decide +kernel : decode cX6_renew 1 = .ok (.getfield 14, 3)) rfl
theorem oX6_renew_4 : OpS mX6_renew 4 (o_callV mX9_clear 9 0 7) := s_callV ceX9_clear clsX9 (Or.inl wd_108) wd_109 selX9_clear (by decide +kernel : decode cX6_renew 4 = .ok (.invokevirtual 47, 3))
theorem oX6_renew_7 : OpS mX6_renew 7 (o_aload 0 8) := s_aload_n (by decide +kernel : decode cX6_renew 7 = .ok (.aload_n 0, 1)) rfl
theorem oX6_renew_8 : OpS mX6_renew 8 (o_getP 6 1 11) := s_getP (k := 1) clsX6 (by decide) rfl (Or.inl wd_725) (by decide +kernel : decode cX6_renew 8 = .ok (.getfield 20, 3)) rfl
theorem oX6_renew_11 : OpS mX6_renew 11 (o_callV mX9_clear 9 0 14) := s_callV ceX9_clear clsX9 (Or.inl wd_108) wd_109 selX9_clear (by decide +kernel : decode cX6_renew 11 = .ok (.invokevirtual 47, 3))
theorem oX6_renew_14 : OpS mX6_renew 14 (o_const (.int 0) 15) := s_iconst (by decide +kernel : decode cX6_renew 14 = .ok (.iconst 0, 1)) (by decide)
theorem oX6_renew_15 : OpS mX6_renew 15 (o_istore 3 6 16) := s_istore_n (by decide +kernel : decode cX6_renew 15 = .ok (.istore_n 3, 1)) rfl rfl
theorem oX6_renew_16 : OpS mX6_renew 16 (o_iload 3 17) := s_iload_n (by decide +kernel : decode cX6_renew 16 = .ok (.iload_n 3, 1)) rfl
theorem oX6_renew_17 : OpS mX6_renew 17 (o_aload 1 18) := s_aload_n (by decide +kernel : decode cX6_renew 17 = .ok (.aload_n 1, 1)) rfl
theorem oX6_renew_18 : OpS mX6_renew 18 (o_getP 0 1 21) := s_getP (k := 1) clsX0 (by decide) rfl (Or.inr ⟨_, wd_643⟩) (by decide +kernel : decode cX6_renew 18 = .ok (.getfield 50, 3)) rfl
theorem oX6_renew_21 : OpS mX6_renew 21 (o_callV mX5_size 5 0 24) := s_callV ceX5_size clsX5 (Or.inl wd_112) wd_113 selX5_size (by decide +kernel : decode cX6_renew 21 = .ok (.invokevirtual 56, 3))
theorem oX6_renew_24 : OpS mX6_renew 24 (o_icmp (fun x y => y ≤ x) 109 27) := s_icmp_ge (by decide +kernel : decode cX6_renew 24 = .ok (.if_icmp .ge 85, 3)) (by decide)
theorem oX6_renew_27 : OpS mX6_renew 27 (o_aload 0 28) := s_aload_n (by decide +kernel : decode cX6_renew 27 = .ok (.aload_n 0, 1)) rfl
theorem oX6_renew_28 : OpS mX6_renew 28 (o_aload 2 29) := s_aload_n (by decide +kernel : decode cX6_renew 28 = .ok (.aload_n 2, 1)) rfl
theorem oX6_renew_29 : OpS mX6_renew 29 (o_getP 3 0 32) := s_getP (k := 0) clsX3 (by decide) rfl (Or.inr ⟨_, wd_686⟩) (by decide +kernel : decode cX6_renew 29 = .ok (.getfield 62, 3)) rfl
theorem oX6_renew_32 : OpS mX6_renew 32 (o_aload 1 33) := s_aload_n (by decide +kernel : decode cX6_renew 32 = .ok (.aload_n 1, 1)) rfl
theorem oX6_renew_33 : OpS mX6_renew 33 (o_getP 0 1 36) := s_getP (k := 1) clsX0 (by decide) rfl (Or.inr ⟨_, wd_643⟩) (by decide +kernel : decode cX6_renew 33 = .ok (.getfield 50, 3)) rfl
theorem oX6_renew_36 : OpS mX6_renew 36 (o_iload 3 37) := s_iload_n (by decide +kernel : decode cX6_renew 36 = .ok (.iload_n 3, 1)) rfl
theorem oX6_renew_37 : OpS mX6_renew 37 (o_callV mX5_at 5 1 40) := s_callV ceX5_at clsX5 (Or.inl wd_116) wd_117 selX5_at (by decide +kernel : decode cX6_renew 37 = .ok (.invokevirtual 67, 3))
theorem oX6_renew_40 : OpS mX6_renew 40 (o_aload 1 41) := s_aload_n (by decide +kernel : decode cX6_renew 40 = .ok (.aload_n 1, 1)) rfl
theorem oX6_renew_41 : OpS mX6_renew 41 (o_getP 0 4 44) := s_getP (k := 4) clsX0 (by decide) rfl (Or.inr ⟨_, wd_656⟩) (by decide +kernel : decode cX6_renew 41 = .ok (.getfield 70, 3)) rfl
theorem oX6_renew_44 : OpS mX6_renew 44 (o_callV mX6_distance 6 3 47) := s_callV ceX6_distance clsX6 (Or.inl wd_120) wd_121 selX6_distance (by decide +kernel : decode cX6_renew 44 = .ok (.invokevirtual 74, 3))
theorem oX6_renew_47 : OpS mX6_renew 47 (o_istore 4 6 49) := s_istore (by decide +kernel : decode cX6_renew 47 = .ok (.istore 4, 2)) rfl
theorem oX6_renew_49 : OpS mX6_renew 49 (o_aload 0 50) := s_aload_n (by decide +kernel : decode cX6_renew 49 = .ok (.aload_n 0, 1)) rfl
theorem oX6_renew_50 : OpS mX6_renew 50 (o_getP 6 5 53) := s_getP (k := 5) clsX6 (by decide) rfl (Or.inl wd_729) (by decide +kernel : decode cX6_renew 50 = .ok (.getfield 35, 3)) rfl
theorem oX6_renew_53 : OpS mX6_renew 53 (o_aload 1 54) := s_aload_n (by decide +kernel : decode cX6_renew 53 = .ok (.aload_n 1, 1)) rfl
theorem oX6_renew_54 : OpS mX6_renew 54 (o_aload 2 55) := s_aload_n (by decide +kernel : decode cX6_renew 54 = .ok (.aload_n 2, 1)) rfl
theorem oX6_renew_55 : OpS mX6_renew 55 (o_aload 1 56) := s_aload_n (by decide +kernel : decode cX6_renew 55 = .ok (.aload_n 1, 1)) rfl
theorem oX6_renew_56 : OpS mX6_renew 56 (o_getP 0 3 59) := s_getP (k := 3) clsX0 (by decide) rfl (Or.inr ⟨_, wd_652⟩) (by decide +kernel : decode cX6_renew 56 = .ok (.getfield 78, 3)) rfl
theorem oX6_renew_59 : OpS mX6_renew 59 (o_iload 3 60) := s_iload_n (by decide +kernel : decode cX6_renew 59 = .ok (.iload_n 3, 1)) rfl
theorem oX6_renew_60 : OpS mX6_renew 60 (o_callV mX9_at 9 1 63) := s_callV ceX9_at clsX9 (Or.inl wd_132) wd_133 selX9_at (by decide +kernel : decode cX6_renew 60 = .ok (.invokevirtual 43, 3))
theorem oX6_renew_63 : OpS mX6_renew 63 (o_iload 4 65) := s_iload (by decide +kernel : decode cX6_renew 63 = .ok (.iload 4, 2))
theorem oX6_renew_65 : OpS mX6_renew 65 (o_callV mX8_boost 8 4 68) := s_callV ceX8_boost clsX8 (Or.inl wd_153) wd_154 selX8_boost (by decide +kernel : decode cX6_renew 65 = .ok (.invokevirtual 81, 3))
theorem oX6_renew_68 : OpS mX6_renew 68 (o_istore 5 6 70) := s_istore (by decide +kernel : decode cX6_renew 68 = .ok (.istore 5, 2)) rfl
theorem oX6_renew_70 : OpS mX6_renew 70 (o_aload 0 71) := s_aload_n (by decide +kernel : decode cX6_renew 70 = .ok (.aload_n 0, 1)) rfl
theorem oX6_renew_71 : OpS mX6_renew 71 (o_getP 6 0 74) := s_getP (k := 0) clsX6 (by decide) rfl (Or.inl wd_724) (by decide +kernel : decode cX6_renew 71 = .ok (.getfield 14, 3)) rfl
theorem oX6_renew_74 : OpS mX6_renew 74 (o_iload 4 76) := s_iload (by decide +kernel : decode cX6_renew 74 = .ok (.iload 4, 2))
theorem oX6_renew_76 : OpS mX6_renew 76 (o_callV mX9_add 9 1 79) := s_callV ceX9_add clsX9 (Or.inl wd_128) wd_129 selX9_add (by decide +kernel : decode cX6_renew 76 = .ok (.invokevirtual 85, 3))
theorem oX6_renew_79 : OpS mX6_renew 79 (o_aload 0 80) := s_aload_n (by decide +kernel : decode cX6_renew 79 = .ok (.aload_n 0, 1)) rfl
theorem oX6_renew_80 : OpS mX6_renew 80 (o_getP 6 1 83) := s_getP (k := 1) clsX6 (by decide) rfl (Or.inl wd_725) (by decide +kernel : decode cX6_renew 80 = .ok (.getfield 20, 3)) rfl
theorem oX6_renew_83 : OpS mX6_renew 83 (o_aload 1 84) := s_aload_n (by decide +kernel : decode cX6_renew 83 = .ok (.aload_n 1, 1)) rfl
theorem oX6_renew_84 : OpS mX6_renew 84 (o_getP 0 2 87) := s_getP (k := 2) clsX0 (by decide) rfl (Or.inr ⟨_, wd_648⟩) (by decide +kernel : decode cX6_renew 84 = .ok (.getfield 88, 3)) rfl
theorem oX6_renew_87 : OpS mX6_renew 87 (o_iload 3 88) := s_iload_n (by decide +kernel : decode cX6_renew 87 = .ok (.iload_n 3, 1)) rfl
theorem oX6_renew_88 : OpS mX6_renew 88 (o_callV mX9_at 9 1 91) := s_callV ceX9_at clsX9 (Or.inl wd_132) wd_133 selX9_at (by decide +kernel : decode cX6_renew 88 = .ok (.invokevirtual 43, 3))
theorem oX6_renew_91 : OpS mX6_renew 91 (o_iload 5 93) := s_iload (by decide +kernel : decode cX6_renew 91 = .ok (.iload 5, 2))
theorem oX6_renew_93 : OpS mX6_renew 93 (o_ibin (fun x y => x + y) 94) := s_iadd (by decide +kernel : decode cX6_renew 93 = .ok (.iadd, 1))
theorem oX6_renew_94 : OpS mX6_renew 94 (o_const (.int 10) 96) := s_bipush (by decide +kernel : decode cX6_renew 94 = .ok (.bipush 10, 2)) (by decide)
theorem oX6_renew_96 : OpS mX6_renew 96 (o_iload 4 98) := s_iload (by decide +kernel : decode cX6_renew 96 = .ok (.iload 4, 2))
theorem oX6_renew_98 : OpS mX6_renew 98 (o_ibin (fun x y => x * y) 99) := s_imul (by decide +kernel : decode cX6_renew 98 = .ok (.imul, 1))
theorem oX6_renew_99 : OpS mX6_renew 99 (o_ibin (fun x y => x - y) 100) := s_isub (by decide +kernel : decode cX6_renew 99 = .ok (.isub, 1))
theorem oX6_renew_100 : OpS mX6_renew 100 (o_callV mX9_add 9 1 103) := s_callV ceX9_add clsX9 (Or.inl wd_128) wd_129 selX9_add (by decide +kernel : decode cX6_renew 100 = .ok (.invokevirtual 85, 3))
theorem oX6_renew_103 : OpS mX6_renew 103 (o_iinc 3 6 1 106) := s_iinc (by decide +kernel : decode cX6_renew 103 = .ok (.iinc 3 1, 3)) (by decide) rfl
theorem oX6_renew_106 : OpS mX6_renew 106 (o_goto 16) := s_goto (by decide +kernel : decode cX6_renew 106 = .ok (.goto (-90), 3)) (by decide)
theorem oX6_renew_109 : OpS mX6_renew 109 (o_aload 0 110) := s_aload_n (by decide +kernel : decode cX6_renew 109 = .ok (.aload_n 0, 1)) rfl
theorem oX6_renew_110 : OpS mX6_renew 110 (o_aload 1 111) := s_aload_n (by decide +kernel : decode cX6_renew 110 = .ok (.aload_n 1, 1)) rfl
theorem oX6_renew_111 : OpS mX6_renew 111 (o_aload 2 112) := s_aload_n (by decide +kernel : decode cX6_renew 111 = .ok (.aload_n 2, 1)) rfl
theorem oX6_renew_112 : OpS mX6_renew 112 (o_getI 3 3 115) := s_getI (k := 3) clsX3 (by decide) rfl (Or.inr ⟨_, wd_695⟩) (by decide +kernel : decode cX6_renew 112 = .ok (.getfield 91, 3)) rfl
theorem oX6_renew_115 : OpS mX6_renew 115 (o_callV mX6_placeWords 6 2 118) := s_callV ceX6_placeWords clsX6 (Or.inl wd_198) wd_200 selX6_placeWords (by decide +kernel : decode cX6_renew 115 = .ok (.invokevirtual 94, 3))
theorem oX6_renew_118 : OpS mX6_renew 118 (o_vret) := s_vret rfl (by decide +kernel : decode cX6_renew 118 = .ok (.return_, 1))
theorem oX6_placeWords_0 : OpS mX6_placeWords 0 (o_aload 0 1) := s_aload_n (by decide +kernel : decode cX6_placeWords 0 = .ok (.aload_n 0, 1)) rfl
theorem oX6_placeWords_1 : OpS mX6_placeWords 1 (o_getP 6 2 4) := s_getP (k := 2) clsX6 (by decide) rfl (Or.inl wd_726) (by decide +kernel : decode cX6_placeWords 1 = .ok (.getfield 23, 3)) rfl
theorem oX6_placeWords_4 : OpS mX6_placeWords 4 (o_callV mX9_clear 9 0 7) := s_callV ceX9_clear clsX9 (Or.inl wd_108) wd_109 selX9_clear (by decide +kernel : decode cX6_placeWords 4 = .ok (.invokevirtual 47, 3))
theorem oX6_placeWords_7 : OpS mX6_placeWords 7 (o_aload 0 8) := s_aload_n (by decide +kernel : decode cX6_placeWords 7 = .ok (.aload_n 0, 1)) rfl
theorem oX6_placeWords_8 : OpS mX6_placeWords 8 (o_getP 6 3 11) := s_getP (k := 3) clsX6 (by decide) rfl (Or.inl wd_727) (by decide +kernel : decode cX6_placeWords 8 = .ok (.getfield 26, 3)) rfl
theorem oX6_placeWords_11 : OpS mX6_placeWords 11 (o_const (.int (-1)) 12) := s_iconst (by decide +kernel : decode cX6_placeWords 11 = .ok (.iconst (-1), 1)) (by decide)
theorem oX6_placeWords_12 : OpS mX6_placeWords 12 (o_callV mX9_fill 9 1 15) := s_callV ceX9_fill clsX9 (Or.inl wd_202) wd_203 selX9_fill (by decide +kernel : decode cX6_placeWords 12 = .ok (.invokevirtual 98, 3))
theorem oX6_placeWords_15 : OpS mX6_placeWords 15 (o_aload 0 16) := s_aload_n (by decide +kernel : decode cX6_placeWords 15 = .ok (.aload_n 0, 1)) rfl
theorem oX6_placeWords_16 : OpS mX6_placeWords 16 (o_const (.int 0) 17) := s_iconst (by decide +kernel : decode cX6_placeWords 16 = .ok (.iconst 0, 1)) (by decide)
theorem oX6_placeWords_17 : OpS mX6_placeWords 17 (o_putI 6 6 20) := s_putI (k := 6) clsX6 (by decide) rfl (Or.inl ⟨wd_730, Or.inl rfl⟩) (by decide +kernel : decode cX6_placeWords 17 = .ok (.putfield 39, 3)) rfl rfl
theorem oX6_placeWords_20 : OpS mX6_placeWords 20 (o_const (.int 0) 21) := s_iconst (by decide +kernel : decode cX6_placeWords 20 = .ok (.iconst 0, 1)) (by decide)
theorem oX6_placeWords_21 : OpS mX6_placeWords 21 (o_istore 3 5 22) := s_istore_n (by decide +kernel : decode cX6_placeWords 21 = .ok (.istore_n 3, 1)) rfl rfl
theorem oX6_placeWords_22 : OpS mX6_placeWords 22 (o_iload 3 23) := s_iload_n (by decide +kernel : decode cX6_placeWords 22 = .ok (.iload_n 3, 1)) rfl
theorem oX6_placeWords_23 : OpS mX6_placeWords 23 (o_aload 1 24) := s_aload_n (by decide +kernel : decode cX6_placeWords 23 = .ok (.aload_n 1, 1)) rfl
theorem oX6_placeWords_24 : OpS mX6_placeWords 24 (o_getP 0 1 27) := s_getP (k := 1) clsX0 (by decide) rfl (Or.inr ⟨_, wd_643⟩) (by decide +kernel : decode cX6_placeWords 24 = .ok (.getfield 50, 3)) rfl
theorem oX6_placeWords_27 : OpS mX6_placeWords 27 (o_callV mX5_size 5 0 30) := s_callV ceX5_size clsX5 (Or.inl wd_112) wd_113 selX5_size (by decide +kernel : decode cX6_placeWords 27 = .ok (.invokevirtual 56, 3))
theorem oX6_placeWords_30 : OpS mX6_placeWords 30 (o_icmp (fun x y => y ≤ x) 100 33) := s_icmp_ge (by decide +kernel : decode cX6_placeWords 30 = .ok (.if_icmp .ge 70, 3)) (by decide)
theorem oX6_placeWords_33 : OpS mX6_placeWords 33 (o_aload 0 34) := s_aload_n (by decide +kernel : decode cX6_placeWords 33 = .ok (.aload_n 0, 1)) rfl
theorem oX6_placeWords_34 : OpS mX6_placeWords 34 (o_getP 6 0 37) := s_getP (k := 0) clsX6 (by decide) rfl (Or.inl wd_724) (by decide +kernel : decode cX6_placeWords 34 = .ok (.getfield 14, 3)) rfl
theorem oX6_placeWords_37 : OpS mX6_placeWords 37 (o_iload 3 38) := s_iload_n (by decide +kernel : decode cX6_placeWords 37 = .ok (.iload_n 3, 1)) rfl
theorem oX6_placeWords_38 : OpS mX6_placeWords 38 (o_callV mX9_at 9 1 41) := s_callV ceX9_at clsX9 (Or.inl wd_132) wd_133 selX9_at (by decide +kernel : decode cX6_placeWords 38 = .ok (.invokevirtual 43, 3))
theorem oX6_placeWords_41 : OpS mX6_placeWords 41 (o_iload 2 42) := s_iload_n (by decide +kernel : decode cX6_placeWords 41 = .ok (.iload_n 2, 1)) rfl
theorem oX6_placeWords_42 : OpS mX6_placeWords 42 (o_icmp (fun x y => x ≤ y) 56 45) := s_icmp_le (by decide +kernel : decode cX6_placeWords 42 = .ok (.if_icmp .le 14, 3)) (by decide)
theorem oX6_placeWords_45 : OpS mX6_placeWords 45 (o_aload 0 46) := s_aload_n (by decide +kernel : decode cX6_placeWords 45 = .ok (.aload_n 0, 1)) rfl
theorem oX6_placeWords_46 : OpS mX6_placeWords 46 (o_getP 6 2 49) := s_getP (k := 2) clsX6 (by decide) rfl (Or.inl wd_726) (by decide +kernel : decode cX6_placeWords 46 = .ok (.getfield 23, 3)) rfl
theorem oX6_placeWords_49 : OpS mX6_placeWords 49 (o_const (.int (-1)) 50) := s_iconst (by decide +kernel : decode cX6_placeWords 49 = .ok (.iconst (-1), 1)) (by decide)
theorem oX6_placeWords_50 : OpS mX6_placeWords 50 (o_callV mX9_add 9 1 53) := s_callV ceX9_add clsX9 (Or.inl wd_128) wd_129 selX9_add (by decide +kernel : decode cX6_placeWords 50 = .ok (.invokevirtual 85, 3))
theorem oX6_placeWords_53 : OpS mX6_placeWords 53 (o_goto 94) := s_goto (by decide +kernel : decode cX6_placeWords 53 = .ok (.goto 41, 3)) (by decide)
theorem oX6_placeWords_56 : OpS mX6_placeWords 56 (o_aload 0 57) := s_aload_n (by decide +kernel : decode cX6_placeWords 56 = .ok (.aload_n 0, 1)) rfl
theorem oX6_placeWords_57 : OpS mX6_placeWords 57 (o_aload 1 58) := s_aload_n (by decide +kernel : decode cX6_placeWords 57 = .ok (.aload_n 1, 1)) rfl
theorem oX6_placeWords_58 : OpS mX6_placeWords 58 (o_iload 3 59) := s_iload_n (by decide +kernel : decode cX6_placeWords 58 = .ok (.iload_n 3, 1)) rfl
theorem oX6_placeWords_59 : OpS mX6_placeWords 59 (o_iload 2 60) := s_iload_n (by decide +kernel : decode cX6_placeWords 59 = .ok (.iload_n 2, 1)) rfl
theorem oX6_placeWords_60 : OpS mX6_placeWords 60 (o_callV mX6_wordsAhead 6 3 63) := s_callV ceX6_wordsAhead clsX6 (Or.inl wd_207) wd_209 selX6_wordsAhead (by decide +kernel : decode cX6_placeWords 60 = .ok (.invokevirtual 101, 3))
theorem oX6_placeWords_63 : OpS mX6_placeWords 63 (o_istore 4 5 65) := s_istore (by decide +kernel : decode cX6_placeWords 63 = .ok (.istore 4, 2)) rfl
theorem oX6_placeWords_65 : OpS mX6_placeWords 65 (o_aload 0 66) := s_aload_n (by decide +kernel : decode cX6_placeWords 65 = .ok (.aload_n 0, 1)) rfl
theorem oX6_placeWords_66 : OpS mX6_placeWords 66 (o_getP 6 2 69) := s_getP (k := 2) clsX6 (by decide) rfl (Or.inl wd_726) (by decide +kernel : decode cX6_placeWords 66 = .ok (.getfield 23, 3)) rfl
theorem oX6_placeWords_69 : OpS mX6_placeWords 69 (o_iload 4 71) := s_iload (by decide +kernel : decode cX6_placeWords 69 = .ok (.iload 4, 2))
theorem oX6_placeWords_71 : OpS mX6_placeWords 71 (o_callV mX9_add 9 1 74) := s_callV ceX9_add clsX9 (Or.inl wd_128) wd_129 selX9_add (by decide +kernel : decode cX6_placeWords 71 = .ok (.invokevirtual 85, 3))
theorem oX6_placeWords_74 : OpS mX6_placeWords 74 (o_aload 0 75) := s_aload_n (by decide +kernel : decode cX6_placeWords 74 = .ok (.aload_n 0, 1)) rfl
theorem oX6_placeWords_75 : OpS mX6_placeWords 75 (o_getP 6 3 78) := s_getP (k := 3) clsX6 (by decide) rfl (Or.inl wd_727) (by decide +kernel : decode cX6_placeWords 75 = .ok (.getfield 26, 3)) rfl
theorem oX6_placeWords_78 : OpS mX6_placeWords 78 (o_iload 4 80) := s_iload (by decide +kernel : decode cX6_placeWords 78 = .ok (.iload 4, 2))
theorem oX6_placeWords_80 : OpS mX6_placeWords 80 (o_iload 3 81) := s_iload_n (by decide +kernel : decode cX6_placeWords 80 = .ok (.iload_n 3, 1)) rfl
theorem oX6_placeWords_81 : OpS mX6_placeWords 81 (o_callV mX9_put 9 2 84) := s_callV ceX9_put clsX9 (Or.inl wd_141) wd_142 selX9_put (by decide +kernel : decode cX6_placeWords 81 = .ok (.invokevirtual 105, 3))
theorem oX6_placeWords_84 : OpS mX6_placeWords 84 (o_aload 0 85) := s_aload_n (by decide +kernel : decode cX6_placeWords 84 = .ok (.aload_n 0, 1)) rfl
theorem oX6_placeWords_85 : OpS mX6_placeWords 85 (o_dup 86) := s_dup (by decide +kernel : decode cX6_placeWords 85 = .ok (.dup, 1))
theorem oX6_placeWords_86 : OpS mX6_placeWords 86 (o_getI 6 6 89) := s_getI (k := 6) clsX6 (by decide) rfl (Or.inl wd_730) (by decide +kernel : decode cX6_placeWords 86 = .ok (.getfield 39, 3)) rfl
theorem oX6_placeWords_89 : OpS mX6_placeWords 89 (o_const (.int 1) 90) := s_iconst (by decide +kernel : decode cX6_placeWords 89 = .ok (.iconst 1, 1)) (by decide)
theorem oX6_placeWords_90 : OpS mX6_placeWords 90 (o_ibin (fun x y => x + y) 91) := s_iadd (by decide +kernel : decode cX6_placeWords 90 = .ok (.iadd, 1))
theorem oX6_placeWords_91 : OpS mX6_placeWords 91 (o_putI 6 6 94) := s_putI (k := 6) clsX6 (by decide) rfl (Or.inl ⟨wd_730, Or.inl rfl⟩) (by decide +kernel : decode cX6_placeWords 91 = .ok (.putfield 39, 3)) rfl rfl
theorem oX6_placeWords_94 : OpS mX6_placeWords 94 (o_iinc 3 5 1 97) := s_iinc (by decide +kernel : decode cX6_placeWords 94 = .ok (.iinc 3 1, 3)) (by decide) rfl
theorem oX6_placeWords_97 : OpS mX6_placeWords 97 (o_goto 22) := s_goto (by decide +kernel : decode cX6_placeWords 97 = .ok (.goto (-75), 3)) (by decide)
theorem oX6_placeWords_100 : OpS mX6_placeWords 100 (o_vret) := s_vret rfl (by decide +kernel : decode cX6_placeWords 100 = .ok (.return_, 1))
theorem oX6_wordsAhead_0 : OpS mX6_wordsAhead 0 (o_const (.int 0) 1) := s_iconst (by decide +kernel : decode cX6_wordsAhead 0 = .ok (.iconst 0, 1)) (by decide)
theorem oX6_wordsAhead_1 : OpS mX6_wordsAhead 1 (o_istore 4 7 3) := s_istore (by decide +kernel : decode cX6_wordsAhead 1 = .ok (.istore 4, 2)) rfl
theorem oX6_wordsAhead_3 : OpS mX6_wordsAhead 3 (o_const (.int 0) 4) := s_iconst (by decide +kernel : decode cX6_wordsAhead 3 = .ok (.iconst 0, 1)) (by decide)
theorem oX6_wordsAhead_4 : OpS mX6_wordsAhead 4 (o_istore 5 7 6) := s_istore (by decide +kernel : decode cX6_wordsAhead 4 = .ok (.istore 5, 2)) rfl
theorem oX6_wordsAhead_6 : OpS mX6_wordsAhead 6 (o_iload 5 8) := s_iload (by decide +kernel : decode cX6_wordsAhead 6 = .ok (.iload 5, 2))
theorem oX6_wordsAhead_8 : OpS mX6_wordsAhead 8 (o_aload 1 9) := s_aload_n (by decide +kernel : decode cX6_wordsAhead 8 = .ok (.aload_n 1, 1)) rfl
theorem oX6_wordsAhead_9 : OpS mX6_wordsAhead 9 (o_getP 0 1 12) := s_getP (k := 1) clsX0 (by decide) rfl (Or.inr ⟨_, wd_643⟩) (by decide +kernel : decode cX6_wordsAhead 9 = .ok (.getfield 50, 3)) rfl
theorem oX6_wordsAhead_12 : OpS mX6_wordsAhead 12 (o_callV mX5_size 5 0 15) := s_callV ceX5_size clsX5 (Or.inl wd_112) wd_113 selX5_size (by decide +kernel : decode cX6_wordsAhead 12 = .ok (.invokevirtual 56, 3))
theorem oX6_wordsAhead_15 : OpS mX6_wordsAhead 15 (o_icmp (fun x y => y ≤ x) 108 18) := s_icmp_ge (by decide +kernel : decode cX6_wordsAhead 15 = .ok (.if_icmp .ge 93, 3)) (by decide)
theorem oX6_wordsAhead_18 : OpS mX6_wordsAhead 18 (o_aload 0 19) := s_aload_n (by decide +kernel : decode cX6_wordsAhead 18 = .ok (.aload_n 0, 1)) rfl
theorem oX6_wordsAhead_19 : OpS mX6_wordsAhead 19 (o_getP 6 1 22) := s_getP (k := 1) clsX6 (by decide) rfl (Or.inl wd_725) (by decide +kernel : decode cX6_wordsAhead 19 = .ok (.getfield 20, 3)) rfl
theorem oX6_wordsAhead_22 : OpS mX6_wordsAhead 22 (o_iload 5 24) := s_iload (by decide +kernel : decode cX6_wordsAhead 22 = .ok (.iload 5, 2))
theorem oX6_wordsAhead_24 : OpS mX6_wordsAhead 24 (o_callV mX9_at 9 1 27) := s_callV ceX9_at clsX9 (Or.inl wd_132) wd_133 selX9_at (by decide +kernel : decode cX6_wordsAhead 24 = .ok (.invokevirtual 43, 3))
theorem oX6_wordsAhead_27 : OpS mX6_wordsAhead 27 (o_aload 0 28) := s_aload_n (by decide +kernel : decode cX6_wordsAhead 27 = .ok (.aload_n 0, 1)) rfl
theorem oX6_wordsAhead_28 : OpS mX6_wordsAhead 28 (o_getP 6 1 31) := s_getP (k := 1) clsX6 (by decide) rfl (Or.inl wd_725) (by decide +kernel : decode cX6_wordsAhead 28 = .ok (.getfield 20, 3)) rfl
theorem oX6_wordsAhead_31 : OpS mX6_wordsAhead 31 (o_iload 2 32) := s_iload_n (by decide +kernel : decode cX6_wordsAhead 31 = .ok (.iload_n 2, 1)) rfl
theorem oX6_wordsAhead_32 : OpS mX6_wordsAhead 32 (o_callV mX9_at 9 1 35) := s_callV ceX9_at clsX9 (Or.inl wd_132) wd_133 selX9_at (by decide +kernel : decode cX6_wordsAhead 32 = .ok (.invokevirtual 43, 3))
theorem oX6_wordsAhead_35 : OpS mX6_wordsAhead 35 (o_icmp (fun x y => y < x) 68 38) := s_icmp_gt (by decide +kernel : decode cX6_wordsAhead 35 = .ok (.if_icmp .gt 33, 3)) (by decide)
theorem oX6_wordsAhead_38 : OpS mX6_wordsAhead 38 (o_aload 0 39) := s_aload_n (by decide +kernel : decode cX6_wordsAhead 38 = .ok (.aload_n 0, 1)) rfl
theorem oX6_wordsAhead_39 : OpS mX6_wordsAhead 39 (o_getP 6 1 42) := s_getP (k := 1) clsX6 (by decide) rfl (Or.inl wd_725) (by decide +kernel : decode cX6_wordsAhead 39 = .ok (.getfield 20, 3)) rfl
theorem oX6_wordsAhead_42 : OpS mX6_wordsAhead 42 (o_iload 5 44) := s_iload (by decide +kernel : decode cX6_wordsAhead 42 = .ok (.iload 5, 2))
theorem oX6_wordsAhead_44 : OpS mX6_wordsAhead 44 (o_callV mX9_at 9 1 47) := s_callV ceX9_at clsX9 (Or.inl wd_132) wd_133 selX9_at (by decide +kernel : decode cX6_wordsAhead 44 = .ok (.invokevirtual 43, 3))
theorem oX6_wordsAhead_47 : OpS mX6_wordsAhead 47 (o_aload 0 48) := s_aload_n (by decide +kernel : decode cX6_wordsAhead 47 = .ok (.aload_n 0, 1)) rfl
theorem oX6_wordsAhead_48 : OpS mX6_wordsAhead 48 (o_getP 6 1 51) := s_getP (k := 1) clsX6 (by decide) rfl (Or.inl wd_725) (by decide +kernel : decode cX6_wordsAhead 48 = .ok (.getfield 20, 3)) rfl
theorem oX6_wordsAhead_51 : OpS mX6_wordsAhead 51 (o_iload 2 52) := s_iload_n (by decide +kernel : decode cX6_wordsAhead 51 = .ok (.iload_n 2, 1)) rfl
theorem oX6_wordsAhead_52 : OpS mX6_wordsAhead 52 (o_callV mX9_at 9 1 55) := s_callV ceX9_at clsX9 (Or.inl wd_132) wd_133 selX9_at (by decide +kernel : decode cX6_wordsAhead 52 = .ok (.invokevirtual 43, 3))
theorem oX6_wordsAhead_55 : OpS mX6_wordsAhead 55 (o_icmp (fun x y => x = y) 58 72) := s_icmp_ne (by decide +kernel : decode cX6_wordsAhead 55 = .ok (.if_icmp .ne 17, 3)) (by decide)
theorem oX6_wordsAhead_58 : OpS mX6_wordsAhead 58 (o_aload 1 59) := s_aload_n (by decide +kernel : decode cX6_wordsAhead 58 = .ok (.aload_n 1, 1)) rfl
theorem oX6_wordsAhead_59 : OpS mX6_wordsAhead 59 (o_iload 5 61) := s_iload (by decide +kernel : decode cX6_wordsAhead 59 = .ok (.iload 5, 2))
theorem oX6_wordsAhead_61 : OpS mX6_wordsAhead 61 (o_iload 2 62) := s_iload_n (by decide +kernel : decode cX6_wordsAhead 61 = .ok (.iload_n 2, 1)) rfl
theorem oX6_wordsAhead_62 : OpS mX6_wordsAhead 62 (o_callS mX6_leadsTie 3 65) := s_callS ceX6_leadsTie (Or.inl wd_211) wd_212 (by decide +kernel : decode cX6_wordsAhead 62 = .ok (.invokestatic 109, 3))
theorem oX6_wordsAhead_65 : OpS mX6_wordsAhead 65 (o_if (fun x => x = 0) 72 68) := s_if_eq (by decide +kernel : decode cX6_wordsAhead 65 = .ok (.ifCond .eq 7, 3)) (by decide)
theorem oX6_wordsAhead_68 : OpS mX6_wordsAhead 68 (o_const (.int 1) 69) := s_iconst (by decide +kernel : decode cX6_wordsAhead 68 = .ok (.iconst 1, 1)) (by decide)
theorem oX6_wordsAhead_69 : OpS mX6_wordsAhead 69 (o_goto 73) := s_goto (by decide +kernel : decode cX6_wordsAhead 69 = .ok (.goto 4, 3)) (by decide)
theorem oX6_wordsAhead_72 : OpS mX6_wordsAhead 72 (o_const (.int 0) 73) := s_iconst (by decide +kernel : decode cX6_wordsAhead 72 = .ok (.iconst 0, 1)) (by decide)
theorem oX6_wordsAhead_73 : OpS mX6_wordsAhead 73 (o_istore 6 7 75) := s_istore (by decide +kernel : decode cX6_wordsAhead 73 = .ok (.istore 6, 2)) rfl
theorem oX6_wordsAhead_75 : OpS mX6_wordsAhead 75 (o_iload 5 77) := s_iload (by decide +kernel : decode cX6_wordsAhead 75 = .ok (.iload 5, 2))
theorem oX6_wordsAhead_77 : OpS mX6_wordsAhead 77 (o_iload 2 78) := s_iload_n (by decide +kernel : decode cX6_wordsAhead 77 = .ok (.iload_n 2, 1)) rfl
theorem oX6_wordsAhead_78 : OpS mX6_wordsAhead 78 (o_icmp (fun x y => x = y) 102 81) := s_icmp_eq (by decide +kernel : decode cX6_wordsAhead 78 = .ok (.if_icmp .eq 24, 3)) (by decide)
theorem oX6_wordsAhead_81 : OpS mX6_wordsAhead 81 (o_aload 0 82) := s_aload_n (by decide +kernel : decode cX6_wordsAhead 81 = .ok (.aload_n 0, 1)) rfl
theorem oX6_wordsAhead_82 : OpS mX6_wordsAhead 82 (o_getP 6 0 85) := s_getP (k := 0) clsX6 (by decide) rfl (Or.inl wd_724) (by decide +kernel : decode cX6_wordsAhead 82 = .ok (.getfield 14, 3)) rfl
theorem oX6_wordsAhead_85 : OpS mX6_wordsAhead 85 (o_iload 5 87) := s_iload (by decide +kernel : decode cX6_wordsAhead 85 = .ok (.iload 5, 2))
theorem oX6_wordsAhead_87 : OpS mX6_wordsAhead 87 (o_callV mX9_at 9 1 90) := s_callV ceX9_at clsX9 (Or.inl wd_132) wd_133 selX9_at (by decide +kernel : decode cX6_wordsAhead 87 = .ok (.invokevirtual 43, 3))
theorem oX6_wordsAhead_90 : OpS mX6_wordsAhead 90 (o_iload 3 91) := s_iload_n (by decide +kernel : decode cX6_wordsAhead 90 = .ok (.iload_n 3, 1)) rfl
theorem oX6_wordsAhead_91 : OpS mX6_wordsAhead 91 (o_icmp (fun x y => y < x) 102 94) := s_icmp_gt (by decide +kernel : decode cX6_wordsAhead 91 = .ok (.if_icmp .gt 11, 3)) (by decide)
theorem oX6_wordsAhead_94 : OpS mX6_wordsAhead 94 (o_iload 6 96) := s_iload (by decide +kernel : decode cX6_wordsAhead 94 = .ok (.iload 6, 2))
theorem oX6_wordsAhead_96 : OpS mX6_wordsAhead 96 (o_if (fun x => x = 0) 102 99) := s_if_eq (by decide +kernel : decode cX6_wordsAhead 96 = .ok (.ifCond .eq 6, 3)) (by decide)
theorem oX6_wordsAhead_99 : OpS mX6_wordsAhead 99 (o_iinc 4 7 1 102) := s_iinc (by decide +kernel : decode cX6_wordsAhead 99 = .ok (.iinc 4 1, 3)) (by decide) rfl
theorem oX6_wordsAhead_102 : OpS mX6_wordsAhead 102 (o_iinc 5 7 1 105) := s_iinc (by decide +kernel : decode cX6_wordsAhead 102 = .ok (.iinc 5 1, 3)) (by decide) rfl
theorem oX6_wordsAhead_105 : OpS mX6_wordsAhead 105 (o_goto 6) := s_goto (by decide +kernel : decode cX6_wordsAhead 105 = .ok (.goto (-99), 3)) (by decide)
theorem oX6_wordsAhead_108 : OpS mX6_wordsAhead 108 (o_iload 4 110) := s_iload (by decide +kernel : decode cX6_wordsAhead 108 = .ok (.iload 4, 2))
theorem oX6_wordsAhead_110 : OpS mX6_wordsAhead 110 (o_iret) := s_iret rfl (by decide +kernel : decode cX6_wordsAhead 110 = .ok (.ireturn, 1))
theorem oX6_leadsTie_0 : OpS mX6_leadsTie 0 (o_aload 0 1) := s_aload_n (by decide +kernel : decode cX6_leadsTie 0 = .ok (.aload_n 0, 1)) rfl
theorem oX6_leadsTie_1 : OpS mX6_leadsTie 1 (o_getP 0 1 4) := s_getP (k := 1) clsX0 (by decide) rfl (Or.inr ⟨_, wd_643⟩) (by decide +kernel : decode cX6_leadsTie 1 = .ok (.getfield 50, 3)) rfl
theorem oX6_leadsTie_4 : OpS mX6_leadsTie 4 (o_iload 1 5) := s_iload_n (by decide +kernel : decode cX6_leadsTie 4 = .ok (.iload_n 1, 1)) rfl
theorem oX6_leadsTie_5 : OpS mX6_leadsTie 5 (o_callV mX5_at 5 1 8) := s_callV ceX5_at clsX5 (Or.inl wd_116) wd_117 selX5_at (by decide +kernel : decode cX6_leadsTie 5 = .ok (.invokevirtual 67, 3))
theorem oX6_leadsTie_8 : OpS mX6_leadsTie 8 (o_callV mX9_size 9 0 11) := s_callV ceX9_size clsX9 (Or.inl wd_124) wd_125 selX9_size (by decide +kernel : decode cX6_leadsTie 8 = .ok (.invokevirtual 113, 3))
theorem oX6_leadsTie_11 : OpS mX6_leadsTie 11 (o_istore 3 5 12) := s_istore_n (by decide +kernel : decode cX6_leadsTie 11 = .ok (.istore_n 3, 1)) rfl rfl
theorem oX6_leadsTie_12 : OpS mX6_leadsTie 12 (o_aload 0 13) := s_aload_n (by decide +kernel : decode cX6_leadsTie 12 = .ok (.aload_n 0, 1)) rfl
theorem oX6_leadsTie_13 : OpS mX6_leadsTie 13 (o_getP 0 1 16) := s_getP (k := 1) clsX0 (by decide) rfl (Or.inr ⟨_, wd_643⟩) (by decide +kernel : decode cX6_leadsTie 13 = .ok (.getfield 50, 3)) rfl
theorem oX6_leadsTie_16 : OpS mX6_leadsTie 16 (o_iload 2 17) := s_iload_n (by decide +kernel : decode cX6_leadsTie 16 = .ok (.iload_n 2, 1)) rfl
theorem oX6_leadsTie_17 : OpS mX6_leadsTie 17 (o_callV mX5_at 5 1 20) := s_callV ceX5_at clsX5 (Or.inl wd_116) wd_117 selX5_at (by decide +kernel : decode cX6_leadsTie 17 = .ok (.invokevirtual 67, 3))
theorem oX6_leadsTie_20 : OpS mX6_leadsTie 20 (o_callV mX9_size 9 0 23) := s_callV ceX9_size clsX9 (Or.inl wd_124) wd_125 selX9_size (by decide +kernel : decode cX6_leadsTie 20 = .ok (.invokevirtual 113, 3))
theorem oX6_leadsTie_23 : OpS mX6_leadsTie 23 (o_istore 4 5 25) := s_istore (by decide +kernel : decode cX6_leadsTie 23 = .ok (.istore 4, 2)) rfl
theorem oX6_leadsTie_25 : OpS mX6_leadsTie 25 (o_iload 3 26) := s_iload_n (by decide +kernel : decode cX6_leadsTie 25 = .ok (.iload_n 3, 1)) rfl
theorem oX6_leadsTie_26 : OpS mX6_leadsTie 26 (o_iload 4 28) := s_iload (by decide +kernel : decode cX6_leadsTie 26 = .ok (.iload 4, 2))
theorem oX6_leadsTie_28 : OpS mX6_leadsTie 28 (o_icmp (fun x y => x < y) 42 31) := s_icmp_lt (by decide +kernel : decode cX6_leadsTie 28 = .ok (.if_icmp .lt 14, 3)) (by decide)
theorem oX6_leadsTie_31 : OpS mX6_leadsTie 31 (o_iload 3 32) := s_iload_n (by decide +kernel : decode cX6_leadsTie 31 = .ok (.iload_n 3, 1)) rfl
theorem oX6_leadsTie_32 : OpS mX6_leadsTie 32 (o_iload 4 34) := s_iload (by decide +kernel : decode cX6_leadsTie 32 = .ok (.iload 4, 2))
theorem oX6_leadsTie_34 : OpS mX6_leadsTie 34 (o_icmp (fun x y => x = y) 37 46) := s_icmp_ne (by decide +kernel : decode cX6_leadsTie 34 = .ok (.if_icmp .ne 12, 3)) (by decide)
theorem oX6_leadsTie_37 : OpS mX6_leadsTie 37 (o_iload 1 38) := s_iload_n (by decide +kernel : decode cX6_leadsTie 37 = .ok (.iload_n 1, 1)) rfl
theorem oX6_leadsTie_38 : OpS mX6_leadsTie 38 (o_iload 2 39) := s_iload_n (by decide +kernel : decode cX6_leadsTie 38 = .ok (.iload_n 2, 1)) rfl
theorem oX6_leadsTie_39 : OpS mX6_leadsTie 39 (o_icmp (fun x y => y ≤ x) 46 42) := s_icmp_ge (by decide +kernel : decode cX6_leadsTie 39 = .ok (.if_icmp .ge 7, 3)) (by decide)
theorem oX6_leadsTie_42 : OpS mX6_leadsTie 42 (o_const (.int 1) 43) := s_iconst (by decide +kernel : decode cX6_leadsTie 42 = .ok (.iconst 1, 1)) (by decide)
theorem oX6_leadsTie_43 : OpS mX6_leadsTie 43 (o_goto 47) := s_goto (by decide +kernel : decode cX6_leadsTie 43 = .ok (.goto 4, 3)) (by decide)
theorem oX6_leadsTie_46 : OpS mX6_leadsTie 46 (o_const (.int 0) 47) := s_iconst (by decide +kernel : decode cX6_leadsTie 46 = .ok (.iconst 0, 1)) (by decide)
theorem oX6_leadsTie_47 : OpS mX6_leadsTie 47 (o_zret) := s_zret rfl (by decide +kernel : decode cX6_leadsTie 47 = .ok (.ireturn, 1))
theorem oX6_leastScoreToLead_0 : OpS mX6_leastScoreToLead 0 (o_const (.long (-2147483648)) 3) := s_ldc2 wd_386 (by decide +kernel : decode cX6_leastScoreToLead 0 = .ok (.ldc2_w 116, 3))
theorem oX6_leastScoreToLead_3 : OpS mX6_leastScoreToLead 3 (o_lstore 3 8 4) := s_lstore_n (by decide +kernel : decode cX6_leastScoreToLead 3 = .ok (.lstore_n 3, 1)) rfl rfl
theorem oX6_leastScoreToLead_4 : OpS mX6_leastScoreToLead 4 (o_const (.int 0) 5) := s_iconst (by decide +kernel : decode cX6_leastScoreToLead 4 = .ok (.iconst 0, 1)) (by decide)
theorem oX6_leastScoreToLead_5 : OpS mX6_leastScoreToLead 5 (o_istore 5 8 7) := s_istore (by decide +kernel : decode cX6_leastScoreToLead 5 = .ok (.istore 5, 2)) rfl
theorem oX6_leastScoreToLead_7 : OpS mX6_leastScoreToLead 7 (o_iload 5 9) := s_iload (by decide +kernel : decode cX6_leastScoreToLead 7 = .ok (.iload 5, 2))
theorem oX6_leastScoreToLead_9 : OpS mX6_leastScoreToLead 9 (o_aload 1 10) := s_aload_n (by decide +kernel : decode cX6_leastScoreToLead 9 = .ok (.aload_n 1, 1)) rfl
theorem oX6_leastScoreToLead_10 : OpS mX6_leastScoreToLead 10 (o_getP 0 1 13) := s_getP (k := 1) clsX0 (by decide) rfl (Or.inr ⟨_, wd_643⟩) (by decide +kernel : decode cX6_leastScoreToLead 10 = .ok (.getfield 50, 3)) rfl
theorem oX6_leastScoreToLead_13 : OpS mX6_leastScoreToLead 13 (o_callV mX5_size 5 0 16) := s_callV ceX5_size clsX5 (Or.inl wd_112) wd_113 selX5_size (by decide +kernel : decode cX6_leastScoreToLead 13 = .ok (.invokevirtual 56, 3))
theorem oX6_leastScoreToLead_16 : OpS mX6_leastScoreToLead 16 (o_icmp (fun x y => y ≤ x) 79 19) := s_icmp_ge (by decide +kernel : decode cX6_leastScoreToLead 16 = .ok (.if_icmp .ge 63, 3)) (by decide)
theorem oX6_leastScoreToLead_19 : OpS mX6_leastScoreToLead 19 (o_iload 5 21) := s_iload (by decide +kernel : decode cX6_leastScoreToLead 19 = .ok (.iload 5, 2))
theorem oX6_leastScoreToLead_21 : OpS mX6_leastScoreToLead 21 (o_iload 2 22) := s_iload_n (by decide +kernel : decode cX6_leastScoreToLead 21 = .ok (.iload_n 2, 1)) rfl
theorem oX6_leastScoreToLead_22 : OpS mX6_leastScoreToLead 22 (o_icmp (fun x y => x = y) 73 25) := s_icmp_eq (by decide +kernel : decode cX6_leastScoreToLead 22 = .ok (.if_icmp .eq 51, 3)) (by decide)
theorem oX6_leastScoreToLead_25 : OpS mX6_leastScoreToLead 25 (o_aload 0 26) := s_aload_n (by decide +kernel : decode cX6_leastScoreToLead 25 = .ok (.aload_n 0, 1)) rfl
theorem oX6_leastScoreToLead_26 : OpS mX6_leastScoreToLead 26 (o_getP 6 2 29) := s_getP (k := 2) clsX6 (by decide) rfl (Or.inl wd_726) (by decide +kernel : decode cX6_leastScoreToLead 26 = .ok (.getfield 23, 3)) rfl
theorem oX6_leastScoreToLead_29 : OpS mX6_leastScoreToLead 29 (o_iload 5 31) := s_iload (by decide +kernel : decode cX6_leastScoreToLead 29 = .ok (.iload 5, 2))
theorem oX6_leastScoreToLead_31 : OpS mX6_leastScoreToLead 31 (o_callV mX9_at 9 1 34) := s_callV ceX9_at clsX9 (Or.inl wd_132) wd_133 selX9_at (by decide +kernel : decode cX6_leastScoreToLead 31 = .ok (.invokevirtual 43, 3))
theorem oX6_leastScoreToLead_34 : OpS mX6_leastScoreToLead 34 (o_if (fun x => x < 0) 73 37) := s_if_lt (by decide +kernel : decode cX6_leastScoreToLead 34 = .ok (.ifCond .lt 39, 3)) (by decide)
theorem oX6_leastScoreToLead_37 : OpS mX6_leastScoreToLead 37 (o_aload 0 38) := s_aload_n (by decide +kernel : decode cX6_leastScoreToLead 37 = .ok (.aload_n 0, 1)) rfl
theorem oX6_leastScoreToLead_38 : OpS mX6_leastScoreToLead 38 (o_getP 6 1 41) := s_getP (k := 1) clsX6 (by decide) rfl (Or.inl wd_725) (by decide +kernel : decode cX6_leastScoreToLead 38 = .ok (.getfield 20, 3)) rfl
theorem oX6_leastScoreToLead_41 : OpS mX6_leastScoreToLead 41 (o_iload 5 43) := s_iload (by decide +kernel : decode cX6_leastScoreToLead 41 = .ok (.iload 5, 2))
theorem oX6_leastScoreToLead_43 : OpS mX6_leastScoreToLead 43 (o_callV mX9_at 9 1 46) := s_callV ceX9_at clsX9 (Or.inl wd_132) wd_133 selX9_at (by decide +kernel : decode cX6_leastScoreToLead 43 = .ok (.invokevirtual 43, 3))
theorem oX6_leastScoreToLead_46 : OpS mX6_leastScoreToLead 46 (o_i2l 47) := s_i2l (by decide +kernel : decode cX6_leastScoreToLead 46 = .ok (.i2l, 1))
theorem oX6_leastScoreToLead_47 : OpS mX6_leastScoreToLead 47 (o_lstore 6 8 49) := s_lstore (by decide +kernel : decode cX6_leastScoreToLead 47 = .ok (.lstore 6, 2)) rfl
theorem oX6_leastScoreToLead_49 : OpS mX6_leastScoreToLead 49 (o_lload 3 50) := s_lload_n (by decide +kernel : decode cX6_leastScoreToLead 49 = .ok (.lload_n 3, 1)) rfl
theorem oX6_leastScoreToLead_50 : OpS mX6_leastScoreToLead 50 (o_aload 1 51) := s_aload_n (by decide +kernel : decode cX6_leastScoreToLead 50 = .ok (.aload_n 1, 1)) rfl
theorem oX6_leastScoreToLead_51 : OpS mX6_leastScoreToLead 51 (o_iload 2 52) := s_iload_n (by decide +kernel : decode cX6_leastScoreToLead 51 = .ok (.iload_n 2, 1)) rfl
theorem oX6_leastScoreToLead_52 : OpS mX6_leastScoreToLead 52 (o_iload 5 54) := s_iload (by decide +kernel : decode cX6_leastScoreToLead 52 = .ok (.iload 5, 2))
theorem oX6_leastScoreToLead_54 : OpS mX6_leastScoreToLead 54 (o_callS mX6_leadsTie 3 57) := s_callS ceX6_leadsTie (Or.inl wd_211) wd_212 (by decide +kernel : decode cX6_leastScoreToLead 54 = .ok (.invokestatic 109, 3))
theorem oX6_leastScoreToLead_57 : OpS mX6_leastScoreToLead 57 (o_if (fun x => x = 0) 65 60) := s_if_eq (by decide +kernel : decode cX6_leastScoreToLead 57 = .ok (.ifCond .eq 8, 3)) (by decide)
theorem oX6_leastScoreToLead_60 : OpS mX6_leastScoreToLead 60 (o_lload 6 62) := s_lload (by decide +kernel : decode cX6_leastScoreToLead 60 = .ok (.lload 6, 2))
theorem oX6_leastScoreToLead_62 : OpS mX6_leastScoreToLead 62 (o_goto 69) := s_goto (by decide +kernel : decode cX6_leastScoreToLead 62 = .ok (.goto 7, 3)) (by decide)
theorem oX6_leastScoreToLead_65 : OpS mX6_leastScoreToLead 65 (o_lload 6 67) := s_lload (by decide +kernel : decode cX6_leastScoreToLead 65 = .ok (.lload 6, 2))
theorem oX6_leastScoreToLead_67 : OpS mX6_leastScoreToLead 67 (o_const (.long 1) 68) := s_lconst (by decide +kernel : decode cX6_leastScoreToLead 67 = .ok (.lconst 1, 1)) (by decide)
theorem oX6_leastScoreToLead_68 : OpS mX6_leastScoreToLead 68 (o_lbin (fun x y => x + y) 69) := s_ladd (by decide +kernel : decode cX6_leastScoreToLead 68 = .ok (.ladd, 1))
theorem oX6_leastScoreToLead_69 : OpS mX6_leastScoreToLead 69 (o_lmax 72) := s_lmax wd_387 wd_388 wd_3 wd_389 (by decide +kernel : decode cX6_leastScoreToLead 69 = .ok (.invokestatic 118, 3))
theorem oX6_leastScoreToLead_72 : OpS mX6_leastScoreToLead 72 (o_lstore 3 8 73) := s_lstore_n (by decide +kernel : decode cX6_leastScoreToLead 72 = .ok (.lstore_n 3, 1)) rfl rfl
theorem oX6_leastScoreToLead_73 : OpS mX6_leastScoreToLead 73 (o_iinc 5 8 1 76) := s_iinc (by decide +kernel : decode cX6_leastScoreToLead 73 = .ok (.iinc 5 1, 3)) (by decide) rfl
theorem oX6_leastScoreToLead_76 : OpS mX6_leastScoreToLead 76 (o_goto 7) := s_goto (by decide +kernel : decode cX6_leastScoreToLead 76 = .ok (.goto (-69), 3)) (by decide)
theorem oX6_leastScoreToLead_79 : OpS mX6_leastScoreToLead 79 (o_lload 3 80) := s_lload_n (by decide +kernel : decode cX6_leastScoreToLead 79 = .ok (.lload_n 3, 1)) rfl
theorem oX6_leastScoreToLead_80 : OpS mX6_leastScoreToLead 80 (o_lret) := s_lret rfl (by decide +kernel : decode cX6_leastScoreToLead 80 = .ok (.lreturn, 1))
theorem oX6_distance_0 : OpS mX6_distance 0 (o_aload 0 1) := s_aload_n (by decide +kernel : decode cX6_distance 0 = .ok (.aload_n 0, 1)) rfl
theorem oX6_distance_1 : OpS mX6_distance 1 (o_getP 6 4 4) := s_getP (k := 4) clsX6 (by decide) rfl (Or.inl wd_728) (by decide +kernel : decode cX6_distance 1 = .ok (.getfield 29, 3)) rfl
theorem oX6_distance_4 : OpS mX6_distance 4 (o_callV mX9_clear 9 0 7) := s_callV ceX9_clear clsX9 (Or.inl wd_108) wd_109 selX9_clear (by decide +kernel : decode cX6_distance 4 = .ok (.invokevirtual 47, 3))
theorem oX6_distance_7 : OpS mX6_distance 7 (o_const (.int 0) 8) := s_iconst (by decide +kernel : decode cX6_distance 7 = .ok (.iconst 0, 1)) (by decide)
theorem oX6_distance_8 : OpS mX6_distance 8 (o_istore 4 6 10) := s_istore (by decide +kernel : decode cX6_distance 8 = .ok (.istore 4, 2)) rfl
theorem oX6_distance_10 : OpS mX6_distance 10 (o_iload 4 12) := s_iload (by decide +kernel : decode cX6_distance 10 = .ok (.iload 4, 2))
theorem oX6_distance_12 : OpS mX6_distance 12 (o_aload 2 13) := s_aload_n (by decide +kernel : decode cX6_distance 12 = .ok (.aload_n 2, 1)) rfl
theorem oX6_distance_13 : OpS mX6_distance 13 (o_callV mX9_size 9 0 16) := s_callV ceX9_size clsX9 (Or.inl wd_124) wd_125 selX9_size (by decide +kernel : decode cX6_distance 13 = .ok (.invokevirtual 113, 3))
theorem oX6_distance_16 : OpS mX6_distance 16 (o_icmp (fun x y => y < x) 36 19) := s_icmp_gt (by decide +kernel : decode cX6_distance 16 = .ok (.if_icmp .gt 20, 3)) (by decide)
theorem oX6_distance_19 : OpS mX6_distance 19 (o_aload 0 20) := s_aload_n (by decide +kernel : decode cX6_distance 19 = .ok (.aload_n 0, 1)) rfl
theorem oX6_distance_20 : OpS mX6_distance 20 (o_getP 6 4 23) := s_getP (k := 4) clsX6 (by decide) rfl (Or.inl wd_728) (by decide +kernel : decode cX6_distance 20 = .ok (.getfield 29, 3)) rfl
theorem oX6_distance_23 : OpS mX6_distance 23 (o_iload 4 25) := s_iload (by decide +kernel : decode cX6_distance 23 = .ok (.iload 4, 2))
theorem oX6_distance_25 : OpS mX6_distance 25 (o_const (.int 3) 26) := s_iconst (by decide +kernel : decode cX6_distance 25 = .ok (.iconst 3, 1)) (by decide)
theorem oX6_distance_26 : OpS mX6_distance 26 (o_ibin (fun x y => x * y) 27) := s_imul (by decide +kernel : decode cX6_distance 26 = .ok (.imul, 1))
theorem oX6_distance_27 : OpS mX6_distance 27 (o_callV mX9_add 9 1 30) := s_callV ceX9_add clsX9 (Or.inl wd_128) wd_129 selX9_add (by decide +kernel : decode cX6_distance 27 = .ok (.invokevirtual 85, 3))
theorem oX6_distance_30 : OpS mX6_distance 30 (o_iinc 4 6 1 33) := s_iinc (by decide +kernel : decode cX6_distance 30 = .ok (.iinc 4 1, 3)) (by decide) rfl
theorem oX6_distance_33 : OpS mX6_distance 33 (o_goto 10) := s_goto (by decide +kernel : decode cX6_distance 33 = .ok (.goto (-23), 3)) (by decide)
theorem oX6_distance_36 : OpS mX6_distance 36 (o_const (.int 0) 37) := s_iconst (by decide +kernel : decode cX6_distance 36 = .ok (.iconst 0, 1)) (by decide)
theorem oX6_distance_37 : OpS mX6_distance 37 (o_istore 4 6 39) := s_istore (by decide +kernel : decode cX6_distance 37 = .ok (.istore 4, 2)) rfl
theorem oX6_distance_39 : OpS mX6_distance 39 (o_iload 4 41) := s_iload (by decide +kernel : decode cX6_distance 39 = .ok (.iload 4, 2))
theorem oX6_distance_41 : OpS mX6_distance 41 (o_aload 1 42) := s_aload_n (by decide +kernel : decode cX6_distance 41 = .ok (.aload_n 1, 1)) rfl
theorem oX6_distance_42 : OpS mX6_distance 42 (o_callV mX9_size 9 0 45) := s_callV ceX9_size clsX9 (Or.inl wd_124) wd_125 selX9_size (by decide +kernel : decode cX6_distance 42 = .ok (.invokevirtual 113, 3))
theorem oX6_distance_45 : OpS mX6_distance 45 (o_icmp (fun x y => y ≤ x) 66 48) := s_icmp_ge (by decide +kernel : decode cX6_distance 45 = .ok (.if_icmp .ge 21, 3)) (by decide)
theorem oX6_distance_48 : OpS mX6_distance 48 (o_aload 0 49) := s_aload_n (by decide +kernel : decode cX6_distance 48 = .ok (.aload_n 0, 1)) rfl
theorem oX6_distance_49 : OpS mX6_distance 49 (o_aload 1 50) := s_aload_n (by decide +kernel : decode cX6_distance 49 = .ok (.aload_n 1, 1)) rfl
theorem oX6_distance_50 : OpS mX6_distance 50 (o_iload 4 52) := s_iload (by decide +kernel : decode cX6_distance 50 = .ok (.iload 4, 2))
theorem oX6_distance_52 : OpS mX6_distance 52 (o_callV mX9_at 9 1 55) := s_callV ceX9_at clsX9 (Or.inl wd_132) wd_133 selX9_at (by decide +kernel : decode cX6_distance 52 = .ok (.invokevirtual 43, 3))
theorem oX6_distance_55 : OpS mX6_distance 55 (o_aload 2 56) := s_aload_n (by decide +kernel : decode cX6_distance 55 = .ok (.aload_n 2, 1)) rfl
theorem oX6_distance_56 : OpS mX6_distance 56 (o_aload 3 57) := s_aload_n (by decide +kernel : decode cX6_distance 56 = .ok (.aload_n 3, 1)) rfl
theorem oX6_distance_57 : OpS mX6_distance 57 (o_callV mX6_typeOneMore 6 3 60) := s_callV ceX6_typeOneMore clsX6 (Or.inl wd_136) wd_138 selX6_typeOneMore (by decide +kernel : decode cX6_distance 57 = .ok (.invokevirtual 124, 3))
theorem oX6_distance_60 : OpS mX6_distance 60 (o_iinc 4 6 1 63) := s_iinc (by decide +kernel : decode cX6_distance 60 = .ok (.iinc 4 1, 3)) (by decide) rfl
theorem oX6_distance_63 : OpS mX6_distance 63 (o_goto 39) := s_goto (by decide +kernel : decode cX6_distance 63 = .ok (.goto (-24), 3)) (by decide)
theorem oX6_distance_66 : OpS mX6_distance 66 (o_aload 0 67) := s_aload_n (by decide +kernel : decode cX6_distance 66 = .ok (.aload_n 0, 1)) rfl
theorem oX6_distance_67 : OpS mX6_distance 67 (o_getP 6 4 70) := s_getP (k := 4) clsX6 (by decide) rfl (Or.inl wd_728) (by decide +kernel : decode cX6_distance 67 = .ok (.getfield 29, 3)) rfl
theorem oX6_distance_70 : OpS mX6_distance 70 (o_const (.int 0) 71) := s_iconst (by decide +kernel : decode cX6_distance 70 = .ok (.iconst 0, 1)) (by decide)
theorem oX6_distance_71 : OpS mX6_distance 71 (o_callV mX9_at 9 1 74) := s_callV ceX9_at clsX9 (Or.inl wd_132) wd_133 selX9_at (by decide +kernel : decode cX6_distance 71 = .ok (.invokevirtual 43, 3))
theorem oX6_distance_74 : OpS mX6_distance 74 (o_istore 4 6 76) := s_istore (by decide +kernel : decode cX6_distance 74 = .ok (.istore 4, 2)) rfl
theorem oX6_distance_76 : OpS mX6_distance 76 (o_const (.int 1) 77) := s_iconst (by decide +kernel : decode cX6_distance 76 = .ok (.iconst 1, 1)) (by decide)
theorem oX6_distance_77 : OpS mX6_distance 77 (o_istore 5 6 79) := s_istore (by decide +kernel : decode cX6_distance 77 = .ok (.istore 5, 2)) rfl
theorem oX6_distance_79 : OpS mX6_distance 79 (o_iload 5 81) := s_iload (by decide +kernel : decode cX6_distance 79 = .ok (.iload 5, 2))
theorem oX6_distance_81 : OpS mX6_distance 81 (o_aload 2 82) := s_aload_n (by decide +kernel : decode cX6_distance 81 = .ok (.aload_n 2, 1)) rfl
theorem oX6_distance_82 : OpS mX6_distance 82 (o_callV mX9_size 9 0 85) := s_callV ceX9_size clsX9 (Or.inl wd_124) wd_125 selX9_size (by decide +kernel : decode cX6_distance 82 = .ok (.invokevirtual 113, 3))
theorem oX6_distance_85 : OpS mX6_distance 85 (o_icmp (fun x y => y < x) 110 88) := s_icmp_gt (by decide +kernel : decode cX6_distance 85 = .ok (.if_icmp .gt 25, 3)) (by decide)
theorem oX6_distance_88 : OpS mX6_distance 88 (o_iload 4 90) := s_iload (by decide +kernel : decode cX6_distance 88 = .ok (.iload 4, 2))
theorem oX6_distance_90 : OpS mX6_distance 90 (o_aload 0 91) := s_aload_n (by decide +kernel : decode cX6_distance 90 = .ok (.aload_n 0, 1)) rfl
theorem oX6_distance_91 : OpS mX6_distance 91 (o_getP 6 4 94) := s_getP (k := 4) clsX6 (by decide) rfl (Or.inl wd_728) (by decide +kernel : decode cX6_distance 91 = .ok (.getfield 29, 3)) rfl
theorem oX6_distance_94 : OpS mX6_distance 94 (o_iload 5 96) := s_iload (by decide +kernel : decode cX6_distance 94 = .ok (.iload 5, 2))
theorem oX6_distance_96 : OpS mX6_distance 96 (o_callV mX9_at 9 1 99) := s_callV ceX9_at clsX9 (Or.inl wd_132) wd_133 selX9_at (by decide +kernel : decode cX6_distance 96 = .ok (.invokevirtual 43, 3))
theorem oX6_distance_99 : OpS mX6_distance 99 (o_min 102) := s_min wd_145 wd_146 wd_3 wd_147 (by decide +kernel : decode cX6_distance 99 = .ok (.invokestatic 128, 3))
theorem oX6_distance_102 : OpS mX6_distance 102 (o_istore 4 6 104) := s_istore (by decide +kernel : decode cX6_distance 102 = .ok (.istore 4, 2)) rfl
theorem oX6_distance_104 : OpS mX6_distance 104 (o_iinc 5 6 1 107) := s_iinc (by decide +kernel : decode cX6_distance 104 = .ok (.iinc 5 1, 3)) (by decide) rfl
theorem oX6_distance_107 : OpS mX6_distance 107 (o_goto 79) := s_goto (by decide +kernel : decode cX6_distance 107 = .ok (.goto (-28), 3)) (by decide)
theorem oX6_distance_110 : OpS mX6_distance 110 (o_iload 4 112) := s_iload (by decide +kernel : decode cX6_distance 110 = .ok (.iload 4, 2))
theorem oX6_distance_112 : OpS mX6_distance 112 (o_iret) := s_iret rfl (by decide +kernel : decode cX6_distance 112 = .ok (.ireturn, 1))
theorem oX6_typeOneMore_0 : OpS mX6_typeOneMore 0 (o_aload 0 1) := s_aload_n (by decide +kernel : decode cX6_typeOneMore 0 = .ok (.aload_n 0, 1)) rfl
theorem oX6_typeOneMore_1 : OpS mX6_typeOneMore 1 (o_getP 6 4 4) := s_getP (k := 4) clsX6 (by decide) rfl (Or.inl wd_728) (by decide +kernel : decode cX6_typeOneMore 1 = .ok (.getfield 29, 3)) rfl
theorem oX6_typeOneMore_4 : OpS mX6_typeOneMore 4 (o_const (.int 0) 5) := s_iconst (by decide +kernel : decode cX6_typeOneMore 4 = .ok (.iconst 0, 1)) (by decide)
theorem oX6_typeOneMore_5 : OpS mX6_typeOneMore 5 (o_callV mX9_at 9 1 8) := s_callV ceX9_at clsX9 (Or.inl wd_132) wd_133 selX9_at (by decide +kernel : decode cX6_typeOneMore 5 = .ok (.invokevirtual 43, 3))
theorem oX6_typeOneMore_8 : OpS mX6_typeOneMore 8 (o_istore 4 9 10) := s_istore (by decide +kernel : decode cX6_typeOneMore 8 = .ok (.istore 4, 2)) rfl
theorem oX6_typeOneMore_10 : OpS mX6_typeOneMore 10 (o_aload 0 11) := s_aload_n (by decide +kernel : decode cX6_typeOneMore 10 = .ok (.aload_n 0, 1)) rfl
theorem oX6_typeOneMore_11 : OpS mX6_typeOneMore 11 (o_getP 6 4 14) := s_getP (k := 4) clsX6 (by decide) rfl (Or.inl wd_728) (by decide +kernel : decode cX6_typeOneMore 11 = .ok (.getfield 29, 3)) rfl
theorem oX6_typeOneMore_14 : OpS mX6_typeOneMore 14 (o_const (.int 0) 15) := s_iconst (by decide +kernel : decode cX6_typeOneMore 14 = .ok (.iconst 0, 1)) (by decide)
theorem oX6_typeOneMore_15 : OpS mX6_typeOneMore 15 (o_iload 4 17) := s_iload (by decide +kernel : decode cX6_typeOneMore 15 = .ok (.iload 4, 2))
theorem oX6_typeOneMore_17 : OpS mX6_typeOneMore 17 (o_const (.int 3) 18) := s_iconst (by decide +kernel : decode cX6_typeOneMore 17 = .ok (.iconst 3, 1)) (by decide)
theorem oX6_typeOneMore_18 : OpS mX6_typeOneMore 18 (o_ibin (fun x y => x + y) 19) := s_iadd (by decide +kernel : decode cX6_typeOneMore 18 = .ok (.iadd, 1))
theorem oX6_typeOneMore_19 : OpS mX6_typeOneMore 19 (o_callV mX9_put 9 2 22) := s_callV ceX9_put clsX9 (Or.inl wd_141) wd_142 selX9_put (by decide +kernel : decode cX6_typeOneMore 19 = .ok (.invokevirtual 105, 3))
theorem oX6_typeOneMore_22 : OpS mX6_typeOneMore 22 (o_const (.int 1) 23) := s_iconst (by decide +kernel : decode cX6_typeOneMore 22 = .ok (.iconst 1, 1)) (by decide)
theorem oX6_typeOneMore_23 : OpS mX6_typeOneMore 23 (o_istore 5 9 25) := s_istore (by decide +kernel : decode cX6_typeOneMore 23 = .ok (.istore 5, 2)) rfl
theorem oX6_typeOneMore_25 : OpS mX6_typeOneMore 25 (o_iload 5 27) := s_iload (by decide +kernel : decode cX6_typeOneMore 25 = .ok (.iload 5, 2))
theorem oX6_typeOneMore_27 : OpS mX6_typeOneMore 27 (o_aload 2 28) := s_aload_n (by decide +kernel : decode cX6_typeOneMore 27 = .ok (.aload_n 2, 1)) rfl
theorem oX6_typeOneMore_28 : OpS mX6_typeOneMore 28 (o_callV mX9_size 9 0 31) := s_callV ceX9_size clsX9 (Or.inl wd_124) wd_125 selX9_size (by decide +kernel : decode cX6_typeOneMore 28 = .ok (.invokevirtual 113, 3))
theorem oX6_typeOneMore_31 : OpS mX6_typeOneMore 31 (o_icmp (fun x y => y < x) 135 34) := s_icmp_gt (by decide +kernel : decode cX6_typeOneMore 31 = .ok (.if_icmp .gt 104, 3)) (by decide)
theorem oX6_typeOneMore_34 : OpS mX6_typeOneMore 34 (o_aload 0 35) := s_aload_n (by decide +kernel : decode cX6_typeOneMore 34 = .ok (.aload_n 0, 1)) rfl
theorem oX6_typeOneMore_35 : OpS mX6_typeOneMore 35 (o_getP 6 4 38) := s_getP (k := 4) clsX6 (by decide) rfl (Or.inl wd_728) (by decide +kernel : decode cX6_typeOneMore 35 = .ok (.getfield 29, 3)) rfl
theorem oX6_typeOneMore_38 : OpS mX6_typeOneMore 38 (o_iload 5 40) := s_iload (by decide +kernel : decode cX6_typeOneMore 38 = .ok (.iload 5, 2))
theorem oX6_typeOneMore_40 : OpS mX6_typeOneMore 40 (o_callV mX9_at 9 1 43) := s_callV ceX9_at clsX9 (Or.inl wd_132) wd_133 selX9_at (by decide +kernel : decode cX6_typeOneMore 40 = .ok (.invokevirtual 43, 3))
theorem oX6_typeOneMore_43 : OpS mX6_typeOneMore 43 (o_istore 6 9 45) := s_istore (by decide +kernel : decode cX6_typeOneMore 43 = .ok (.istore 6, 2)) rfl
theorem oX6_typeOneMore_45 : OpS mX6_typeOneMore 45 (o_aload 2 46) := s_aload_n (by decide +kernel : decode cX6_typeOneMore 45 = .ok (.aload_n 2, 1)) rfl
theorem oX6_typeOneMore_46 : OpS mX6_typeOneMore 46 (o_iload 5 48) := s_iload (by decide +kernel : decode cX6_typeOneMore 46 = .ok (.iload 5, 2))
theorem oX6_typeOneMore_48 : OpS mX6_typeOneMore 48 (o_const (.int 1) 49) := s_iconst (by decide +kernel : decode cX6_typeOneMore 48 = .ok (.iconst 1, 1)) (by decide)
theorem oX6_typeOneMore_49 : OpS mX6_typeOneMore 49 (o_ibin (fun x y => x - y) 50) := s_isub (by decide +kernel : decode cX6_typeOneMore 49 = .ok (.isub, 1))
theorem oX6_typeOneMore_50 : OpS mX6_typeOneMore 50 (o_callV mX9_at 9 1 53) := s_callV ceX9_at clsX9 (Or.inl wd_132) wd_133 selX9_at (by decide +kernel : decode cX6_typeOneMore 50 = .ok (.invokevirtual 43, 3))
theorem oX6_typeOneMore_53 : OpS mX6_typeOneMore 53 (o_istore 7 9 55) := s_istore (by decide +kernel : decode cX6_typeOneMore 53 = .ok (.istore 7, 2)) rfl
theorem oX6_typeOneMore_55 : OpS mX6_typeOneMore 55 (o_iload 6 57) := s_iload (by decide +kernel : decode cX6_typeOneMore 55 = .ok (.iload 6, 2))
theorem oX6_typeOneMore_57 : OpS mX6_typeOneMore 57 (o_aload 0 58) := s_aload_n (by decide +kernel : decode cX6_typeOneMore 57 = .ok (.aload_n 0, 1)) rfl
theorem oX6_typeOneMore_58 : OpS mX6_typeOneMore 58 (o_getP 6 4 61) := s_getP (k := 4) clsX6 (by decide) rfl (Or.inl wd_728) (by decide +kernel : decode cX6_typeOneMore 58 = .ok (.getfield 29, 3)) rfl
theorem oX6_typeOneMore_61 : OpS mX6_typeOneMore 61 (o_iload 5 63) := s_iload (by decide +kernel : decode cX6_typeOneMore 61 = .ok (.iload 5, 2))
theorem oX6_typeOneMore_63 : OpS mX6_typeOneMore 63 (o_const (.int 1) 64) := s_iconst (by decide +kernel : decode cX6_typeOneMore 63 = .ok (.iconst 1, 1)) (by decide)
theorem oX6_typeOneMore_64 : OpS mX6_typeOneMore 64 (o_ibin (fun x y => x - y) 65) := s_isub (by decide +kernel : decode cX6_typeOneMore 64 = .ok (.isub, 1))
theorem oX6_typeOneMore_65 : OpS mX6_typeOneMore 65 (o_callV mX9_at 9 1 68) := s_callV ceX9_at clsX9 (Or.inl wd_132) wd_133 selX9_at (by decide +kernel : decode cX6_typeOneMore 65 = .ok (.invokevirtual 43, 3))
theorem oX6_typeOneMore_68 : OpS mX6_typeOneMore 68 (o_min 71) := s_min wd_145 wd_146 wd_3 wd_147 (by decide +kernel : decode cX6_typeOneMore 68 = .ok (.invokestatic 128, 3))
theorem oX6_typeOneMore_71 : OpS mX6_typeOneMore 71 (o_const (.int 3) 72) := s_iconst (by decide +kernel : decode cX6_typeOneMore 71 = .ok (.iconst 3, 1)) (by decide)
theorem oX6_typeOneMore_72 : OpS mX6_typeOneMore 72 (o_ibin (fun x y => x + y) 73) := s_iadd (by decide +kernel : decode cX6_typeOneMore 72 = .ok (.iadd, 1))
theorem oX6_typeOneMore_73 : OpS mX6_typeOneMore 73 (o_istore 8 9 75) := s_istore (by decide +kernel : decode cX6_typeOneMore 73 = .ok (.istore 8, 2)) rfl
theorem oX6_typeOneMore_75 : OpS mX6_typeOneMore 75 (o_iload 7 77) := s_iload (by decide +kernel : decode cX6_typeOneMore 75 = .ok (.iload 7, 2))
theorem oX6_typeOneMore_77 : OpS mX6_typeOneMore 77 (o_iload 1 78) := s_iload_n (by decide +kernel : decode cX6_typeOneMore 77 = .ok (.iload_n 1, 1)) rfl
theorem oX6_typeOneMore_78 : OpS mX6_typeOneMore 78 (o_icmp (fun x y => x = y) 81 93) := s_icmp_ne (by decide +kernel : decode cX6_typeOneMore 78 = .ok (.if_icmp .ne 15, 3)) (by decide)
theorem oX6_typeOneMore_81 : OpS mX6_typeOneMore 81 (o_iload 8 83) := s_iload (by decide +kernel : decode cX6_typeOneMore 81 = .ok (.iload 8, 2))
theorem oX6_typeOneMore_83 : OpS mX6_typeOneMore 83 (o_iload 4 85) := s_iload (by decide +kernel : decode cX6_typeOneMore 83 = .ok (.iload 4, 2))
theorem oX6_typeOneMore_85 : OpS mX6_typeOneMore 85 (o_min 88) := s_min wd_145 wd_146 wd_3 wd_147 (by decide +kernel : decode cX6_typeOneMore 85 = .ok (.invokestatic 128, 3))
theorem oX6_typeOneMore_88 : OpS mX6_typeOneMore 88 (o_istore 8 9 90) := s_istore (by decide +kernel : decode cX6_typeOneMore 88 = .ok (.istore 8, 2)) rfl
theorem oX6_typeOneMore_90 : OpS mX6_typeOneMore 90 (o_goto 114) := s_goto (by decide +kernel : decode cX6_typeOneMore 90 = .ok (.goto 24, 3)) (by decide)
theorem oX6_typeOneMore_93 : OpS mX6_typeOneMore 93 (o_aload 3 94) := s_aload_n (by decide +kernel : decode cX6_typeOneMore 93 = .ok (.aload_n 3, 1)) rfl
theorem oX6_typeOneMore_94 : OpS mX6_typeOneMore 94 (o_iload 7 96) := s_iload (by decide +kernel : decode cX6_typeOneMore 94 = .ok (.iload 7, 2))
theorem oX6_typeOneMore_96 : OpS mX6_typeOneMore 96 (o_iload 1 97) := s_iload_n (by decide +kernel : decode cX6_typeOneMore 96 = .ok (.iload_n 1, 1)) rfl
theorem oX6_typeOneMore_97 : OpS mX6_typeOneMore 97 (o_callV mX4_areNeighbours 4 2 100) := s_callV ceX4_areNeighbours clsX4 (Or.inl wd_148) wd_149 selX4_areNeighbours (by decide +kernel : decode cX6_typeOneMore 97 = .ok (.invokevirtual 132, 3))
theorem oX6_typeOneMore_100 : OpS mX6_typeOneMore 100 (o_if (fun x => x = 0) 114 103) := s_if_eq (by decide +kernel : decode cX6_typeOneMore 100 = .ok (.ifCond .eq 14, 3)) (by decide)
theorem oX6_typeOneMore_103 : OpS mX6_typeOneMore 103 (o_iload 8 105) := s_iload (by decide +kernel : decode cX6_typeOneMore 103 = .ok (.iload 8, 2))
theorem oX6_typeOneMore_105 : OpS mX6_typeOneMore 105 (o_iload 4 107) := s_iload (by decide +kernel : decode cX6_typeOneMore 105 = .ok (.iload 4, 2))
theorem oX6_typeOneMore_107 : OpS mX6_typeOneMore 107 (o_const (.int 2) 108) := s_iconst (by decide +kernel : decode cX6_typeOneMore 107 = .ok (.iconst 2, 1)) (by decide)
theorem oX6_typeOneMore_108 : OpS mX6_typeOneMore 108 (o_ibin (fun x y => x + y) 109) := s_iadd (by decide +kernel : decode cX6_typeOneMore 108 = .ok (.iadd, 1))
theorem oX6_typeOneMore_109 : OpS mX6_typeOneMore 109 (o_min 112) := s_min wd_145 wd_146 wd_3 wd_147 (by decide +kernel : decode cX6_typeOneMore 109 = .ok (.invokestatic 128, 3))
theorem oX6_typeOneMore_112 : OpS mX6_typeOneMore 112 (o_istore 8 9 114) := s_istore (by decide +kernel : decode cX6_typeOneMore 112 = .ok (.istore 8, 2)) rfl
theorem oX6_typeOneMore_114 : OpS mX6_typeOneMore 114 (o_aload 0 115) := s_aload_n (by decide +kernel : decode cX6_typeOneMore 114 = .ok (.aload_n 0, 1)) rfl
theorem oX6_typeOneMore_115 : OpS mX6_typeOneMore 115 (o_getP 6 4 118) := s_getP (k := 4) clsX6 (by decide) rfl (Or.inl wd_728) (by decide +kernel : decode cX6_typeOneMore 115 = .ok (.getfield 29, 3)) rfl
theorem oX6_typeOneMore_118 : OpS mX6_typeOneMore 118 (o_iload 5 120) := s_iload (by decide +kernel : decode cX6_typeOneMore 118 = .ok (.iload 5, 2))
theorem oX6_typeOneMore_120 : OpS mX6_typeOneMore 120 (o_iload 8 122) := s_iload (by decide +kernel : decode cX6_typeOneMore 120 = .ok (.iload 8, 2))
theorem oX6_typeOneMore_122 : OpS mX6_typeOneMore 122 (o_callV mX9_put 9 2 125) := s_callV ceX9_put clsX9 (Or.inl wd_141) wd_142 selX9_put (by decide +kernel : decode cX6_typeOneMore 122 = .ok (.invokevirtual 105, 3))
theorem oX6_typeOneMore_125 : OpS mX6_typeOneMore 125 (o_iload 6 127) := s_iload (by decide +kernel : decode cX6_typeOneMore 125 = .ok (.iload 6, 2))
theorem oX6_typeOneMore_127 : OpS mX6_typeOneMore 127 (o_istore 4 9 129) := s_istore (by decide +kernel : decode cX6_typeOneMore 127 = .ok (.istore 4, 2)) rfl
theorem oX6_typeOneMore_129 : OpS mX6_typeOneMore 129 (o_iinc 5 9 1 132) := s_iinc (by decide +kernel : decode cX6_typeOneMore 129 = .ok (.iinc 5 1, 3)) (by decide) rfl
theorem oX6_typeOneMore_132 : OpS mX6_typeOneMore 132 (o_goto 25) := s_goto (by decide +kernel : decode cX6_typeOneMore 132 = .ok (.goto (-107), 3)) (by decide)
theorem oX6_typeOneMore_135 : OpS mX6_typeOneMore 135 (o_vret) := s_vret rfl (by decide +kernel : decode cX6_typeOneMore 135 = .ok (.return_, 1))
