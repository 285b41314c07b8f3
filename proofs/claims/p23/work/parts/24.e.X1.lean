theorem oX1_init_0 : OpS mX1_init 0 (o_aload 0 1) := s_aload_n (by decide +kernel : decode cX1_init 0 = .ok (.aload_n 0, 1)) rfl
theorem oX1_init_1 : OpS mX1_init 1 (o_objinit 4) := s_objinit wd_602 wd_55 wd_56 (by decide +kernel : decode cX1_init 1 = .ok (.invokespecial 3, 3))
theorem oX1_init_4 : OpS mX1_init 4 (o_aload 0 5) := s_aload_n (by decide +kernel : decode cX1_init 4 = .ok (.aload_n 0, 1)) rfl
theorem oX1_init_5 : OpS mX1_init 5 (o_new 9 2 8) := s_new clsX9 defX9 wd_603 wd_426 wd_2 (by decide +kernel : decode cX1_init 5 = .ok (.new 9, 3))
theorem oX1_init_8 : OpS mX1_init 8 (o_dup 9) := s_dup (by decide +kernel : decode cX1_init 8 = .ok (.dup, 1))
theorem oX1_init_9 : OpS mX1_init 9 (o_const (.int 12) 11) := s_bipush (by decide +kernel : decode cX1_init 9 = .ok (.bipush 12, 2)) (by decide)
theorem oX1_init_11 : OpS mX1_init 11 (o_callI mX9_init 1 14) := s_callI ceX9_init rfl rfl (Or.inl wd_604) wd_428 (by decide +kernel : decode cX1_init 11 = .ok (.invokespecial 11, 3))
theorem oX1_init_14 : OpS mX1_init 14 (o_putP 1 0 17) := s_putP (k := 0) clsX1 (by decide) rfl (Or.inl ⟨wd_607, Or.inr ⟨rfl, rfl, rfl⟩⟩) (by decide +kernel : decode cX1_init 14 = .ok (.putfield 14, 3)) rfl (fun _ => rfl) (fun _ => rfl)
theorem oX1_init_17 : OpS mX1_init 17 (o_aload 0 18) := s_aload_n (by decide +kernel : decode cX1_init 17 = .ok (.aload_n 0, 1)) rfl
theorem oX1_init_18 : OpS mX1_init 18 (o_new 9 2 21) := s_new clsX9 defX9 wd_603 wd_426 wd_2 (by decide +kernel : decode cX1_init 18 = .ok (.new 9, 3))
theorem oX1_init_21 : OpS mX1_init 21 (o_dup 22) := s_dup (by decide +kernel : decode cX1_init 21 = .ok (.dup, 1))
theorem oX1_init_22 : OpS mX1_init 22 (o_const (.int 12) 24) := s_bipush (by decide +kernel : decode cX1_init 22 = .ok (.bipush 12, 2)) (by decide)
theorem oX1_init_24 : OpS mX1_init 24 (o_callI mX9_init 1 27) := s_callI ceX9_init rfl rfl (Or.inl wd_604) wd_428 (by decide +kernel : decode cX1_init 24 = .ok (.invokespecial 11, 3))
theorem oX1_init_27 : OpS mX1_init 27 (o_putP 1 1 30) := s_putP (k := 1) clsX1 (by decide) rfl (Or.inl ⟨wd_610, Or.inr ⟨rfl, rfl, rfl⟩⟩) (by decide +kernel : decode cX1_init 27 = .ok (.putfield 20, 3)) rfl (fun _ => rfl) (fun _ => rfl)
theorem oX1_init_30 : OpS mX1_init 30 (o_aload 0 31) := s_aload_n (by decide +kernel : decode cX1_init 30 = .ok (.aload_n 0, 1)) rfl
theorem oX1_init_31 : OpS mX1_init 31 (o_new 9 2 34) := s_new clsX9 defX9 wd_603 wd_426 wd_2 (by decide +kernel : decode cX1_init 31 = .ok (.new 9, 3))
theorem oX1_init_34 : OpS mX1_init 34 (o_dup 35) := s_dup (by decide +kernel : decode cX1_init 34 = .ok (.dup, 1))
theorem oX1_init_35 : OpS mX1_init 35 (o_const (.int 12) 37) := s_bipush (by decide +kernel : decode cX1_init 35 = .ok (.bipush 12, 2)) (by decide)
theorem oX1_init_37 : OpS mX1_init 37 (o_callI mX9_init 1 40) := s_callI ceX9_init rfl rfl (Or.inl wd_604) wd_428 (by decide +kernel : decode cX1_init 37 = .ok (.invokespecial 11, 3))
theorem oX1_init_40 : OpS mX1_init 40 (o_putP 1 2 43) := s_putP (k := 2) clsX1 (by decide) rfl (Or.inl ⟨wd_612, Or.inr ⟨rfl, rfl, rfl⟩⟩) (by decide +kernel : decode cX1_init 40 = .ok (.putfield 23, 3)) rfl (fun _ => rfl) (fun _ => rfl)
theorem oX1_init_43 : OpS mX1_init 43 (o_aload 0 44) := s_aload_n (by decide +kernel : decode cX1_init 43 = .ok (.aload_n 0, 1)) rfl
theorem oX1_init_44 : OpS mX1_init 44 (o_new 9 2 47) := s_new clsX9 defX9 wd_603 wd_426 wd_2 (by decide +kernel : decode cX1_init 44 = .ok (.new 9, 3))
theorem oX1_init_47 : OpS mX1_init 47 (o_dup 48) := s_dup (by decide +kernel : decode cX1_init 47 = .ok (.dup, 1))
theorem oX1_init_48 : OpS mX1_init 48 (o_const (.int 12) 50) := s_bipush (by decide +kernel : decode cX1_init 48 = .ok (.bipush 12, 2)) (by decide)
theorem oX1_init_50 : OpS mX1_init 50 (o_callI mX9_init 1 53) := s_callI ceX9_init rfl rfl (Or.inl wd_604) wd_428 (by decide +kernel : decode cX1_init 50 = .ok (.invokespecial 11, 3))
theorem oX1_init_53 : OpS mX1_init 53 (o_putP 1 3 56) := s_putP (k := 3) clsX1 (by decide) rfl (Or.inl ⟨wd_614, Or.inr ⟨rfl, rfl, rfl⟩⟩) (by decide +kernel : decode cX1_init 53 = .ok (.putfield 26, 3)) rfl (fun _ => rfl) (fun _ => rfl)
theorem oX1_init_56 : OpS mX1_init 56 (o_aload 0 57) := s_aload_n (by decide +kernel : decode cX1_init 56 = .ok (.aload_n 0, 1)) rfl
theorem oX1_init_57 : OpS mX1_init 57 (o_new 9 2 60) := s_new clsX9 defX9 wd_603 wd_426 wd_2 (by decide +kernel : decode cX1_init 57 = .ok (.new 9, 3))
theorem oX1_init_60 : OpS mX1_init 60 (o_dup 61) := s_dup (by decide +kernel : decode cX1_init 60 = .ok (.dup, 1))
theorem oX1_init_61 : OpS mX1_init 61 (o_const (.int 400) 64) := s_sipush (by decide +kernel : decode cX1_init 61 = .ok (.sipush 400, 3)) (by decide)
theorem oX1_init_64 : OpS mX1_init 64 (o_callI mX9_init 1 67) := s_callI ceX9_init rfl rfl (Or.inl wd_604) wd_428 (by decide +kernel : decode cX1_init 64 = .ok (.invokespecial 11, 3))
theorem oX1_init_67 : OpS mX1_init 67 (o_putP 1 4 70) := s_putP (k := 4) clsX1 (by decide) rfl (Or.inl ⟨wd_616, Or.inr ⟨rfl, rfl, rfl⟩⟩) (by decide +kernel : decode cX1_init 67 = .ok (.putfield 29, 3)) rfl (fun _ => rfl) (fun _ => rfl)
theorem oX1_init_70 : OpS mX1_init 70 (o_aload 0 71) := s_aload_n (by decide +kernel : decode cX1_init 70 = .ok (.aload_n 0, 1)) rfl
theorem oX1_init_71 : OpS mX1_init 71 (o_new 9 2 74) := s_new clsX9 defX9 wd_603 wd_426 wd_2 (by decide +kernel : decode cX1_init 71 = .ok (.new 9, 3))
theorem oX1_init_74 : OpS mX1_init 74 (o_dup 75) := s_dup (by decide +kernel : decode cX1_init 74 = .ok (.dup, 1))
theorem oX1_init_75 : OpS mX1_init 75 (o_const (.int 400) 78) := s_sipush (by decide +kernel : decode cX1_init 75 = .ok (.sipush 400, 3)) (by decide)
theorem oX1_init_78 : OpS mX1_init 78 (o_callI mX9_init 1 81) := s_callI ceX9_init rfl rfl (Or.inl wd_604) wd_428 (by decide +kernel : decode cX1_init 78 = .ok (.invokespecial 11, 3))
theorem oX1_init_81 : OpS mX1_init 81 (o_putP 1 5 84) := s_putP (k := 5) clsX1 (by decide) rfl (Or.inl ⟨wd_618, Or.inr ⟨rfl, rfl, rfl⟩⟩) (by decide +kernel : decode cX1_init 81 = .ok (.putfield 32, 3)) rfl (fun _ => rfl) (fun _ => rfl)
theorem oX1_init_84 : OpS mX1_init 84 (o_aload 0 85) := s_aload_n (by decide +kernel : decode cX1_init 84 = .ok (.aload_n 0, 1)) rfl
theorem oX1_init_85 : OpS mX1_init 85 (o_new 5 3 88) := s_new clsX5 defX5 wd_605 wd_453 wd_6 (by decide +kernel : decode cX1_init 85 = .ok (.new 35, 3))
theorem oX1_init_88 : OpS mX1_init 88 (o_dup 89) := s_dup (by decide +kernel : decode cX1_init 88 = .ok (.dup, 1))
theorem oX1_init_89 : OpS mX1_init 89 (o_const (.int 200) 92) := s_sipush (by decide +kernel : decode cX1_init 89 = .ok (.sipush 200, 3)) (by decide)
theorem oX1_init_92 : OpS mX1_init 92 (o_callI mX5_init 1 95) := s_callI ceX5_init rfl rfl (Or.inl wd_606) wd_455 (by decide +kernel : decode cX1_init 92 = .ok (.invokespecial 37, 3))
theorem oX1_init_95 : OpS mX1_init 95 (o_putP 1 6 98) := s_putP (k := 6) clsX1 (by decide) rfl (Or.inl ⟨wd_620, Or.inr ⟨rfl, rfl, rfl⟩⟩) (by decide +kernel : decode cX1_init 95 = .ok (.putfield 38, 3)) rfl (fun _ => rfl) (fun _ => rfl)
theorem oX1_init_98 : OpS mX1_init 98 (o_vret) := s_vret rfl (by decide +kernel : decode cX1_init 98 = .ok (.return_, 1))
theorem oX1_clear_0 : OpS mX1_clear 0 (o_aload 0 1) := s_aload_n (by decide +kernel : decode cX1_clear 0 = .ok (.aload_n 0, 1)) rfl
theorem oX1_clear_1 : OpS mX1_clear 1 (o_getP 1 0 4) := s_getP (k := 0) clsX1 (by decide) rfl (Or.inl wd_607) (by decide +kernel : decode cX1_clear 1 = .ok (.getfield 14, 3)) rfl
theorem oX1_clear_4 : OpS mX1_clear 4 (o_callV mX9_clear 9 0 7) := s_callV ceX9_clear clsX9 (Or.inl wd_851) wd_109 selX9_clear (by decide +kernel : decode cX1_clear 4 = .ok (.invokevirtual 42, 3))
theorem oX1_clear_7 : OpS mX1_clear 7 (o_aload 0 8) := s_aload_n (by decide +kernel : decode cX1_clear 7 = .ok (.aload_n 0, 1)) rfl
theorem oX1_clear_8 : OpS mX1_clear 8 (o_getP 1 1 11) := s_getP (k := 1) clsX1 (by decide) rfl (Or.inl wd_610) (by decide +kernel : decode cX1_clear 8 = .ok (.getfield 20, 3)) rfl
theorem oX1_clear_11 : OpS mX1_clear 11 (o_callV mX9_clear 9 0 14) := s_callV ceX9_clear clsX9 (Or.inl wd_851) wd_109 selX9_clear (by decide +kernel : decode cX1_clear 11 = .ok (.invokevirtual 42, 3))
theorem oX1_clear_14 : OpS mX1_clear 14 (o_aload 0 15) := s_aload_n (by decide +kernel : decode cX1_clear 14 = .ok (.aload_n 0, 1)) rfl
theorem oX1_clear_15 : OpS mX1_clear 15 (o_getP 1 2 18) := s_getP (k := 2) clsX1 (by decide) rfl (Or.inl wd_612) (by decide +kernel : decode cX1_clear 15 = .ok (.getfield 23, 3)) rfl
theorem oX1_clear_18 : OpS mX1_clear 18 (o_callV mX9_clear 9 0 21) := s_callV ceX9_clear clsX9 (Or.inl wd_851) wd_109 selX9_clear (by decide +kernel : decode cX1_clear 18 = .ok (.invokevirtual 42, 3))
theorem oX1_clear_21 : OpS mX1_clear 21 (o_aload 0 22) := s_aload_n (by decide +kernel : decode cX1_clear 21 = .ok (.aload_n 0, 1)) rfl
theorem oX1_clear_22 : OpS mX1_clear 22 (o_getP 1 3 25) := s_getP (k := 3) clsX1 (by decide) rfl (Or.inl wd_614) (by decide +kernel : decode cX1_clear 22 = .ok (.getfield 26, 3)) rfl
theorem oX1_clear_25 : OpS mX1_clear 25 (o_callV mX9_clear 9 0 28) := s_callV ceX9_clear clsX9 (Or.inl wd_851) wd_109 selX9_clear (by decide +kernel : decode cX1_clear 25 = .ok (.invokevirtual 42, 3))
theorem oX1_clear_28 : OpS mX1_clear 28 (o_aload 0 29) := s_aload_n (by decide +kernel : decode cX1_clear 28 = .ok (.aload_n 0, 1)) rfl
theorem oX1_clear_29 : OpS mX1_clear 29 (o_getP 1 4 32) := s_getP (k := 4) clsX1 (by decide) rfl (Or.inl wd_616) (by decide +kernel : decode cX1_clear 29 = .ok (.getfield 29, 3)) rfl
theorem oX1_clear_32 : OpS mX1_clear 32 (o_callV mX9_clear 9 0 35) := s_callV ceX9_clear clsX9 (Or.inl wd_851) wd_109 selX9_clear (by decide +kernel : decode cX1_clear 32 = .ok (.invokevirtual 42, 3))
theorem oX1_clear_35 : OpS mX1_clear 35 (o_aload 0 36) := s_aload_n (by decide +kernel : decode cX1_clear 35 = .ok (.aload_n 0, 1)) rfl
theorem oX1_clear_36 : OpS mX1_clear 36 (o_getP 1 5 39) := s_getP (k := 5) clsX1 (by decide) rfl (Or.inl wd_618) (by decide +kernel : decode cX1_clear 36 = .ok (.getfield 32, 3)) rfl
theorem oX1_clear_39 : OpS mX1_clear 39 (o_callV mX9_clear 9 0 42) := s_callV ceX9_clear clsX9 (Or.inl wd_851) wd_109 selX9_clear (by decide +kernel : decode cX1_clear 39 = .ok (.invokevirtual 42, 3))
theorem oX1_clear_42 : OpS mX1_clear 42 (o_aload 0 43) := s_aload_n (by decide +kernel : decode cX1_clear 42 = .ok (.aload_n 0, 1)) rfl
theorem oX1_clear_43 : OpS mX1_clear 43 (o_getP 1 6 46) := s_getP (k := 6) clsX1 (by decide) rfl (Or.inl wd_620) (by decide +kernel : decode cX1_clear 43 = .ok (.getfield 38, 3)) rfl
theorem oX1_clear_46 : OpS mX1_clear 46 (o_callV mX5_clear 5 0 49) := s_callV ceX5_clear clsX5 (Or.inl wd_852) wd_842 selX5_clear (by decide +kernel : decode cX1_clear 46 = .ok (.invokevirtual 45, 3))
theorem oX1_clear_49 : OpS mX1_clear 49 (o_vret) := s_vret rfl (by decide +kernel : decode cX1_clear 49 = .ok (.return_, 1))
theorem oX1_size_0 : OpS mX1_size 0 (o_aload 0 1) := s_aload_n (by decide +kernel : decode cX1_size 0 = .ok (.aload_n 0, 1)) rfl
theorem oX1_size_1 : OpS mX1_size 1 (o_getP 1 0 4) := s_getP (k := 0) clsX1 (by decide) rfl (Or.inl wd_607) (by decide +kernel : decode cX1_size 1 = .ok (.getfield 14, 3)) rfl
theorem oX1_size_4 : OpS mX1_size 4 (o_callV mX9_size 9 0 7) := s_callV ceX9_size clsX9 (Or.inl wd_161) wd_125 selX9_size (by decide +kernel : decode cX1_size 4 = .ok (.invokevirtual 46, 3))
theorem oX1_size_7 : OpS mX1_size 7 (o_iret) := s_iret rfl (by decide +kernel : decode cX1_size 7 = .ok (.ireturn, 1))
theorem oX1_startSum_0 : OpS mX1_startSum 0 (o_aload 0 1) := s_aload_n (by decide +kernel : decode cX1_startSum 0 = .ok (.aload_n 0, 1)) rfl
theorem oX1_startSum_1 : OpS mX1_startSum 1 (o_getP 1 1 4) := s_getP (k := 1) clsX1 (by decide) rfl (Or.inl wd_610) (by decide +kernel : decode cX1_startSum 1 = .ok (.getfield 20, 3)) rfl
theorem oX1_startSum_4 : OpS mX1_startSum 4 (o_aload 0 5) := s_aload_n (by decide +kernel : decode cX1_startSum 4 = .ok (.aload_n 0, 1)) rfl
theorem oX1_startSum_5 : OpS mX1_startSum 5 (o_getP 1 4 8) := s_getP (k := 4) clsX1 (by decide) rfl (Or.inl wd_616) (by decide +kernel : decode cX1_startSum 5 = .ok (.getfield 29, 3)) rfl
theorem oX1_startSum_8 : OpS mX1_startSum 8 (o_callV mX9_size 9 0 11) := s_callV ceX9_size clsX9 (Or.inl wd_161) wd_125 selX9_size (by decide +kernel : decode cX1_startSum 8 = .ok (.invokevirtual 46, 3))
theorem oX1_startSum_11 : OpS mX1_startSum 11 (o_callV mX9_add 9 1 14) := s_callV ceX9_add clsX9 (Or.inl wd_992) wd_129 selX9_add (by decide +kernel : decode cX1_startSum 11 = .ok (.invokevirtual 50, 3))
theorem oX1_startSum_14 : OpS mX1_startSum 14 (o_vret) := s_vret rfl (by decide +kernel : decode cX1_startSum 14 = .ok (.return_, 1))
theorem oX1_startTest_0 : OpS mX1_startTest 0 (o_aload 0 1) := s_aload_n (by decide +kernel : decode cX1_startTest 0 = .ok (.aload_n 0, 1)) rfl
theorem oX1_startTest_1 : OpS mX1_startTest 1 (o_getP 1 2 4) := s_getP (k := 2) clsX1 (by decide) rfl (Or.inl wd_612) (by decide +kernel : decode cX1_startTest 1 = .ok (.getfield 23, 3)) rfl
theorem oX1_startTest_4 : OpS mX1_startTest 4 (o_aload 0 5) := s_aload_n (by decide +kernel : decode cX1_startTest 4 = .ok (.aload_n 0, 1)) rfl
theorem oX1_startTest_5 : OpS mX1_startTest 5 (o_getP 1 4 8) := s_getP (k := 4) clsX1 (by decide) rfl (Or.inl wd_616) (by decide +kernel : decode cX1_startTest 5 = .ok (.getfield 29, 3)) rfl
theorem oX1_startTest_8 : OpS mX1_startTest 8 (o_callV mX9_size 9 0 11) := s_callV ceX9_size clsX9 (Or.inl wd_161) wd_125 selX9_size (by decide +kernel : decode cX1_startTest 8 = .ok (.invokevirtual 46, 3))
theorem oX1_startTest_11 : OpS mX1_startTest 11 (o_callV mX9_add 9 1 14) := s_callV ceX9_add clsX9 (Or.inl wd_992) wd_129 selX9_add (by decide +kernel : decode cX1_startTest 11 = .ok (.invokevirtual 50, 3))
theorem oX1_startTest_14 : OpS mX1_startTest 14 (o_vret) := s_vret rfl (by decide +kernel : decode cX1_startTest 14 = .ok (.return_, 1))
theorem oX1_end_0 : OpS mX1_end 0 (o_aload 0 1) := s_aload_n (by decide +kernel : decode cX1_end 0 = .ok (.aload_n 0, 1)) rfl
theorem oX1_end_1 : OpS mX1_end 1 (o_getP 1 3 4) := s_getP (k := 3) clsX1 (by decide) rfl (Or.inl wd_614) (by decide +kernel : decode cX1_end 1 = .ok (.getfield 26, 3)) rfl
theorem oX1_end_4 : OpS mX1_end 4 (o_aload 0 5) := s_aload_n (by decide +kernel : decode cX1_end 4 = .ok (.aload_n 0, 1)) rfl
theorem oX1_end_5 : OpS mX1_end 5 (o_getP 1 4 8) := s_getP (k := 4) clsX1 (by decide) rfl (Or.inl wd_616) (by decide +kernel : decode cX1_end 5 = .ok (.getfield 29, 3)) rfl
theorem oX1_end_8 : OpS mX1_end 8 (o_callV mX9_size 9 0 11) := s_callV ceX9_size clsX9 (Or.inl wd_161) wd_125 selX9_size (by decide +kernel : decode cX1_end 8 = .ok (.invokevirtual 46, 3))
theorem oX1_end_11 : OpS mX1_end 11 (o_callV mX9_add 9 1 14) := s_callV ceX9_add clsX9 (Or.inl wd_992) wd_129 selX9_add (by decide +kernel : decode cX1_end 11 = .ok (.invokevirtual 50, 3))
theorem oX1_end_14 : OpS mX1_end 14 (o_vret) := s_vret rfl (by decide +kernel : decode cX1_end 14 = .ok (.return_, 1))
theorem oX1_addStep_0 : OpS mX1_addStep 0 (o_aload 0 1) := s_aload_n (by decide +kernel : decode cX1_addStep 0 = .ok (.aload_n 0, 1)) rfl
theorem oX1_addStep_1 : OpS mX1_addStep 1 (o_getP 1 4 4) := s_getP (k := 4) clsX1 (by decide) rfl (Or.inl wd_616) (by decide +kernel : decode cX1_addStep 1 = .ok (.getfield 29, 3)) rfl
theorem oX1_addStep_4 : OpS mX1_addStep 4 (o_iload 1 5) := s_iload_n (by decide +kernel : decode cX1_addStep 4 = .ok (.iload_n 1, 1)) rfl
theorem oX1_addStep_5 : OpS mX1_addStep 5 (o_callV mX9_add 9 1 8) := s_callV ceX9_add clsX9 (Or.inl wd_992) wd_129 selX9_add (by decide +kernel : decode cX1_addStep 5 = .ok (.invokevirtual 50, 3))
theorem oX1_addStep_8 : OpS mX1_addStep 8 (o_aload 0 9) := s_aload_n (by decide +kernel : decode cX1_addStep 8 = .ok (.aload_n 0, 1)) rfl
theorem oX1_addStep_9 : OpS mX1_addStep 9 (o_getP 1 5 12) := s_getP (k := 5) clsX1 (by decide) rfl (Or.inl wd_618) (by decide +kernel : decode cX1_addStep 9 = .ok (.getfield 32, 3)) rfl
theorem oX1_addStep_12 : OpS mX1_addStep 12 (o_iload 2 13) := s_iload_n (by decide +kernel : decode cX1_addStep 12 = .ok (.iload_n 2, 1)) rfl
theorem oX1_addStep_13 : OpS mX1_addStep 13 (o_callV mX9_add 9 1 16) := s_callV ceX9_add clsX9 (Or.inl wd_992) wd_129 selX9_add (by decide +kernel : decode cX1_addStep 13 = .ok (.invokevirtual 50, 3))
theorem oX1_addStep_16 : OpS mX1_addStep 16 (o_vret) := s_vret rfl (by decide +kernel : decode cX1_addStep 16 = .ok (.return_, 1))
theorem oX1_link_0 : OpS mX1_link 0 (o_const (.int 0) 1) := s_iconst (by decide +kernel : decode cX1_link 0 = .ok (.iconst 0, 1)) (by decide)
theorem oX1_link_1 : OpS mX1_link 1 (o_istore 2 4 2) := s_istore_n (by decide +kernel : decode cX1_link 1 = .ok (.istore_n 2, 1)) rfl rfl
theorem oX1_link_2 : OpS mX1_link 2 (o_iload 2 3) := s_iload_n (by decide +kernel : decode cX1_link 2 = .ok (.iload_n 2, 1)) rfl
theorem oX1_link_3 : OpS mX1_link 3 (o_aload 0 4) := s_aload_n (by decide +kernel : decode cX1_link 3 = .ok (.aload_n 0, 1)) rfl
theorem oX1_link_4 : OpS mX1_link 4 (o_getP 1 4 7) := s_getP (k := 4) clsX1 (by decide) rfl (Or.inl wd_616) (by decide +kernel : decode cX1_link 4 = .ok (.getfield 29, 3)) rfl
theorem oX1_link_7 : OpS mX1_link 7 (o_callV mX9_size 9 0 10) := s_callV ceX9_size clsX9 (Or.inl wd_161) wd_125 selX9_size (by decide +kernel : decode cX1_link 7 = .ok (.invokevirtual 46, 3))
theorem oX1_link_10 : OpS mX1_link 10 (o_icmp (fun x y => y ≤ x) 65 13) := s_icmp_ge (by decide +kernel : decode cX1_link 10 = .ok (.if_icmp .ge 55, 3)) (by decide)
theorem oX1_link_13 : OpS mX1_link 13 (o_aload 0 14) := s_aload_n (by decide +kernel : decode cX1_link 13 = .ok (.aload_n 0, 1)) rfl
theorem oX1_link_14 : OpS mX1_link 14 (o_getP 1 4 17) := s_getP (k := 4) clsX1 (by decide) rfl (Or.inl wd_616) (by decide +kernel : decode cX1_link 14 = .ok (.getfield 29, 3)) rfl
theorem oX1_link_17 : OpS mX1_link 17 (o_iload 2 18) := s_iload_n (by decide +kernel : decode cX1_link 17 = .ok (.iload_n 2, 1)) rfl
theorem oX1_link_18 : OpS mX1_link 18 (o_callV mX9_at 9 1 21) := s_callV ceX9_at clsX9 (Or.inl wd_1098) wd_133 selX9_at (by decide +kernel : decode cX1_link 18 = .ok (.invokevirtual 53, 3))
theorem oX1_link_21 : OpS mX1_link 21 (o_istore 3 4 22) := s_istore_n (by decide +kernel : decode cX1_link 21 = .ok (.istore_n 3, 1)) rfl rfl
theorem oX1_link_22 : OpS mX1_link 22 (o_iload 3 23) := s_iload_n (by decide +kernel : decode cX1_link 22 = .ok (.iload_n 3, 1)) rfl
theorem oX1_link_23 : OpS mX1_link 23 (o_const (.int 2) 24) := s_iconst (by decide +kernel : decode cX1_link 23 = .ok (.iconst 2, 1)) (by decide)
theorem oX1_link_24 : OpS mX1_link 24 (o_icmp (fun x y => x = y) 39 27) := s_icmp_eq (by decide +kernel : decode cX1_link 24 = .ok (.if_icmp .eq 15, 3)) (by decide)
theorem oX1_link_27 : OpS mX1_link 27 (o_iload 3 28) := s_iload_n (by decide +kernel : decode cX1_link 27 = .ok (.iload_n 3, 1)) rfl
theorem oX1_link_28 : OpS mX1_link 28 (o_const (.int 12) 30) := s_bipush (by decide +kernel : decode cX1_link 28 = .ok (.bipush 12, 2)) (by decide)
theorem oX1_link_30 : OpS mX1_link 30 (o_icmp (fun x y => x = y) 39 33) := s_icmp_eq (by decide +kernel : decode cX1_link 30 = .ok (.if_icmp .eq 9, 3)) (by decide)
theorem oX1_link_33 : OpS mX1_link 33 (o_iload 3 34) := s_iload_n (by decide +kernel : decode cX1_link 33 = .ok (.iload_n 3, 1)) rfl
theorem oX1_link_34 : OpS mX1_link 34 (o_const (.int 13) 36) := s_bipush (by decide +kernel : decode cX1_link 34 = .ok (.bipush 13, 2)) (by decide)
theorem oX1_link_36 : OpS mX1_link 36 (o_icmp (fun x y => x = y) 39 59) := s_icmp_ne (by decide +kernel : decode cX1_link 36 = .ok (.if_icmp .ne 23, 3)) (by decide)
theorem oX1_link_39 : OpS mX1_link 39 (o_aload 0 40) := s_aload_n (by decide +kernel : decode cX1_link 39 = .ok (.aload_n 0, 1)) rfl
theorem oX1_link_40 : OpS mX1_link 40 (o_getP 1 5 43) := s_getP (k := 5) clsX1 (by decide) rfl (Or.inl wd_618) (by decide +kernel : decode cX1_link 40 = .ok (.getfield 32, 3)) rfl
theorem oX1_link_43 : OpS mX1_link 43 (o_iload 2 44) := s_iload_n (by decide +kernel : decode cX1_link 43 = .ok (.iload_n 2, 1)) rfl
theorem oX1_link_44 : OpS mX1_link 44 (o_aload 1 45) := s_aload_n (by decide +kernel : decode cX1_link 44 = .ok (.aload_n 1, 1)) rfl
theorem oX1_link_45 : OpS mX1_link 45 (o_aload 0 46) := s_aload_n (by decide +kernel : decode cX1_link 45 = .ok (.aload_n 0, 1)) rfl
theorem oX1_link_46 : OpS mX1_link 46 (o_getP 1 5 49) := s_getP (k := 5) clsX1 (by decide) rfl (Or.inl wd_618) (by decide +kernel : decode cX1_link 46 = .ok (.getfield 32, 3)) rfl
theorem oX1_link_49 : OpS mX1_link 49 (o_iload 2 50) := s_iload_n (by decide +kernel : decode cX1_link 49 = .ok (.iload_n 2, 1)) rfl
theorem oX1_link_50 : OpS mX1_link 50 (o_callV mX9_at 9 1 53) := s_callV ceX9_at clsX9 (Or.inl wd_1098) wd_133 selX9_at (by decide +kernel : decode cX1_link 50 = .ok (.invokevirtual 53, 3))
theorem oX1_link_53 : OpS mX1_link 53 (o_callV mX9_at 9 1 56) := s_callV ceX9_at clsX9 (Or.inl wd_1098) wd_133 selX9_at (by decide +kernel : decode cX1_link 53 = .ok (.invokevirtual 53, 3))
theorem oX1_link_56 : OpS mX1_link 56 (o_callV mX9_put 9 2 59) := s_callV ceX9_put clsX9 (Or.inl wd_1099) wd_142 selX9_put (by decide +kernel : decode cX1_link 56 = .ok (.invokevirtual 59, 3))
theorem oX1_link_59 : OpS mX1_link 59 (o_iinc 2 4 1 62) := s_iinc (by decide +kernel : decode cX1_link 59 = .ok (.iinc 2 1, 3)) (by decide) rfl
theorem oX1_link_62 : OpS mX1_link 62 (o_goto 2) := s_goto (by decide +kernel : decode cX1_link 62 = .ok (.goto (-60), 3)) (by decide)
theorem oX1_link_65 : OpS mX1_link 65 (o_vret) := s_vret rfl (by decide +kernel : decode cX1_link 65 = .ok (.return_, 1))
