theorem oX5_init_0 : OpS mX5_init 0 (o_aload 0 1) := s_aload_n (by decide +kernel : decode cX5_init 0 = .ok (.aload_n 0, 1)) rfl
theorem oX5_init_1 : OpS mX5_init 1 (o_objinit 4) := s_objinit wd_457 wd_55 wd_56 (by decide +kernel : decode cX5_init 1 = .ok (.invokespecial 3, 3))
theorem oX5_init_4 : OpS mX5_init 4 (o_aload 0 5) := s_aload_n (by decide +kernel : decode cX5_init 4 = .ok (.aload_n 0, 1)) rfl
theorem oX5_init_5 : OpS mX5_init 5 (o_new 9 2 8) := s_new clsX9 defX9 wd_458 wd_426 wd_2 (by decide +kernel : decode cX5_init 5 = .ok (.new 9, 3))
theorem oX5_init_8 : OpS mX5_init 8 (o_dup 9) := s_dup (by decide +kernel : decode cX5_init 8 = .ok (.dup, 1))
theorem oX5_init_9 : OpS mX5_init 9 (o_const (.int 0) 10) := s_iconst (by decide +kernel : decode cX5_init 9 = .ok (.iconst 0, 1)) (by decide)
theorem oX5_init_10 : OpS mX5_init 10 (o_callI mX9_init 1 13) := s_callI ceX9_init rfl rfl (Or.inl wd_459) wd_428 (by decide +kernel : decode cX5_init 10 = .ok (.invokespecial 11, 3))
theorem oX5_init_13 : OpS mX5_init 13 (o_putP 5 1 16) := s_putP (k := 1) clsX5 (by decide) rfl (Or.inl ⟨wd_463, Or.inr ⟨rfl, rfl, rfl⟩⟩) (by decide +kernel : decode cX5_init 13 = .ok (.putfield 14, 3)) rfl (fun _ => rfl) (fun _ => rfl)
theorem oX5_init_16 : OpS mX5_init 16 (o_aload 0 17) := s_aload_n (by decide +kernel : decode cX5_init 16 = .ok (.aload_n 0, 1)) rfl
theorem oX5_init_17 : OpS mX5_init 17 (o_const (.int 0) 18) := s_iconst (by decide +kernel : decode cX5_init 17 = .ok (.iconst 0, 1)) (by decide)
theorem oX5_init_18 : OpS mX5_init 18 (o_putI 5 2 21) := s_putI (k := 2) clsX5 (by decide) rfl (Or.inl ⟨wd_464, Or.inl rfl⟩) (by decide +kernel : decode cX5_init 18 = .ok (.putfield 20, 3)) rfl rfl
theorem oX5_init_21 : OpS mX5_init 21 (o_aload 0 22) := s_aload_n (by decide +kernel : decode cX5_init 21 = .ok (.aload_n 0, 1)) rfl
theorem oX5_init_22 : OpS mX5_init 22 (o_const (.int 0) 23) := s_iconst (by decide +kernel : decode cX5_init 22 = .ok (.iconst 0, 1)) (by decide)
theorem oX5_init_23 : OpS mX5_init 23 (o_iload 1 24) := s_iload_n (by decide +kernel : decode cX5_init 23 = .ok (.iload_n 1, 1)) rfl
theorem oX5_init_24 : OpS mX5_init 24 (o_max 27) := s_max wd_460 wd_193 wd_3 wd_194 (by decide +kernel : decode cX5_init 24 = .ok (.invokestatic 24, 3))
theorem oX5_init_27 : OpS mX5_init 27 (o_newa 4 30) := s_anew wd_458 (mem_tb 461 (by decide +kernel)) (by decide +kernel : decode cX5_init 27 = .ok (.anewarray 9, 3))
theorem oX5_init_30 : OpS mX5_init 30 (o_putP 5 0 33) := s_putP (k := 0) clsX5 (by decide) rfl (Or.inl ⟨wd_462, Or.inr ⟨rfl, rfl, rfl⟩⟩) (by decide +kernel : decode cX5_init 30 = .ok (.putfield 30, 3)) rfl (fun _ => rfl) (fun _ => rfl)
theorem oX5_init_33 : OpS mX5_init 33 (o_const (.int 0) 34) := s_iconst (by decide +kernel : decode cX5_init 33 = .ok (.iconst 0, 1)) (by decide)
theorem oX5_init_34 : OpS mX5_init 34 (o_istore 2 3 35) := s_istore_n (by decide +kernel : decode cX5_init 34 = .ok (.istore_n 2, 1)) rfl rfl
theorem oX5_init_35 : OpS mX5_init 35 (o_iload 2 36) := s_iload_n (by decide +kernel : decode cX5_init 35 = .ok (.iload_n 2, 1)) rfl
theorem oX5_init_36 : OpS mX5_init 36 (o_aload 0 37) := s_aload_n (by decide +kernel : decode cX5_init 36 = .ok (.aload_n 0, 1)) rfl
theorem oX5_init_37 : OpS mX5_init 37 (o_getP 5 0 40) := s_getP (k := 0) clsX5 (by decide) rfl (Or.inl wd_462) (by decide +kernel : decode cX5_init 37 = .ok (.getfield 30, 3)) rfl
theorem oX5_init_40 : OpS mX5_init 40 (o_alen 4 41) := s_alen4 (by decide +kernel : decode cX5_init 40 = .ok (.arraylength, 1))
theorem oX5_init_41 : OpS mX5_init 41 (o_icmp (fun x y => y ≤ x) 65 44) := s_icmp_ge (by decide +kernel : decode cX5_init 41 = .ok (.if_icmp .ge 24, 3)) (by decide)
theorem oX5_init_44 : OpS mX5_init 44 (o_aload 0 45) := s_aload_n (by decide +kernel : decode cX5_init 44 = .ok (.aload_n 0, 1)) rfl
theorem oX5_init_45 : OpS mX5_init 45 (o_getP 5 0 48) := s_getP (k := 0) clsX5 (by decide) rfl (Or.inl wd_462) (by decide +kernel : decode cX5_init 45 = .ok (.getfield 30, 3)) rfl
theorem oX5_init_48 : OpS mX5_init 48 (o_iload 2 49) := s_iload_n (by decide +kernel : decode cX5_init 48 = .ok (.iload_n 2, 1)) rfl
theorem oX5_init_49 : OpS mX5_init 49 (o_new 9 2 52) := s_new clsX9 defX9 wd_458 wd_426 wd_2 (by decide +kernel : decode cX5_init 49 = .ok (.new 9, 3))
theorem oX5_init_52 : OpS mX5_init 52 (o_dup 53) := s_dup (by decide +kernel : decode cX5_init 52 = .ok (.dup, 1))
theorem oX5_init_53 : OpS mX5_init 53 (o_const (.int 10) 55) := s_bipush (by decide +kernel : decode cX5_init 53 = .ok (.bipush 10, 2)) (by decide)
theorem oX5_init_55 : OpS mX5_init 55 (o_callI mX9_init 1 58) := s_callI ceX9_init rfl rfl (Or.inl wd_459) wd_428 (by decide +kernel : decode cX5_init 55 = .ok (.invokespecial 11, 3))
theorem oX5_init_58 : OpS mX5_init 58 (o_aast 59) := s_aast (by decide +kernel : decode cX5_init 58 = .ok (.aastore, 1))
theorem oX5_init_59 : OpS mX5_init 59 (o_iinc 2 3 1 62) := s_iinc (by decide +kernel : decode cX5_init 59 = .ok (.iinc 2 1, 3)) (by decide) rfl
theorem oX5_init_62 : OpS mX5_init 62 (o_goto 35) := s_goto (by decide +kernel : decode cX5_init 62 = .ok (.goto (-27), 3)) (by decide)
theorem oX5_init_65 : OpS mX5_init 65 (o_vret) := s_vret rfl (by decide +kernel : decode cX5_init 65 = .ok (.return_, 1))
theorem oX5_size_0 : OpS mX5_size 0 (o_aload 0 1) := s_aload_n (by decide +kernel : decode cX5_size 0 = .ok (.aload_n 0, 1)) rfl
theorem oX5_size_1 : OpS mX5_size 1 (o_getI 5 2 4) := s_getI (k := 2) clsX5 (by decide) rfl (Or.inl wd_464) (by decide +kernel : decode cX5_size 1 = .ok (.getfield 20, 3)) rfl
theorem oX5_size_4 : OpS mX5_size 4 (o_iret) := s_iret rfl (by decide +kernel : decode cX5_size 4 = .ok (.ireturn, 1))
theorem oX5_at_0 : OpS mX5_at 0 (o_iload 1 1) := s_iload_n (by decide +kernel : decode cX5_at 0 = .ok (.iload_n 1, 1)) rfl
theorem oX5_at_1 : OpS mX5_at 1 (o_if (fun x => x < 0) 21 4) := s_if_lt (by decide +kernel : decode cX5_at 1 = .ok (.ifCond .lt 20, 3)) (by decide)
theorem oX5_at_4 : OpS mX5_at 4 (o_iload 1 5) := s_iload_n (by decide +kernel : decode cX5_at 4 = .ok (.iload_n 1, 1)) rfl
theorem oX5_at_5 : OpS mX5_at 5 (o_aload 0 6) := s_aload_n (by decide +kernel : decode cX5_at 5 = .ok (.aload_n 0, 1)) rfl
theorem oX5_at_6 : OpS mX5_at 6 (o_getI 5 2 9) := s_getI (k := 2) clsX5 (by decide) rfl (Or.inl wd_464) (by decide +kernel : decode cX5_at 6 = .ok (.getfield 20, 3)) rfl
theorem oX5_at_9 : OpS mX5_at 9 (o_icmp (fun x y => y ≤ x) 21 12) := s_icmp_ge (by decide +kernel : decode cX5_at 9 = .ok (.if_icmp .ge 12, 3)) (by decide)
theorem oX5_at_12 : OpS mX5_at 12 (o_aload 0 13) := s_aload_n (by decide +kernel : decode cX5_at 12 = .ok (.aload_n 0, 1)) rfl
theorem oX5_at_13 : OpS mX5_at 13 (o_getP 5 0 16) := s_getP (k := 0) clsX5 (by decide) rfl (Or.inl wd_462) (by decide +kernel : decode cX5_at 13 = .ok (.getfield 30, 3)) rfl
theorem oX5_at_16 : OpS mX5_at 16 (o_iload 1 17) := s_iload_n (by decide +kernel : decode cX5_at 16 = .ok (.iload_n 1, 1)) rfl
theorem oX5_at_17 : OpS mX5_at 17 (o_aald 18) := s_aald (by decide +kernel : decode cX5_at 17 = .ok (.aaload, 1))
theorem oX5_at_18 : OpS mX5_at 18 (o_goto 25) := s_goto (by decide +kernel : decode cX5_at 18 = .ok (.goto 7, 3)) (by decide)
theorem oX5_at_21 : OpS mX5_at 21 (o_aload 0 22) := s_aload_n (by decide +kernel : decode cX5_at 21 = .ok (.aload_n 0, 1)) rfl
theorem oX5_at_22 : OpS mX5_at 22 (o_getP 5 1 25) := s_getP (k := 1) clsX5 (by decide) rfl (Or.inl wd_463) (by decide +kernel : decode cX5_at 22 = .ok (.getfield 14, 3)) rfl
theorem oX5_at_25 : OpS mX5_at 25 (o_aret) := s_aret rfl (by decide +kernel : decode cX5_at 25 = .ok (.areturn, 1))
theorem oX5_find_0 : OpS mX5_find 0 (o_const (.int 0) 1) := s_iconst (by decide +kernel : decode cX5_find 0 = .ok (.iconst 0, 1)) (by decide)
theorem oX5_find_1 : OpS mX5_find 1 (o_istore 2 3 2) := s_istore_n (by decide +kernel : decode cX5_find 1 = .ok (.istore_n 2, 1)) rfl rfl
theorem oX5_find_2 : OpS mX5_find 2 (o_iload 2 3) := s_iload_n (by decide +kernel : decode cX5_find 2 = .ok (.iload_n 2, 1)) rfl
theorem oX5_find_3 : OpS mX5_find 3 (o_aload 0 4) := s_aload_n (by decide +kernel : decode cX5_find 3 = .ok (.aload_n 0, 1)) rfl
theorem oX5_find_4 : OpS mX5_find 4 (o_getI 5 2 7) := s_getI (k := 2) clsX5 (by decide) rfl (Or.inl wd_464) (by decide +kernel : decode cX5_find 4 = .ok (.getfield 20, 3)) rfl
theorem oX5_find_7 : OpS mX5_find 7 (o_icmp (fun x y => y ≤ x) 31 10) := s_icmp_ge (by decide +kernel : decode cX5_find 7 = .ok (.if_icmp .ge 24, 3)) (by decide)
theorem oX5_find_10 : OpS mX5_find 10 (o_aload 0 11) := s_aload_n (by decide +kernel : decode cX5_find 10 = .ok (.aload_n 0, 1)) rfl
theorem oX5_find_11 : OpS mX5_find 11 (o_getP 5 0 14) := s_getP (k := 0) clsX5 (by decide) rfl (Or.inl wd_462) (by decide +kernel : decode cX5_find 11 = .ok (.getfield 30, 3)) rfl
theorem oX5_find_14 : OpS mX5_find 14 (o_iload 2 15) := s_iload_n (by decide +kernel : decode cX5_find 14 = .ok (.iload_n 2, 1)) rfl
theorem oX5_find_15 : OpS mX5_find 15 (o_aald 16) := s_aald (by decide +kernel : decode cX5_find 15 = .ok (.aaload, 1))
theorem oX5_find_16 : OpS mX5_find 16 (o_aload 1 17) := s_aload_n (by decide +kernel : decode cX5_find 16 = .ok (.aload_n 1, 1)) rfl
theorem oX5_find_17 : OpS mX5_find 17 (o_callV mX9_isSame 9 1 20) := s_callV ceX9_isSame clsX9 (Or.inl wd_881) wd_882 selX9_isSame (by decide +kernel : decode cX5_find 17 = .ok (.invokevirtual 34, 3))
theorem oX5_find_20 : OpS mX5_find 20 (o_if (fun x => x = 0) 25 23) := s_if_eq (by decide +kernel : decode cX5_find 20 = .ok (.ifCond .eq 5, 3)) (by decide)
theorem oX5_find_23 : OpS mX5_find 23 (o_iload 2 24) := s_iload_n (by decide +kernel : decode cX5_find 23 = .ok (.iload_n 2, 1)) rfl
theorem oX5_find_24 : OpS mX5_find 24 (o_iret) := s_iret rfl (by decide +kernel : decode cX5_find 24 = .ok (.ireturn, 1))
theorem oX5_find_25 : OpS mX5_find 25 (o_iinc 2 3 1 28) := s_iinc (by decide +kernel : decode cX5_find 25 = .ok (.iinc 2 1, 3)) (by decide) rfl
theorem oX5_find_28 : OpS mX5_find 28 (o_goto 2) := s_goto (by decide +kernel : decode cX5_find 28 = .ok (.goto (-26), 3)) (by decide)
theorem oX5_find_31 : OpS mX5_find 31 (o_const (.int (-1)) 32) := s_iconst (by decide +kernel : decode cX5_find 31 = .ok (.iconst (-1), 1)) (by decide)
theorem oX5_find_32 : OpS mX5_find 32 (o_iret) := s_iret rfl (by decide +kernel : decode cX5_find 32 = .ok (.ireturn, 1))
theorem oX5_add_0 : OpS mX5_add 0 (o_aload 0 1) := s_aload_n (by decide +kernel : decode cX5_add 0 = .ok (.aload_n 0, 1)) rfl
theorem oX5_add_1 : OpS mX5_add 1 (o_getI 5 2 4) := s_getI (k := 2) clsX5 (by decide) rfl (Or.inl wd_464) (by decide +kernel : decode cX5_add 1 = .ok (.getfield 20, 3)) rfl
theorem oX5_add_4 : OpS mX5_add 4 (o_aload 0 5) := s_aload_n (by decide +kernel : decode cX5_add 4 = .ok (.aload_n 0, 1)) rfl
theorem oX5_add_5 : OpS mX5_add 5 (o_getP 5 0 8) := s_getP (k := 0) clsX5 (by decide) rfl (Or.inl wd_462) (by decide +kernel : decode cX5_add 5 = .ok (.getfield 30, 3)) rfl
theorem oX5_add_8 : OpS mX5_add 8 (o_alen 4 9) := s_alen4 (by decide +kernel : decode cX5_add 8 = .ok (.arraylength, 1))
theorem oX5_add_9 : OpS mX5_add 9 (o_icmp (fun x y => x < y) 14 12) := s_icmp_lt (by decide +kernel : decode cX5_add 9 = .ok (.if_icmp .lt 5, 3)) (by decide)
theorem oX5_add_12 : OpS mX5_add 12 (o_const (.int (-1)) 13) := s_iconst (by decide +kernel : decode cX5_add 12 = .ok (.iconst (-1), 1)) (by decide)
theorem oX5_add_13 : OpS mX5_add 13 (o_iret) := s_iret rfl (by decide +kernel : decode cX5_add 13 = .ok (.ireturn, 1))
theorem oX5_add_14 : OpS mX5_add 14 (o_aload 0 15) := s_aload_n (by decide +kernel : decode cX5_add 14 = .ok (.aload_n 0, 1)) rfl
theorem oX5_add_15 : OpS mX5_add 15 (o_getP 5 0 18) := s_getP (k := 0) clsX5 (by decide) rfl (Or.inl wd_462) (by decide +kernel : decode cX5_add 15 = .ok (.getfield 30, 3)) rfl
theorem oX5_add_18 : OpS mX5_add 18 (o_aload 0 19) := s_aload_n (by decide +kernel : decode cX5_add 18 = .ok (.aload_n 0, 1)) rfl
theorem oX5_add_19 : OpS mX5_add 19 (o_getI 5 2 22) := s_getI (k := 2) clsX5 (by decide) rfl (Or.inl wd_464) (by decide +kernel : decode cX5_add 19 = .ok (.getfield 20, 3)) rfl
theorem oX5_add_22 : OpS mX5_add 22 (o_aald 23) := s_aald (by decide +kernel : decode cX5_add 22 = .ok (.aaload, 1))
theorem oX5_add_23 : OpS mX5_add 23 (o_aload 1 24) := s_aload_n (by decide +kernel : decode cX5_add 23 = .ok (.aload_n 1, 1)) rfl
theorem oX5_add_24 : OpS mX5_add 24 (o_const (.int 0) 25) := s_iconst (by decide +kernel : decode cX5_add 24 = .ok (.iconst 0, 1)) (by decide)
theorem oX5_add_25 : OpS mX5_add 25 (o_aload 1 26) := s_aload_n (by decide +kernel : decode cX5_add 25 = .ok (.aload_n 1, 1)) rfl
theorem oX5_add_26 : OpS mX5_add 26 (o_callV mX9_size 9 0 29) := s_callV ceX9_size clsX9 (Or.inl wd_528) wd_125 selX9_size (by decide +kernel : decode cX5_add 26 = .ok (.invokevirtual 38, 3))
theorem oX5_add_29 : OpS mX5_add 29 (o_callV mX9_copy 9 3 32) := s_callV ceX9_copy clsX9 (Or.inl wd_529) wd_530 selX9_copy (by decide +kernel : decode cX5_add 29 = .ok (.invokevirtual 41, 3))
theorem oX5_add_32 : OpS mX5_add 32 (o_aload 0 33) := s_aload_n (by decide +kernel : decode cX5_add 32 = .ok (.aload_n 0, 1)) rfl
theorem oX5_add_33 : OpS mX5_add 33 (o_dup 34) := s_dup (by decide +kernel : decode cX5_add 33 = .ok (.dup, 1))
theorem oX5_add_34 : OpS mX5_add 34 (o_getI 5 2 37) := s_getI (k := 2) clsX5 (by decide) rfl (Or.inl wd_464) (by decide +kernel : decode cX5_add 34 = .ok (.getfield 20, 3)) rfl
theorem oX5_add_37 : OpS mX5_add 37 (o_const (.int 1) 38) := s_iconst (by decide +kernel : decode cX5_add 37 = .ok (.iconst 1, 1)) (by decide)
theorem oX5_add_38 : OpS mX5_add 38 (o_ibin (fun x y => x + y) 39) := s_iadd (by decide +kernel : decode cX5_add 38 = .ok (.iadd, 1))
theorem oX5_add_39 : OpS mX5_add 39 (o_putI 5 2 42) := s_putI (k := 2) clsX5 (by decide) rfl (Or.inl ⟨wd_464, Or.inl rfl⟩) (by decide +kernel : decode cX5_add 39 = .ok (.putfield 20, 3)) rfl rfl
theorem oX5_add_42 : OpS mX5_add 42 (o_aload 0 43) := s_aload_n (by decide +kernel : decode cX5_add 42 = .ok (.aload_n 0, 1)) rfl
theorem oX5_add_43 : OpS mX5_add 43 (o_getI 5 2 46) := s_getI (k := 2) clsX5 (by decide) rfl (Or.inl wd_464) (by decide +kernel : decode cX5_add 43 = .ok (.getfield 20, 3)) rfl
theorem oX5_add_46 : OpS mX5_add 46 (o_const (.int 1) 47) := s_iconst (by decide +kernel : decode cX5_add 46 = .ok (.iconst 1, 1)) (by decide)
theorem oX5_add_47 : OpS mX5_add 47 (o_ibin (fun x y => x - y) 48) := s_isub (by decide +kernel : decode cX5_add 47 = .ok (.isub, 1))
theorem oX5_add_48 : OpS mX5_add 48 (o_iret) := s_iret rfl (by decide +kernel : decode cX5_add 48 = .ok (.ireturn, 1))
theorem oX5_clear_0 : OpS mX5_clear 0 (o_aload 0 1) := s_aload_n (by decide +kernel : decode cX5_clear 0 = .ok (.aload_n 0, 1)) rfl
theorem oX5_clear_1 : OpS mX5_clear 1 (o_const (.int 0) 2) := s_iconst (by decide +kernel : decode cX5_clear 1 = .ok (.iconst 0, 1)) (by decide)
theorem oX5_clear_2 : OpS mX5_clear 2 (o_putI 5 2 5) := s_putI (k := 2) clsX5 (by decide) rfl (Or.inl ⟨wd_464, Or.inl rfl⟩) (by decide +kernel : decode cX5_clear 2 = .ok (.putfield 20, 3)) rfl rfl
theorem oX5_clear_5 : OpS mX5_clear 5 (o_vret) := s_vret rfl (by decide +kernel : decode cX5_clear 5 = .ok (.return_, 1))
