theorem oX4_init_0 : OpS mX4_init 0 (o_aload 0 1) := s_aload_n (by decide +kernel : decode cX4_init 0 = .ok (.aload_n 0, 1)) rfl
theorem oX4_init_1 : OpS mX4_init 1 (o_objinit 4) := s_objinit wd_579 wd_55 wd_56 (by decide +kernel : decode cX4_init 1 = .ok (.invokespecial 1, 3))
theorem oX4_init_4 : OpS mX4_init 4 (o_aload 0 5) := s_aload_n (by decide +kernel : decode cX4_init 4 = .ok (.aload_n 0, 1)) rfl
theorem oX4_init_5 : OpS mX4_init 5 (o_new 9 2 8) := s_new clsX9 defX9 wd_580 wd_426 wd_2 (by decide +kernel : decode cX4_init 5 = .ok (.new 7, 3))
theorem oX4_init_8 : OpS mX4_init 8 (o_dup 9) := s_dup (by decide +kernel : decode cX4_init 8 = .ok (.dup, 1))
theorem oX4_init_9 : OpS mX4_init 9 (o_const (.int 128) 12) := s_sipush (by decide +kernel : decode cX4_init 9 = .ok (.sipush 128, 3)) (by decide)
theorem oX4_init_12 : OpS mX4_init 12 (o_callI mX9_init 1 15) := s_callI ceX9_init rfl rfl (Or.inl wd_581) wd_428 (by decide +kernel : decode cX4_init 12 = .ok (.invokespecial 11, 3))
theorem oX4_init_15 : OpS mX4_init 15 (o_putP 4 0 18) := s_putP (k := 0) clsX4 (by decide) rfl (Or.inl ⟨wd_587, Or.inr ⟨rfl, rfl, rfl⟩⟩) (by decide +kernel : decode cX4_init 15 = .ok (.putfield 14, 3)) rfl (fun _ => rfl) (fun _ => rfl)
theorem oX4_init_18 : OpS mX4_init 18 (o_aload 0 19) := s_aload_n (by decide +kernel : decode cX4_init 18 = .ok (.aload_n 0, 1)) rfl
theorem oX4_init_19 : OpS mX4_init 19 (o_new 9 2 22) := s_new clsX9 defX9 wd_580 wd_426 wd_2 (by decide +kernel : decode cX4_init 19 = .ok (.new 7, 3))
theorem oX4_init_22 : OpS mX4_init 22 (o_dup 23) := s_dup (by decide +kernel : decode cX4_init 22 = .ok (.dup, 1))
theorem oX4_init_23 : OpS mX4_init 23 (o_const (.int 128) 26) := s_sipush (by decide +kernel : decode cX4_init 23 = .ok (.sipush 128, 3)) (by decide)
theorem oX4_init_26 : OpS mX4_init 26 (o_callI mX9_init 1 29) := s_callI ceX9_init rfl rfl (Or.inl wd_581) wd_428 (by decide +kernel : decode cX4_init 26 = .ok (.invokespecial 11, 3))
theorem oX4_init_29 : OpS mX4_init 29 (o_putP 4 1 32) := s_putP (k := 1) clsX4 (by decide) rfl (Or.inl ⟨wd_588, Or.inr ⟨rfl, rfl, rfl⟩⟩) (by decide +kernel : decode cX4_init 29 = .ok (.putfield 18, 3)) rfl (fun _ => rfl) (fun _ => rfl)
theorem oX4_init_32 : OpS mX4_init 32 (o_aload 0 33) := s_aload_n (by decide +kernel : decode cX4_init 32 = .ok (.aload_n 0, 1)) rfl
theorem oX4_init_33 : OpS mX4_init 33 (o_const (.int 0) 34) := s_iconst (by decide +kernel : decode cX4_init 33 = .ok (.iconst 0, 1)) (by decide)
theorem oX4_init_34 : OpS mX4_init 34 (o_putI 4 2 37) := s_putI (k := 2) clsX4 (by decide) rfl (Or.inl ⟨wd_589, Or.inl rfl⟩) (by decide +kernel : decode cX4_init 34 = .ok (.putfield 21, 3)) rfl rfl
theorem oX4_init_37 : OpS mX4_init 37 (o_aload 0 38) := s_aload_n (by decide +kernel : decode cX4_init 37 = .ok (.aload_n 0, 1)) rfl
theorem oX4_init_38 : OpS mX4_init 38 (o_callV mX4_clear 4 0 41) := s_callV ceX4_clear clsX4 (Or.inl wd_582) wd_583 selX4_clear (by decide +kernel : decode cX4_init 38 = .ok (.invokevirtual 25, 3))
theorem oX4_init_41 : OpS mX4_init 41 (o_vret) := s_vret rfl (by decide +kernel : decode cX4_init 41 = .ok (.return_, 1))
theorem oX4_clear_0 : OpS mX4_clear 0 (o_aload 0 1) := s_aload_n (by decide +kernel : decode cX4_clear 0 = .ok (.aload_n 0, 1)) rfl
theorem oX4_clear_1 : OpS mX4_clear 1 (o_getP 4 0 4) := s_getP (k := 0) clsX4 (by decide) rfl (Or.inl wd_587) (by decide +kernel : decode cX4_clear 1 = .ok (.getfield 14, 3)) rfl
theorem oX4_clear_4 : OpS mX4_clear 4 (o_const (.int (-1)) 5) := s_iconst (by decide +kernel : decode cX4_clear 4 = .ok (.iconst (-1), 1)) (by decide)
theorem oX4_clear_5 : OpS mX4_clear 5 (o_callV mX9_fill 9 1 8) := s_callV ceX9_fill clsX9 (Or.inl wd_586) wd_203 selX9_fill (by decide +kernel : decode cX4_clear 5 = .ok (.invokevirtual 28, 3))
theorem oX4_clear_8 : OpS mX4_clear 8 (o_aload 0 9) := s_aload_n (by decide +kernel : decode cX4_clear 8 = .ok (.aload_n 0, 1)) rfl
theorem oX4_clear_9 : OpS mX4_clear 9 (o_getP 4 1 12) := s_getP (k := 1) clsX4 (by decide) rfl (Or.inl wd_588) (by decide +kernel : decode cX4_clear 9 = .ok (.getfield 18, 3)) rfl
theorem oX4_clear_12 : OpS mX4_clear 12 (o_const (.int (-1)) 13) := s_iconst (by decide +kernel : decode cX4_clear 12 = .ok (.iconst (-1), 1)) (by decide)
theorem oX4_clear_13 : OpS mX4_clear 13 (o_callV mX9_fill 9 1 16) := s_callV ceX9_fill clsX9 (Or.inl wd_586) wd_203 selX9_fill (by decide +kernel : decode cX4_clear 13 = .ok (.invokevirtual 28, 3))
theorem oX4_clear_16 : OpS mX4_clear 16 (o_aload 0 17) := s_aload_n (by decide +kernel : decode cX4_clear 16 = .ok (.aload_n 0, 1)) rfl
theorem oX4_clear_17 : OpS mX4_clear 17 (o_const (.int 0) 18) := s_iconst (by decide +kernel : decode cX4_clear 17 = .ok (.iconst 0, 1)) (by decide)
theorem oX4_clear_18 : OpS mX4_clear 18 (o_putI 4 2 21) := s_putI (k := 2) clsX4 (by decide) rfl (Or.inl ⟨wd_589, Or.inl rfl⟩) (by decide +kernel : decode cX4_clear 18 = .ok (.putfield 21, 3)) rfl rfl
theorem oX4_clear_21 : OpS mX4_clear 21 (o_vret) := s_vret rfl (by decide +kernel : decode cX4_clear 21 = .ok (.return_, 1))
theorem oX4_rows_0 : OpS mX4_rows 0 (o_aload 0 1) := s_aload_n (by decide +kernel : decode cX4_rows 0 = .ok (.aload_n 0, 1)) rfl
theorem oX4_rows_1 : OpS mX4_rows 1 (o_getI 4 2 4) := s_getI (k := 2) clsX4 (by decide) rfl (Or.inl wd_589) (by decide +kernel : decode cX4_rows 1 = .ok (.getfield 21, 3)) rfl
theorem oX4_rows_4 : OpS mX4_rows 4 (o_iret) := s_iret rfl (by decide +kernel : decode cX4_rows 4 = .ok (.ireturn, 1))
theorem oX4_addRow_0 : OpS mX4_addRow 0 (o_const (.int 0) 1) := s_iconst (by decide +kernel : decode cX4_addRow 0 = .ok (.iconst 0, 1)) (by decide)
theorem oX4_addRow_1 : OpS mX4_addRow 1 (o_istore 2 4 2) := s_istore_n (by decide +kernel : decode cX4_addRow 1 = .ok (.istore_n 2, 1)) rfl rfl
theorem oX4_addRow_2 : OpS mX4_addRow 2 (o_iload 2 3) := s_iload_n (by decide +kernel : decode cX4_addRow 2 = .ok (.iload_n 2, 1)) rfl
theorem oX4_addRow_3 : OpS mX4_addRow 3 (o_aload 1 4) := s_aload_n (by decide +kernel : decode cX4_addRow 3 = .ok (.aload_n 1, 1)) rfl
theorem oX4_addRow_4 : OpS mX4_addRow 4 (o_callV mX9_size 9 0 7) := s_callV ceX9_size clsX9 (Or.inl wd_1091) wd_125 selX9_size (by decide +kernel : decode cX4_addRow 4 = .ok (.invokevirtual 31, 3))
theorem oX4_addRow_7 : OpS mX4_addRow 7 (o_icmp (fun x y => y ≤ x) 56 10) := s_icmp_ge (by decide +kernel : decode cX4_addRow 7 = .ok (.if_icmp .ge 49, 3)) (by decide)
theorem oX4_addRow_10 : OpS mX4_addRow 10 (o_aload 1 11) := s_aload_n (by decide +kernel : decode cX4_addRow 10 = .ok (.aload_n 1, 1)) rfl
theorem oX4_addRow_11 : OpS mX4_addRow 11 (o_iload 2 12) := s_iload_n (by decide +kernel : decode cX4_addRow 11 = .ok (.iload_n 2, 1)) rfl
theorem oX4_addRow_12 : OpS mX4_addRow 12 (o_callV mX9_at 9 1 15) := s_callV ceX9_at clsX9 (Or.inl wd_152) wd_133 selX9_at (by decide +kernel : decode cX4_addRow 12 = .ok (.invokevirtual 35, 3))
theorem oX4_addRow_15 : OpS mX4_addRow 15 (o_istore 3 4 16) := s_istore_n (by decide +kernel : decode cX4_addRow 15 = .ok (.istore_n 3, 1)) rfl rfl
theorem oX4_addRow_16 : OpS mX4_addRow 16 (o_aload 0 17) := s_aload_n (by decide +kernel : decode cX4_addRow 16 = .ok (.aload_n 0, 1)) rfl
theorem oX4_addRow_17 : OpS mX4_addRow 17 (o_getP 4 0 20) := s_getP (k := 0) clsX4 (by decide) rfl (Or.inl wd_587) (by decide +kernel : decode cX4_addRow 17 = .ok (.getfield 14, 3)) rfl
theorem oX4_addRow_20 : OpS mX4_addRow 20 (o_iload 3 21) := s_iload_n (by decide +kernel : decode cX4_addRow 20 = .ok (.iload_n 3, 1)) rfl
theorem oX4_addRow_21 : OpS mX4_addRow 21 (o_callV mX9_at 9 1 24) := s_callV ceX9_at clsX9 (Or.inl wd_152) wd_133 selX9_at (by decide +kernel : decode cX4_addRow 21 = .ok (.invokevirtual 35, 3))
theorem oX4_addRow_24 : OpS mX4_addRow 24 (o_if (fun x => x < 0) 29 27) := s_if_lt (by decide +kernel : decode cX4_addRow 24 = .ok (.ifCond .lt 5, 3)) (by decide)
theorem oX4_addRow_27 : OpS mX4_addRow 27 (o_const (.int 0) 28) := s_iconst (by decide +kernel : decode cX4_addRow 27 = .ok (.iconst 0, 1)) (by decide)
theorem oX4_addRow_28 : OpS mX4_addRow 28 (o_zret) := s_zret rfl (by decide +kernel : decode cX4_addRow 28 = .ok (.ireturn, 1))
theorem oX4_addRow_29 : OpS mX4_addRow 29 (o_aload 0 30) := s_aload_n (by decide +kernel : decode cX4_addRow 29 = .ok (.aload_n 0, 1)) rfl
theorem oX4_addRow_30 : OpS mX4_addRow 30 (o_getP 4 0 33) := s_getP (k := 0) clsX4 (by decide) rfl (Or.inl wd_587) (by decide +kernel : decode cX4_addRow 30 = .ok (.getfield 14, 3)) rfl
theorem oX4_addRow_33 : OpS mX4_addRow 33 (o_iload 3 34) := s_iload_n (by decide +kernel : decode cX4_addRow 33 = .ok (.iload_n 3, 1)) rfl
theorem oX4_addRow_34 : OpS mX4_addRow 34 (o_aload 0 35) := s_aload_n (by decide +kernel : decode cX4_addRow 34 = .ok (.aload_n 0, 1)) rfl
theorem oX4_addRow_35 : OpS mX4_addRow 35 (o_getI 4 2 38) := s_getI (k := 2) clsX4 (by decide) rfl (Or.inl wd_589) (by decide +kernel : decode cX4_addRow 35 = .ok (.getfield 21, 3)) rfl
theorem oX4_addRow_38 : OpS mX4_addRow 38 (o_callV mX9_put 9 2 41) := s_callV ceX9_put clsX9 (Or.inl wd_1092) wd_142 selX9_put (by decide +kernel : decode cX4_addRow 38 = .ok (.invokevirtual 39, 3))
theorem oX4_addRow_41 : OpS mX4_addRow 41 (o_aload 0 42) := s_aload_n (by decide +kernel : decode cX4_addRow 41 = .ok (.aload_n 0, 1)) rfl
theorem oX4_addRow_42 : OpS mX4_addRow 42 (o_getP 4 1 45) := s_getP (k := 1) clsX4 (by decide) rfl (Or.inl wd_588) (by decide +kernel : decode cX4_addRow 42 = .ok (.getfield 18, 3)) rfl
theorem oX4_addRow_45 : OpS mX4_addRow 45 (o_iload 3 46) := s_iload_n (by decide +kernel : decode cX4_addRow 45 = .ok (.iload_n 3, 1)) rfl
theorem oX4_addRow_46 : OpS mX4_addRow 46 (o_iload 2 47) := s_iload_n (by decide +kernel : decode cX4_addRow 46 = .ok (.iload_n 2, 1)) rfl
theorem oX4_addRow_47 : OpS mX4_addRow 47 (o_callV mX9_put 9 2 50) := s_callV ceX9_put clsX9 (Or.inl wd_1092) wd_142 selX9_put (by decide +kernel : decode cX4_addRow 47 = .ok (.invokevirtual 39, 3))
theorem oX4_addRow_50 : OpS mX4_addRow 50 (o_iinc 2 4 1 53) := s_iinc (by decide +kernel : decode cX4_addRow 50 = .ok (.iinc 2 1, 3)) (by decide) rfl
theorem oX4_addRow_53 : OpS mX4_addRow 53 (o_goto 2) := s_goto (by decide +kernel : decode cX4_addRow 53 = .ok (.goto (-51), 3)) (by decide)
theorem oX4_addRow_56 : OpS mX4_addRow 56 (o_aload 0 57) := s_aload_n (by decide +kernel : decode cX4_addRow 56 = .ok (.aload_n 0, 1)) rfl
theorem oX4_addRow_57 : OpS mX4_addRow 57 (o_dup 58) := s_dup (by decide +kernel : decode cX4_addRow 57 = .ok (.dup, 1))
theorem oX4_addRow_58 : OpS mX4_addRow 58 (o_getI 4 2 61) := s_getI (k := 2) clsX4 (by decide) rfl (Or.inl wd_589) (by decide +kernel : decode cX4_addRow 58 = .ok (.getfield 21, 3)) rfl
theorem oX4_addRow_61 : OpS mX4_addRow 61 (o_const (.int 1) 62) := s_iconst (by decide +kernel : decode cX4_addRow 61 = .ok (.iconst 1, 1)) (by decide)
theorem oX4_addRow_62 : OpS mX4_addRow 62 (o_ibin (fun x y => x + y) 63) := s_iadd (by decide +kernel : decode cX4_addRow 62 = .ok (.iadd, 1))
theorem oX4_addRow_63 : OpS mX4_addRow 63 (o_putI 4 2 66) := s_putI (k := 2) clsX4 (by decide) rfl (Or.inl ⟨wd_589, Or.inl rfl⟩) (by decide +kernel : decode cX4_addRow 63 = .ok (.putfield 21, 3)) rfl rfl
theorem oX4_addRow_66 : OpS mX4_addRow 66 (o_const (.int 1) 67) := s_iconst (by decide +kernel : decode cX4_addRow 66 = .ok (.iconst 1, 1)) (by decide)
theorem oX4_addRow_67 : OpS mX4_addRow 67 (o_zret) := s_zret rfl (by decide +kernel : decode cX4_addRow 67 = .ok (.ireturn, 1))
theorem oX4_areNeighbours_0 : OpS mX4_areNeighbours 0 (o_aload 0 1) := s_aload_n (by decide +kernel : decode cX4_areNeighbours 0 = .ok (.aload_n 0, 1)) rfl
theorem oX4_areNeighbours_1 : OpS mX4_areNeighbours 1 (o_getP 4 0 4) := s_getP (k := 0) clsX4 (by decide) rfl (Or.inl wd_587) (by decide +kernel : decode cX4_areNeighbours 1 = .ok (.getfield 14, 3)) rfl
theorem oX4_areNeighbours_4 : OpS mX4_areNeighbours 4 (o_iload 1 5) := s_iload_n (by decide +kernel : decode cX4_areNeighbours 4 = .ok (.iload_n 1, 1)) rfl
theorem oX4_areNeighbours_5 : OpS mX4_areNeighbours 5 (o_callV mX9_at 9 1 8) := s_callV ceX9_at clsX9 (Or.inl wd_152) wd_133 selX9_at (by decide +kernel : decode cX4_areNeighbours 5 = .ok (.invokevirtual 35, 3))
theorem oX4_areNeighbours_8 : OpS mX4_areNeighbours 8 (o_istore 3 6 9) := s_istore_n (by decide +kernel : decode cX4_areNeighbours 8 = .ok (.istore_n 3, 1)) rfl rfl
theorem oX4_areNeighbours_9 : OpS mX4_areNeighbours 9 (o_aload 0 10) := s_aload_n (by decide +kernel : decode cX4_areNeighbours 9 = .ok (.aload_n 0, 1)) rfl
theorem oX4_areNeighbours_10 : OpS mX4_areNeighbours 10 (o_getP 4 0 13) := s_getP (k := 0) clsX4 (by decide) rfl (Or.inl wd_587) (by decide +kernel : decode cX4_areNeighbours 10 = .ok (.getfield 14, 3)) rfl
theorem oX4_areNeighbours_13 : OpS mX4_areNeighbours 13 (o_iload 2 14) := s_iload_n (by decide +kernel : decode cX4_areNeighbours 13 = .ok (.iload_n 2, 1)) rfl
theorem oX4_areNeighbours_14 : OpS mX4_areNeighbours 14 (o_callV mX9_at 9 1 17) := s_callV ceX9_at clsX9 (Or.inl wd_152) wd_133 selX9_at (by decide +kernel : decode cX4_areNeighbours 14 = .ok (.invokevirtual 35, 3))
theorem oX4_areNeighbours_17 : OpS mX4_areNeighbours 17 (o_istore 4 6 19) := s_istore (by decide +kernel : decode cX4_areNeighbours 17 = .ok (.istore 4, 2)) rfl
theorem oX4_areNeighbours_19 : OpS mX4_areNeighbours 19 (o_iload 3 20) := s_iload_n (by decide +kernel : decode cX4_areNeighbours 19 = .ok (.iload_n 3, 1)) rfl
theorem oX4_areNeighbours_20 : OpS mX4_areNeighbours 20 (o_if (fun x => x < 0) 28 23) := s_if_lt (by decide +kernel : decode cX4_areNeighbours 20 = .ok (.ifCond .lt 8, 3)) (by decide)
theorem oX4_areNeighbours_23 : OpS mX4_areNeighbours 23 (o_iload 4 25) := s_iload (by decide +kernel : decode cX4_areNeighbours 23 = .ok (.iload 4, 2))
theorem oX4_areNeighbours_25 : OpS mX4_areNeighbours 25 (o_if (fun x => 0 ≤ x) 30 28) := s_if_ge (by decide +kernel : decode cX4_areNeighbours 25 = .ok (.ifCond .ge 5, 3)) (by decide)
theorem oX4_areNeighbours_28 : OpS mX4_areNeighbours 28 (o_const (.int 0) 29) := s_iconst (by decide +kernel : decode cX4_areNeighbours 28 = .ok (.iconst 0, 1)) (by decide)
theorem oX4_areNeighbours_29 : OpS mX4_areNeighbours 29 (o_zret) := s_zret rfl (by decide +kernel : decode cX4_areNeighbours 29 = .ok (.ireturn, 1))
theorem oX4_areNeighbours_30 : OpS mX4_areNeighbours 30 (o_aload 0 31) := s_aload_n (by decide +kernel : decode cX4_areNeighbours 30 = .ok (.aload_n 0, 1)) rfl
theorem oX4_areNeighbours_31 : OpS mX4_areNeighbours 31 (o_getP 4 1 34) := s_getP (k := 1) clsX4 (by decide) rfl (Or.inl wd_588) (by decide +kernel : decode cX4_areNeighbours 31 = .ok (.getfield 18, 3)) rfl
theorem oX4_areNeighbours_34 : OpS mX4_areNeighbours 34 (o_iload 2 35) := s_iload_n (by decide +kernel : decode cX4_areNeighbours 34 = .ok (.iload_n 2, 1)) rfl
theorem oX4_areNeighbours_35 : OpS mX4_areNeighbours 35 (o_callV mX9_at 9 1 38) := s_callV ceX9_at clsX9 (Or.inl wd_152) wd_133 selX9_at (by decide +kernel : decode cX4_areNeighbours 35 = .ok (.invokevirtual 35, 3))
theorem oX4_areNeighbours_38 : OpS mX4_areNeighbours 38 (o_aload 0 39) := s_aload_n (by decide +kernel : decode cX4_areNeighbours 38 = .ok (.aload_n 0, 1)) rfl
theorem oX4_areNeighbours_39 : OpS mX4_areNeighbours 39 (o_getP 4 1 42) := s_getP (k := 1) clsX4 (by decide) rfl (Or.inl wd_588) (by decide +kernel : decode cX4_areNeighbours 39 = .ok (.getfield 18, 3)) rfl
theorem oX4_areNeighbours_42 : OpS mX4_areNeighbours 42 (o_iload 1 43) := s_iload_n (by decide +kernel : decode cX4_areNeighbours 42 = .ok (.iload_n 1, 1)) rfl
theorem oX4_areNeighbours_43 : OpS mX4_areNeighbours 43 (o_callV mX9_at 9 1 46) := s_callV ceX9_at clsX9 (Or.inl wd_152) wd_133 selX9_at (by decide +kernel : decode cX4_areNeighbours 43 = .ok (.invokevirtual 35, 3))
theorem oX4_areNeighbours_46 : OpS mX4_areNeighbours 46 (o_ibin (fun x y => x - y) 47) := s_isub (by decide +kernel : decode cX4_areNeighbours 46 = .ok (.isub, 1))
theorem oX4_areNeighbours_47 : OpS mX4_areNeighbours 47 (o_istore 5 6 49) := s_istore (by decide +kernel : decode cX4_areNeighbours 47 = .ok (.istore 5, 2)) rfl
theorem oX4_areNeighbours_49 : OpS mX4_areNeighbours 49 (o_iload 3 50) := s_iload_n (by decide +kernel : decode cX4_areNeighbours 49 = .ok (.iload_n 3, 1)) rfl
theorem oX4_areNeighbours_50 : OpS mX4_areNeighbours 50 (o_iload 4 52) := s_iload (by decide +kernel : decode cX4_areNeighbours 50 = .ok (.iload 4, 2))
theorem oX4_areNeighbours_52 : OpS mX4_areNeighbours 52 (o_icmp (fun x y => x = y) 55 73) := s_icmp_ne (by decide +kernel : decode cX4_areNeighbours 52 = .ok (.if_icmp .ne 21, 3)) (by decide)
theorem oX4_areNeighbours_55 : OpS mX4_areNeighbours 55 (o_iload 5 57) := s_iload (by decide +kernel : decode cX4_areNeighbours 55 = .ok (.iload 5, 2))
theorem oX4_areNeighbours_57 : OpS mX4_areNeighbours 57 (o_const (.int 1) 58) := s_iconst (by decide +kernel : decode cX4_areNeighbours 57 = .ok (.iconst 1, 1)) (by decide)
theorem oX4_areNeighbours_58 : OpS mX4_areNeighbours 58 (o_icmp (fun x y => x = y) 67 61) := s_icmp_eq (by decide +kernel : decode cX4_areNeighbours 58 = .ok (.if_icmp .eq 9, 3)) (by decide)
theorem oX4_areNeighbours_61 : OpS mX4_areNeighbours 61 (o_iload 5 63) := s_iload (by decide +kernel : decode cX4_areNeighbours 61 = .ok (.iload 5, 2))
theorem oX4_areNeighbours_63 : OpS mX4_areNeighbours 63 (o_const (.int (-1)) 64) := s_iconst (by decide +kernel : decode cX4_areNeighbours 63 = .ok (.iconst (-1), 1)) (by decide)
theorem oX4_areNeighbours_64 : OpS mX4_areNeighbours 64 (o_icmp (fun x y => x = y) 67 71) := s_icmp_ne (by decide +kernel : decode cX4_areNeighbours 64 = .ok (.if_icmp .ne 7, 3)) (by decide)
theorem oX4_areNeighbours_67 : OpS mX4_areNeighbours 67 (o_const (.int 1) 68) := s_iconst (by decide +kernel : decode cX4_areNeighbours 67 = .ok (.iconst 1, 1)) (by decide)
theorem oX4_areNeighbours_68 : OpS mX4_areNeighbours 68 (o_goto 72) := s_goto (by decide +kernel : decode cX4_areNeighbours 68 = .ok (.goto 4, 3)) (by decide)
theorem oX4_areNeighbours_71 : OpS mX4_areNeighbours 71 (o_const (.int 0) 72) := s_iconst (by decide +kernel : decode cX4_areNeighbours 71 = .ok (.iconst 0, 1)) (by decide)
theorem oX4_areNeighbours_72 : OpS mX4_areNeighbours 72 (o_zret) := s_zret rfl (by decide +kernel : decode cX4_areNeighbours 72 = .ok (.ireturn, 1))
theorem oX4_areNeighbours_73 : OpS mX4_areNeighbours 73 (o_iload 3 74) := s_iload_n (by decide +kernel : decode cX4_areNeighbours 73 = .ok (.iload_n 3, 1)) rfl
theorem oX4_areNeighbours_74 : OpS mX4_areNeighbours 74 (o_iload 4 76) := s_iload (by decide +kernel : decode cX4_areNeighbours 74 = .ok (.iload 4, 2))
theorem oX4_areNeighbours_76 : OpS mX4_areNeighbours 76 (o_const (.int 1) 77) := s_iconst (by decide +kernel : decode cX4_areNeighbours 76 = .ok (.iconst 1, 1)) (by decide)
theorem oX4_areNeighbours_77 : OpS mX4_areNeighbours 77 (o_ibin (fun x y => x + y) 78) := s_iadd (by decide +kernel : decode cX4_areNeighbours 77 = .ok (.iadd, 1))
theorem oX4_areNeighbours_78 : OpS mX4_areNeighbours 78 (o_icmp (fun x y => x = y) 81 98) := s_icmp_ne (by decide +kernel : decode cX4_areNeighbours 78 = .ok (.if_icmp .ne 20, 3)) (by decide)
theorem oX4_areNeighbours_81 : OpS mX4_areNeighbours 81 (o_iload 5 83) := s_iload (by decide +kernel : decode cX4_areNeighbours 81 = .ok (.iload 5, 2))
theorem oX4_areNeighbours_83 : OpS mX4_areNeighbours 83 (o_if (fun x => x = 0) 92 86) := s_if_eq (by decide +kernel : decode cX4_areNeighbours 83 = .ok (.ifCond .eq 9, 3)) (by decide)
theorem oX4_areNeighbours_86 : OpS mX4_areNeighbours 86 (o_iload 5 88) := s_iload (by decide +kernel : decode cX4_areNeighbours 86 = .ok (.iload 5, 2))
theorem oX4_areNeighbours_88 : OpS mX4_areNeighbours 88 (o_const (.int 1) 89) := s_iconst (by decide +kernel : decode cX4_areNeighbours 88 = .ok (.iconst 1, 1)) (by decide)
theorem oX4_areNeighbours_89 : OpS mX4_areNeighbours 89 (o_icmp (fun x y => x = y) 92 96) := s_icmp_ne (by decide +kernel : decode cX4_areNeighbours 89 = .ok (.if_icmp .ne 7, 3)) (by decide)
theorem oX4_areNeighbours_92 : OpS mX4_areNeighbours 92 (o_const (.int 1) 93) := s_iconst (by decide +kernel : decode cX4_areNeighbours 92 = .ok (.iconst 1, 1)) (by decide)
theorem oX4_areNeighbours_93 : OpS mX4_areNeighbours 93 (o_goto 97) := s_goto (by decide +kernel : decode cX4_areNeighbours 93 = .ok (.goto 4, 3)) (by decide)
theorem oX4_areNeighbours_96 : OpS mX4_areNeighbours 96 (o_const (.int 0) 97) := s_iconst (by decide +kernel : decode cX4_areNeighbours 96 = .ok (.iconst 0, 1)) (by decide)
theorem oX4_areNeighbours_97 : OpS mX4_areNeighbours 97 (o_zret) := s_zret rfl (by decide +kernel : decode cX4_areNeighbours 97 = .ok (.ireturn, 1))
theorem oX4_areNeighbours_98 : OpS mX4_areNeighbours 98 (o_iload 4 100) := s_iload (by decide +kernel : decode cX4_areNeighbours 98 = .ok (.iload 4, 2))
theorem oX4_areNeighbours_100 : OpS mX4_areNeighbours 100 (o_iload 3 101) := s_iload_n (by decide +kernel : decode cX4_areNeighbours 100 = .ok (.iload_n 3, 1)) rfl
theorem oX4_areNeighbours_101 : OpS mX4_areNeighbours 101 (o_const (.int 1) 102) := s_iconst (by decide +kernel : decode cX4_areNeighbours 101 = .ok (.iconst 1, 1)) (by decide)
theorem oX4_areNeighbours_102 : OpS mX4_areNeighbours 102 (o_ibin (fun x y => x + y) 103) := s_iadd (by decide +kernel : decode cX4_areNeighbours 102 = .ok (.iadd, 1))
theorem oX4_areNeighbours_103 : OpS mX4_areNeighbours 103 (o_icmp (fun x y => x = y) 106 121) := s_icmp_ne (by decide +kernel : decode cX4_areNeighbours 103 = .ok (.if_icmp .ne 18, 3)) (by decide)
theorem oX4_areNeighbours_106 : OpS mX4_areNeighbours 106 (o_iload 5 108) := s_iload (by decide +kernel : decode cX4_areNeighbours 106 = .ok (.iload 5, 2))
theorem oX4_areNeighbours_108 : OpS mX4_areNeighbours 108 (o_if (fun x => x = 0) 117 111) := s_if_eq (by decide +kernel : decode cX4_areNeighbours 108 = .ok (.ifCond .eq 9, 3)) (by decide)
theorem oX4_areNeighbours_111 : OpS mX4_areNeighbours 111 (o_iload 5 113) := s_iload (by decide +kernel : decode cX4_areNeighbours 111 = .ok (.iload 5, 2))
theorem oX4_areNeighbours_113 : OpS mX4_areNeighbours 113 (o_const (.int (-1)) 114) := s_iconst (by decide +kernel : decode cX4_areNeighbours 113 = .ok (.iconst (-1), 1)) (by decide)
theorem oX4_areNeighbours_114 : OpS mX4_areNeighbours 114 (o_icmp (fun x y => x = y) 117 121) := s_icmp_ne (by decide +kernel : decode cX4_areNeighbours 114 = .ok (.if_icmp .ne 7, 3)) (by decide)
theorem oX4_areNeighbours_117 : OpS mX4_areNeighbours 117 (o_const (.int 1) 118) := s_iconst (by decide +kernel : decode cX4_areNeighbours 117 = .ok (.iconst 1, 1)) (by decide)
theorem oX4_areNeighbours_118 : OpS mX4_areNeighbours 118 (o_goto 122) := s_goto (by decide +kernel : decode cX4_areNeighbours 118 = .ok (.goto 4, 3)) (by decide)
theorem oX4_areNeighbours_121 : OpS mX4_areNeighbours 121 (o_const (.int 0) 122) := s_iconst (by decide +kernel : decode cX4_areNeighbours 121 = .ok (.iconst 0, 1)) (by decide)
theorem oX4_areNeighbours_122 : OpS mX4_areNeighbours 122 (o_zret) := s_zret rfl (by decide +kernel : decode cX4_areNeighbours 122 = .ok (.ireturn, 1))
