theorem oX9_init_0 : OpS mX9_init 0 (o_aload 0 1) := s_aload_n (by decide +kernel : decode cX9_init 0 = .ok (.aload_n 0, 1)) rfl
theorem oX9_init_1 : OpS mX9_init 1 (o_objinit 4) := s_objinit wd_430 wd_55 wd_56 (by decide +kernel : decode cX9_init 1 = .ok (.invokespecial 1, 3))
theorem oX9_init_4 : OpS mX9_init 4 (o_aload 0 5) := s_aload_n (by decide +kernel : decode cX9_init 4 = .ok (.aload_n 0, 1)) rfl
theorem oX9_init_5 : OpS mX9_init 5 (o_const (.int 0) 6) := s_iconst (by decide +kernel : decode cX9_init 5 = .ok (.iconst 0, 1)) (by decide)
theorem oX9_init_6 : OpS mX9_init 6 (o_putI 9 1 9) := s_putI (k := 1) clsX9 (by decide) rfl (Or.inl ⟨wd_433, Or.inl rfl⟩) (by decide +kernel : decode cX9_init 6 = .ok (.putfield 7, 3)) rfl rfl
theorem oX9_init_9 : OpS mX9_init 9 (o_aload 0 10) := s_aload_n (by decide +kernel : decode cX9_init 9 = .ok (.aload_n 0, 1)) rfl
theorem oX9_init_10 : OpS mX9_init 10 (o_const (.int 0) 11) := s_iconst (by decide +kernel : decode cX9_init 10 = .ok (.iconst 0, 1)) (by decide)
theorem oX9_init_11 : OpS mX9_init 11 (o_iload 1 12) := s_iload_n (by decide +kernel : decode cX9_init 11 = .ok (.iload_n 1, 1)) rfl
theorem oX9_init_12 : OpS mX9_init 12 (o_max 15) := s_max wd_431 wd_193 wd_3 wd_194 (by decide +kernel : decode cX9_init 12 = .ok (.invokestatic 13, 3))
theorem oX9_init_15 : OpS mX9_init 15 (o_newa 2 17) := s_newa2 wd_439 (by decide +kernel : decode cX9_init 15 = .ok (.newarray .int, 2))
theorem oX9_init_17 : OpS mX9_init 17 (o_putP 9 0 20) := s_putP (k := 0) clsX9 (by decide) rfl (Or.inl ⟨wd_432, Or.inr ⟨rfl, rfl, rfl⟩⟩) (by decide +kernel : decode cX9_init 17 = .ok (.putfield 19, 3)) rfl (fun _ => rfl) (fun _ => rfl)
theorem oX9_init_20 : OpS mX9_init 20 (o_vret) := s_vret rfl (by decide +kernel : decode cX9_init 20 = .ok (.return_, 1))
theorem oX9_size_0 : OpS mX9_size 0 (o_aload 0 1) := s_aload_n (by decide +kernel : decode cX9_size 0 = .ok (.aload_n 0, 1)) rfl
theorem oX9_size_1 : OpS mX9_size 1 (o_getI 9 1 4) := s_getI (k := 1) clsX9 (by decide) rfl (Or.inl wd_433) (by decide +kernel : decode cX9_size 1 = .ok (.getfield 7, 3)) rfl
theorem oX9_size_4 : OpS mX9_size 4 (o_iret) := s_iret rfl (by decide +kernel : decode cX9_size 4 = .ok (.ireturn, 1))
theorem oX9_isFull_0 : OpS mX9_isFull 0 (o_aload 0 1) := s_aload_n (by decide +kernel : decode cX9_isFull 0 = .ok (.aload_n 0, 1)) rfl
theorem oX9_isFull_1 : OpS mX9_isFull 1 (o_getI 9 1 4) := s_getI (k := 1) clsX9 (by decide) rfl (Or.inl wd_433) (by decide +kernel : decode cX9_isFull 1 = .ok (.getfield 7, 3)) rfl
theorem oX9_isFull_4 : OpS mX9_isFull 4 (o_aload 0 5) := s_aload_n (by decide +kernel : decode cX9_isFull 4 = .ok (.aload_n 0, 1)) rfl
theorem oX9_isFull_5 : OpS mX9_isFull 5 (o_getP 9 0 8) := s_getP (k := 0) clsX9 (by decide) rfl (Or.inl wd_432) (by decide +kernel : decode cX9_isFull 5 = .ok (.getfield 19, 3)) rfl
theorem oX9_isFull_8 : OpS mX9_isFull 8 (o_alen 2 9) := s_alen2 (by decide +kernel : decode cX9_isFull 8 = .ok (.arraylength, 1))
theorem oX9_isFull_9 : OpS mX9_isFull 9 (o_icmp (fun x y => x < y) 16 12) := s_icmp_lt (by decide +kernel : decode cX9_isFull 9 = .ok (.if_icmp .lt 7, 3)) (by decide)
theorem oX9_isFull_12 : OpS mX9_isFull 12 (o_const (.int 1) 13) := s_iconst (by decide +kernel : decode cX9_isFull 12 = .ok (.iconst 1, 1)) (by decide)
theorem oX9_isFull_13 : OpS mX9_isFull 13 (o_goto 17) := s_goto (by decide +kernel : decode cX9_isFull 13 = .ok (.goto 4, 3)) (by decide)
theorem oX9_isFull_16 : OpS mX9_isFull 16 (o_const (.int 0) 17) := s_iconst (by decide +kernel : decode cX9_isFull 16 = .ok (.iconst 0, 1)) (by decide)
theorem oX9_isFull_17 : OpS mX9_isFull 17 (o_zret) := s_zret rfl (by decide +kernel : decode cX9_isFull 17 = .ok (.ireturn, 1))
theorem oX9_at_0 : OpS mX9_at 0 (o_iload 1 1) := s_iload_n (by decide +kernel : decode cX9_at 0 = .ok (.iload_n 1, 1)) rfl
theorem oX9_at_1 : OpS mX9_at 1 (o_if (fun x => x < 0) 21 4) := s_if_lt (by decide +kernel : decode cX9_at 1 = .ok (.ifCond .lt 20, 3)) (by decide)
theorem oX9_at_4 : OpS mX9_at 4 (o_iload 1 5) := s_iload_n (by decide +kernel : decode cX9_at 4 = .ok (.iload_n 1, 1)) rfl
theorem oX9_at_5 : OpS mX9_at 5 (o_aload 0 6) := s_aload_n (by decide +kernel : decode cX9_at 5 = .ok (.aload_n 0, 1)) rfl
theorem oX9_at_6 : OpS mX9_at 6 (o_getI 9 1 9) := s_getI (k := 1) clsX9 (by decide) rfl (Or.inl wd_433) (by decide +kernel : decode cX9_at 6 = .ok (.getfield 7, 3)) rfl
theorem oX9_at_9 : OpS mX9_at 9 (o_icmp (fun x y => y ≤ x) 21 12) := s_icmp_ge (by decide +kernel : decode cX9_at 9 = .ok (.if_icmp .ge 12, 3)) (by decide)
theorem oX9_at_12 : OpS mX9_at 12 (o_aload 0 13) := s_aload_n (by decide +kernel : decode cX9_at 12 = .ok (.aload_n 0, 1)) rfl
theorem oX9_at_13 : OpS mX9_at 13 (o_getP 9 0 16) := s_getP (k := 0) clsX9 (by decide) rfl (Or.inl wd_432) (by decide +kernel : decode cX9_at 13 = .ok (.getfield 19, 3)) rfl
theorem oX9_at_16 : OpS mX9_at 16 (o_iload 1 17) := s_iload_n (by decide +kernel : decode cX9_at 16 = .ok (.iload_n 1, 1)) rfl
theorem oX9_at_17 : OpS mX9_at 17 (o_iald 18) := s_iald (by decide +kernel : decode cX9_at 17 = .ok (.iaload, 1))
theorem oX9_at_18 : OpS mX9_at 18 (o_goto 22) := s_goto (by decide +kernel : decode cX9_at 18 = .ok (.goto 4, 3)) (by decide)
theorem oX9_at_21 : OpS mX9_at 21 (o_const (.int (-1)) 22) := s_iconst (by decide +kernel : decode cX9_at 21 = .ok (.iconst (-1), 1)) (by decide)
theorem oX9_at_22 : OpS mX9_at 22 (o_iret) := s_iret rfl (by decide +kernel : decode cX9_at 22 = .ok (.ireturn, 1))
theorem oX9_put_0 : OpS mX9_put 0 (o_iload 1 1) := s_iload_n (by decide +kernel : decode cX9_put 0 = .ok (.iload_n 1, 1)) rfl
theorem oX9_put_1 : OpS mX9_put 1 (o_if (fun x => x < 0) 19 4) := s_if_lt (by decide +kernel : decode cX9_put 1 = .ok (.ifCond .lt 18, 3)) (by decide)
theorem oX9_put_4 : OpS mX9_put 4 (o_iload 1 5) := s_iload_n (by decide +kernel : decode cX9_put 4 = .ok (.iload_n 1, 1)) rfl
theorem oX9_put_5 : OpS mX9_put 5 (o_aload 0 6) := s_aload_n (by decide +kernel : decode cX9_put 5 = .ok (.aload_n 0, 1)) rfl
theorem oX9_put_6 : OpS mX9_put 6 (o_getI 9 1 9) := s_getI (k := 1) clsX9 (by decide) rfl (Or.inl wd_433) (by decide +kernel : decode cX9_put 6 = .ok (.getfield 7, 3)) rfl
theorem oX9_put_9 : OpS mX9_put 9 (o_icmp (fun x y => y ≤ x) 19 12) := s_icmp_ge (by decide +kernel : decode cX9_put 9 = .ok (.if_icmp .ge 10, 3)) (by decide)
theorem oX9_put_12 : OpS mX9_put 12 (o_aload 0 13) := s_aload_n (by decide +kernel : decode cX9_put 12 = .ok (.aload_n 0, 1)) rfl
theorem oX9_put_13 : OpS mX9_put 13 (o_getP 9 0 16) := s_getP (k := 0) clsX9 (by decide) rfl (Or.inl wd_432) (by decide +kernel : decode cX9_put 13 = .ok (.getfield 19, 3)) rfl
theorem oX9_put_16 : OpS mX9_put 16 (o_iload 1 17) := s_iload_n (by decide +kernel : decode cX9_put 16 = .ok (.iload_n 1, 1)) rfl
theorem oX9_put_17 : OpS mX9_put 17 (o_iload 2 18) := s_iload_n (by decide +kernel : decode cX9_put 17 = .ok (.iload_n 2, 1)) rfl
theorem oX9_put_18 : OpS mX9_put 18 (o_iast 19) := s_iast (by decide +kernel : decode cX9_put 18 = .ok (.iastore, 1))
theorem oX9_put_19 : OpS mX9_put 19 (o_vret) := s_vret rfl (by decide +kernel : decode cX9_put 19 = .ok (.return_, 1))
theorem oX9_add_0 : OpS mX9_add 0 (o_aload 0 1) := s_aload_n (by decide +kernel : decode cX9_add 0 = .ok (.aload_n 0, 1)) rfl
theorem oX9_add_1 : OpS mX9_add 1 (o_getI 9 1 4) := s_getI (k := 1) clsX9 (by decide) rfl (Or.inl wd_433) (by decide +kernel : decode cX9_add 1 = .ok (.getfield 7, 3)) rfl
theorem oX9_add_4 : OpS mX9_add 4 (o_aload 0 5) := s_aload_n (by decide +kernel : decode cX9_add 4 = .ok (.aload_n 0, 1)) rfl
theorem oX9_add_5 : OpS mX9_add 5 (o_getP 9 0 8) := s_getP (k := 0) clsX9 (by decide) rfl (Or.inl wd_432) (by decide +kernel : decode cX9_add 5 = .ok (.getfield 19, 3)) rfl
theorem oX9_add_8 : OpS mX9_add 8 (o_alen 2 9) := s_alen2 (by decide +kernel : decode cX9_add 8 = .ok (.arraylength, 1))
theorem oX9_add_9 : OpS mX9_add 9 (o_icmp (fun x y => y ≤ x) 32 12) := s_icmp_ge (by decide +kernel : decode cX9_add 9 = .ok (.if_icmp .ge 23, 3)) (by decide)
theorem oX9_add_12 : OpS mX9_add 12 (o_aload 0 13) := s_aload_n (by decide +kernel : decode cX9_add 12 = .ok (.aload_n 0, 1)) rfl
theorem oX9_add_13 : OpS mX9_add 13 (o_getP 9 0 16) := s_getP (k := 0) clsX9 (by decide) rfl (Or.inl wd_432) (by decide +kernel : decode cX9_add 13 = .ok (.getfield 19, 3)) rfl
theorem oX9_add_16 : OpS mX9_add 16 (o_aload 0 17) := s_aload_n (by decide +kernel : decode cX9_add 16 = .ok (.aload_n 0, 1)) rfl
theorem oX9_add_17 : OpS mX9_add 17 (o_getI 9 1 20) := s_getI (k := 1) clsX9 (by decide) rfl (Or.inl wd_433) (by decide +kernel : decode cX9_add 17 = .ok (.getfield 7, 3)) rfl
theorem oX9_add_20 : OpS mX9_add 20 (o_iload 1 21) := s_iload_n (by decide +kernel : decode cX9_add 20 = .ok (.iload_n 1, 1)) rfl
theorem oX9_add_21 : OpS mX9_add 21 (o_iast 22) := s_iast (by decide +kernel : decode cX9_add 21 = .ok (.iastore, 1))
theorem oX9_add_22 : OpS mX9_add 22 (o_aload 0 23) := s_aload_n (by decide +kernel : decode cX9_add 22 = .ok (.aload_n 0, 1)) rfl
theorem oX9_add_23 : OpS mX9_add 23 (o_dup 24) := s_dup (by decide +kernel : decode cX9_add 23 = .ok (.dup, 1))
theorem oX9_add_24 : OpS mX9_add 24 (o_getI 9 1 27) := s_getI (k := 1) clsX9 (by decide) rfl (Or.inl wd_433) (by decide +kernel : decode cX9_add 24 = .ok (.getfield 7, 3)) rfl
theorem oX9_add_27 : OpS mX9_add 27 (o_const (.int 1) 28) := s_iconst (by decide +kernel : decode cX9_add 27 = .ok (.iconst 1, 1)) (by decide)
theorem oX9_add_28 : OpS mX9_add 28 (o_ibin (fun x y => x + y) 29) := s_iadd (by decide +kernel : decode cX9_add 28 = .ok (.iadd, 1))
theorem oX9_add_29 : OpS mX9_add 29 (o_putI 9 1 32) := s_putI (k := 1) clsX9 (by decide) rfl (Or.inl ⟨wd_433, Or.inl rfl⟩) (by decide +kernel : decode cX9_add 29 = .ok (.putfield 7, 3)) rfl rfl
theorem oX9_add_32 : OpS mX9_add 32 (o_vret) := s_vret rfl (by decide +kernel : decode cX9_add 32 = .ok (.return_, 1))
theorem oX9_removeLast_0 : OpS mX9_removeLast 0 (o_aload 0 1) := s_aload_n (by decide +kernel : decode cX9_removeLast 0 = .ok (.aload_n 0, 1)) rfl
theorem oX9_removeLast_1 : OpS mX9_removeLast 1 (o_getI 9 1 4) := s_getI (k := 1) clsX9 (by decide) rfl (Or.inl wd_433) (by decide +kernel : decode cX9_removeLast 1 = .ok (.getfield 7, 3)) rfl
theorem oX9_removeLast_4 : OpS mX9_removeLast 4 (o_if (fun x => x = 0) 7 9) := s_if_ne (by decide +kernel : decode cX9_removeLast 4 = .ok (.ifCond .ne 5, 3)) (by decide)
theorem oX9_removeLast_7 : OpS mX9_removeLast 7 (o_const (.int 0) 8) := s_iconst (by decide +kernel : decode cX9_removeLast 7 = .ok (.iconst 0, 1)) (by decide)
theorem oX9_removeLast_8 : OpS mX9_removeLast 8 (o_iret) := s_iret rfl (by decide +kernel : decode cX9_removeLast 8 = .ok (.ireturn, 1))
theorem oX9_removeLast_9 : OpS mX9_removeLast 9 (o_aload 0 10) := s_aload_n (by decide +kernel : decode cX9_removeLast 9 = .ok (.aload_n 0, 1)) rfl
theorem oX9_removeLast_10 : OpS mX9_removeLast 10 (o_dup 11) := s_dup (by decide +kernel : decode cX9_removeLast 10 = .ok (.dup, 1))
theorem oX9_removeLast_11 : OpS mX9_removeLast 11 (o_getI 9 1 14) := s_getI (k := 1) clsX9 (by decide) rfl (Or.inl wd_433) (by decide +kernel : decode cX9_removeLast 11 = .ok (.getfield 7, 3)) rfl
theorem oX9_removeLast_14 : OpS mX9_removeLast 14 (o_const (.int 1) 15) := s_iconst (by decide +kernel : decode cX9_removeLast 14 = .ok (.iconst 1, 1)) (by decide)
theorem oX9_removeLast_15 : OpS mX9_removeLast 15 (o_ibin (fun x y => x - y) 16) := s_isub (by decide +kernel : decode cX9_removeLast 15 = .ok (.isub, 1))
theorem oX9_removeLast_16 : OpS mX9_removeLast 16 (o_putI 9 1 19) := s_putI (k := 1) clsX9 (by decide) rfl (Or.inl ⟨wd_433, Or.inl rfl⟩) (by decide +kernel : decode cX9_removeLast 16 = .ok (.putfield 7, 3)) rfl rfl
theorem oX9_removeLast_19 : OpS mX9_removeLast 19 (o_aload 0 20) := s_aload_n (by decide +kernel : decode cX9_removeLast 19 = .ok (.aload_n 0, 1)) rfl
theorem oX9_removeLast_20 : OpS mX9_removeLast 20 (o_getP 9 0 23) := s_getP (k := 0) clsX9 (by decide) rfl (Or.inl wd_432) (by decide +kernel : decode cX9_removeLast 20 = .ok (.getfield 19, 3)) rfl
theorem oX9_removeLast_23 : OpS mX9_removeLast 23 (o_aload 0 24) := s_aload_n (by decide +kernel : decode cX9_removeLast 23 = .ok (.aload_n 0, 1)) rfl
theorem oX9_removeLast_24 : OpS mX9_removeLast 24 (o_getI 9 1 27) := s_getI (k := 1) clsX9 (by decide) rfl (Or.inl wd_433) (by decide +kernel : decode cX9_removeLast 24 = .ok (.getfield 7, 3)) rfl
theorem oX9_removeLast_27 : OpS mX9_removeLast 27 (o_iald 28) := s_iald (by decide +kernel : decode cX9_removeLast 27 = .ok (.iaload, 1))
theorem oX9_removeLast_28 : OpS mX9_removeLast 28 (o_iret) := s_iret rfl (by decide +kernel : decode cX9_removeLast 28 = .ok (.ireturn, 1))
theorem oX9_shorten_0 : OpS mX9_shorten 0 (o_iload 1 1) := s_iload_n (by decide +kernel : decode cX9_shorten 0 = .ok (.iload_n 1, 1)) rfl
theorem oX9_shorten_1 : OpS mX9_shorten 1 (o_if (fun x => x < 0) 17 4) := s_if_lt (by decide +kernel : decode cX9_shorten 1 = .ok (.ifCond .lt 16, 3)) (by decide)
theorem oX9_shorten_4 : OpS mX9_shorten 4 (o_iload 1 5) := s_iload_n (by decide +kernel : decode cX9_shorten 4 = .ok (.iload_n 1, 1)) rfl
theorem oX9_shorten_5 : OpS mX9_shorten 5 (o_aload 0 6) := s_aload_n (by decide +kernel : decode cX9_shorten 5 = .ok (.aload_n 0, 1)) rfl
theorem oX9_shorten_6 : OpS mX9_shorten 6 (o_getI 9 1 9) := s_getI (k := 1) clsX9 (by decide) rfl (Or.inl wd_433) (by decide +kernel : decode cX9_shorten 6 = .ok (.getfield 7, 3)) rfl
theorem oX9_shorten_9 : OpS mX9_shorten 9 (o_icmp (fun x y => y ≤ x) 17 12) := s_icmp_ge (by decide +kernel : decode cX9_shorten 9 = .ok (.if_icmp .ge 8, 3)) (by decide)
theorem oX9_shorten_12 : OpS mX9_shorten 12 (o_aload 0 13) := s_aload_n (by decide +kernel : decode cX9_shorten 12 = .ok (.aload_n 0, 1)) rfl
theorem oX9_shorten_13 : OpS mX9_shorten 13 (o_iload 1 14) := s_iload_n (by decide +kernel : decode cX9_shorten 13 = .ok (.iload_n 1, 1)) rfl
theorem oX9_shorten_14 : OpS mX9_shorten 14 (o_putI 9 1 17) := s_putI (k := 1) clsX9 (by decide) rfl (Or.inl ⟨wd_433, Or.inl rfl⟩) (by decide +kernel : decode cX9_shorten 14 = .ok (.putfield 7, 3)) rfl rfl
theorem oX9_shorten_17 : OpS mX9_shorten 17 (o_vret) := s_vret rfl (by decide +kernel : decode cX9_shorten 17 = .ok (.return_, 1))
theorem oX9_clear_0 : OpS mX9_clear 0 (o_aload 0 1) := s_aload_n (by decide +kernel : decode cX9_clear 0 = .ok (.aload_n 0, 1)) rfl
theorem oX9_clear_1 : OpS mX9_clear 1 (o_const (.int 0) 2) := s_iconst (by decide +kernel : decode cX9_clear 1 = .ok (.iconst 0, 1)) (by decide)
theorem oX9_clear_2 : OpS mX9_clear 2 (o_putI 9 1 5) := s_putI (k := 1) clsX9 (by decide) rfl (Or.inl ⟨wd_433, Or.inl rfl⟩) (by decide +kernel : decode cX9_clear 2 = .ok (.putfield 7, 3)) rfl rfl
theorem oX9_clear_5 : OpS mX9_clear 5 (o_vret) := s_vret rfl (by decide +kernel : decode cX9_clear 5 = .ok (.return_, 1))
theorem oX9_copy_0 : OpS mX9_copy 0 (o_aload 0 1) := s_aload_n (by decide +kernel : decode cX9_copy 0 = .ok (.aload_n 0, 1)) rfl
theorem oX9_copy_1 : OpS mX9_copy 1 (o_const (.int 0) 2) := s_iconst (by decide +kernel : decode cX9_copy 1 = .ok (.iconst 0, 1)) (by decide)
theorem oX9_copy_2 : OpS mX9_copy 2 (o_putI 9 1 5) := s_putI (k := 1) clsX9 (by decide) rfl (Or.inl ⟨wd_433, Or.inl rfl⟩) (by decide +kernel : decode cX9_copy 2 = .ok (.putfield 7, 3)) rfl rfl
theorem oX9_copy_5 : OpS mX9_copy 5 (o_const (.int 0) 6) := s_iconst (by decide +kernel : decode cX9_copy 5 = .ok (.iconst 0, 1)) (by decide)
theorem oX9_copy_6 : OpS mX9_copy 6 (o_istore 4 5 8) := s_istore (by decide +kernel : decode cX9_copy 6 = .ok (.istore 4, 2)) rfl
theorem oX9_copy_8 : OpS mX9_copy 8 (o_iload 4 10) := s_iload (by decide +kernel : decode cX9_copy 8 = .ok (.iload 4, 2))
theorem oX9_copy_10 : OpS mX9_copy 10 (o_iload 3 11) := s_iload_n (by decide +kernel : decode cX9_copy 10 = .ok (.iload_n 3, 1)) rfl
theorem oX9_copy_11 : OpS mX9_copy 11 (o_icmp (fun x y => y ≤ x) 55 14) := s_icmp_ge (by decide +kernel : decode cX9_copy 11 = .ok (.if_icmp .ge 44, 3)) (by decide)
theorem oX9_copy_14 : OpS mX9_copy 14 (o_iload 4 16) := s_iload (by decide +kernel : decode cX9_copy 14 = .ok (.iload 4, 2))
theorem oX9_copy_16 : OpS mX9_copy 16 (o_aload 0 17) := s_aload_n (by decide +kernel : decode cX9_copy 16 = .ok (.aload_n 0, 1)) rfl
theorem oX9_copy_17 : OpS mX9_copy 17 (o_getP 9 0 20) := s_getP (k := 0) clsX9 (by decide) rfl (Or.inl wd_432) (by decide +kernel : decode cX9_copy 17 = .ok (.getfield 19, 3)) rfl
theorem oX9_copy_20 : OpS mX9_copy 20 (o_alen 2 21) := s_alen2 (by decide +kernel : decode cX9_copy 20 = .ok (.arraylength, 1))
theorem oX9_copy_21 : OpS mX9_copy 21 (o_icmp (fun x y => y ≤ x) 55 24) := s_icmp_ge (by decide +kernel : decode cX9_copy 21 = .ok (.if_icmp .ge 34, 3)) (by decide)
theorem oX9_copy_24 : OpS mX9_copy 24 (o_aload 0 25) := s_aload_n (by decide +kernel : decode cX9_copy 24 = .ok (.aload_n 0, 1)) rfl
theorem oX9_copy_25 : OpS mX9_copy 25 (o_getP 9 0 28) := s_getP (k := 0) clsX9 (by decide) rfl (Or.inl wd_432) (by decide +kernel : decode cX9_copy 25 = .ok (.getfield 19, 3)) rfl
theorem oX9_copy_28 : OpS mX9_copy 28 (o_iload 4 30) := s_iload (by decide +kernel : decode cX9_copy 28 = .ok (.iload 4, 2))
theorem oX9_copy_30 : OpS mX9_copy 30 (o_aload 1 31) := s_aload_n (by decide +kernel : decode cX9_copy 30 = .ok (.aload_n 1, 1)) rfl
theorem oX9_copy_31 : OpS mX9_copy 31 (o_iload 2 32) := s_iload_n (by decide +kernel : decode cX9_copy 31 = .ok (.iload_n 2, 1)) rfl
theorem oX9_copy_32 : OpS mX9_copy 32 (o_iload 4 34) := s_iload (by decide +kernel : decode cX9_copy 32 = .ok (.iload 4, 2))
theorem oX9_copy_34 : OpS mX9_copy 34 (o_ibin (fun x y => x + y) 35) := s_iadd (by decide +kernel : decode cX9_copy 34 = .ok (.iadd, 1))
theorem oX9_copy_35 : OpS mX9_copy 35 (o_callV mX9_at 9 1 38) := s_callV ceX9_at clsX9 (Or.inl wd_533) wd_133 selX9_at (by decide +kernel : decode cX9_copy 35 = .ok (.invokevirtual 23, 3))
theorem oX9_copy_38 : OpS mX9_copy 38 (o_iast 39) := s_iast (by decide +kernel : decode cX9_copy 38 = .ok (.iastore, 1))
theorem oX9_copy_39 : OpS mX9_copy 39 (o_aload 0 40) := s_aload_n (by decide +kernel : decode cX9_copy 39 = .ok (.aload_n 0, 1)) rfl
theorem oX9_copy_40 : OpS mX9_copy 40 (o_dup 41) := s_dup (by decide +kernel : decode cX9_copy 40 = .ok (.dup, 1))
theorem oX9_copy_41 : OpS mX9_copy 41 (o_getI 9 1 44) := s_getI (k := 1) clsX9 (by decide) rfl (Or.inl wd_433) (by decide +kernel : decode cX9_copy 41 = .ok (.getfield 7, 3)) rfl
theorem oX9_copy_44 : OpS mX9_copy 44 (o_const (.int 1) 45) := s_iconst (by decide +kernel : decode cX9_copy 44 = .ok (.iconst 1, 1)) (by decide)
theorem oX9_copy_45 : OpS mX9_copy 45 (o_ibin (fun x y => x + y) 46) := s_iadd (by decide +kernel : decode cX9_copy 45 = .ok (.iadd, 1))
theorem oX9_copy_46 : OpS mX9_copy 46 (o_putI 9 1 49) := s_putI (k := 1) clsX9 (by decide) rfl (Or.inl ⟨wd_433, Or.inl rfl⟩) (by decide +kernel : decode cX9_copy 46 = .ok (.putfield 7, 3)) rfl rfl
theorem oX9_copy_49 : OpS mX9_copy 49 (o_iinc 4 5 1 52) := s_iinc (by decide +kernel : decode cX9_copy 49 = .ok (.iinc 4 1, 3)) (by decide) rfl
theorem oX9_copy_52 : OpS mX9_copy 52 (o_goto 8) := s_goto (by decide +kernel : decode cX9_copy 52 = .ok (.goto (-44), 3)) (by decide)
theorem oX9_copy_55 : OpS mX9_copy 55 (o_vret) := s_vret rfl (by decide +kernel : decode cX9_copy 55 = .ok (.return_, 1))
theorem oX9_fill_0 : OpS mX9_fill 0 (o_aload 0 1) := s_aload_n (by decide +kernel : decode cX9_fill 0 = .ok (.aload_n 0, 1)) rfl
theorem oX9_fill_1 : OpS mX9_fill 1 (o_const (.int 0) 2) := s_iconst (by decide +kernel : decode cX9_fill 1 = .ok (.iconst 0, 1)) (by decide)
theorem oX9_fill_2 : OpS mX9_fill 2 (o_putI 9 1 5) := s_putI (k := 1) clsX9 (by decide) rfl (Or.inl ⟨wd_433, Or.inl rfl⟩) (by decide +kernel : decode cX9_fill 2 = .ok (.putfield 7, 3)) rfl rfl
theorem oX9_fill_5 : OpS mX9_fill 5 (o_const (.int 0) 6) := s_iconst (by decide +kernel : decode cX9_fill 5 = .ok (.iconst 0, 1)) (by decide)
theorem oX9_fill_6 : OpS mX9_fill 6 (o_istore 2 3 7) := s_istore_n (by decide +kernel : decode cX9_fill 6 = .ok (.istore_n 2, 1)) rfl rfl
theorem oX9_fill_7 : OpS mX9_fill 7 (o_iload 2 8) := s_iload_n (by decide +kernel : decode cX9_fill 7 = .ok (.iload_n 2, 1)) rfl
theorem oX9_fill_8 : OpS mX9_fill 8 (o_aload 0 9) := s_aload_n (by decide +kernel : decode cX9_fill 8 = .ok (.aload_n 0, 1)) rfl
theorem oX9_fill_9 : OpS mX9_fill 9 (o_getP 9 0 12) := s_getP (k := 0) clsX9 (by decide) rfl (Or.inl wd_432) (by decide +kernel : decode cX9_fill 9 = .ok (.getfield 19, 3)) rfl
theorem oX9_fill_12 : OpS mX9_fill 12 (o_alen 2 13) := s_alen2 (by decide +kernel : decode cX9_fill 12 = .ok (.arraylength, 1))
theorem oX9_fill_13 : OpS mX9_fill 13 (o_icmp (fun x y => y ≤ x) 27 16) := s_icmp_ge (by decide +kernel : decode cX9_fill 13 = .ok (.if_icmp .ge 14, 3)) (by decide)
theorem oX9_fill_16 : OpS mX9_fill 16 (o_aload 0 17) := s_aload_n (by decide +kernel : decode cX9_fill 16 = .ok (.aload_n 0, 1)) rfl
theorem oX9_fill_17 : OpS mX9_fill 17 (o_iload 1 18) := s_iload_n (by decide +kernel : decode cX9_fill 17 = .ok (.iload_n 1, 1)) rfl
theorem oX9_fill_18 : OpS mX9_fill 18 (o_callV mX9_add 9 1 21) := s_callV ceX9_add clsX9 (Or.inl wd_206) wd_129 selX9_add (by decide +kernel : decode cX9_fill 18 = .ok (.invokevirtual 27, 3))
theorem oX9_fill_21 : OpS mX9_fill 21 (o_iinc 2 3 1 24) := s_iinc (by decide +kernel : decode cX9_fill 21 = .ok (.iinc 2 1, 3)) (by decide) rfl
theorem oX9_fill_24 : OpS mX9_fill 24 (o_goto 7) := s_goto (by decide +kernel : decode cX9_fill 24 = .ok (.goto (-17), 3)) (by decide)
theorem oX9_fill_27 : OpS mX9_fill 27 (o_vret) := s_vret rfl (by decide +kernel : decode cX9_fill 27 = .ok (.return_, 1))
theorem oX9_sameAhead_0 : OpS mX9_sameAhead 0 (o_aload 0 1) := s_aload_n (by decide +kernel : decode cX9_sameAhead 0 = .ok (.aload_n 0, 1)) rfl
theorem oX9_sameAhead_1 : OpS mX9_sameAhead 1 (o_getI 9 1 4) := s_getI (k := 1) clsX9 (by decide) rfl (Or.inl wd_433) (by decide +kernel : decode cX9_sameAhead 1 = .ok (.getfield 7, 3)) rfl
theorem oX9_sameAhead_4 : OpS mX9_sameAhead 4 (o_aload 1 5) := s_aload_n (by decide +kernel : decode cX9_sameAhead 4 = .ok (.aload_n 1, 1)) rfl
theorem oX9_sameAhead_5 : OpS mX9_sameAhead 5 (o_getI 9 1 8) := s_getI (k := 1) clsX9 (by decide) rfl (Or.inl wd_433) (by decide +kernel : decode cX9_sameAhead 5 = .ok (.getfield 7, 3)) rfl
theorem oX9_sameAhead_8 : OpS mX9_sameAhead 8 (o_min 11) := s_min wd_179 wd_146 wd_3 wd_147 (by decide +kernel : decode cX9_sameAhead 8 = .ok (.invokestatic 31, 3))
theorem oX9_sameAhead_11 : OpS mX9_sameAhead 11 (o_istore 2 4 12) := s_istore_n (by decide +kernel : decode cX9_sameAhead 11 = .ok (.istore_n 2, 1)) rfl rfl
theorem oX9_sameAhead_12 : OpS mX9_sameAhead 12 (o_const (.int 0) 13) := s_iconst (by decide +kernel : decode cX9_sameAhead 12 = .ok (.iconst 0, 1)) (by decide)
theorem oX9_sameAhead_13 : OpS mX9_sameAhead 13 (o_istore 3 4 14) := s_istore_n (by decide +kernel : decode cX9_sameAhead 13 = .ok (.istore_n 3, 1)) rfl rfl
theorem oX9_sameAhead_14 : OpS mX9_sameAhead 14 (o_iload 3 15) := s_iload_n (by decide +kernel : decode cX9_sameAhead 14 = .ok (.iload_n 3, 1)) rfl
theorem oX9_sameAhead_15 : OpS mX9_sameAhead 15 (o_iload 2 16) := s_iload_n (by decide +kernel : decode cX9_sameAhead 15 = .ok (.iload_n 2, 1)) rfl
theorem oX9_sameAhead_16 : OpS mX9_sameAhead 16 (o_icmp (fun x y => y ≤ x) 42 19) := s_icmp_ge (by decide +kernel : decode cX9_sameAhead 16 = .ok (.if_icmp .ge 26, 3)) (by decide)
theorem oX9_sameAhead_19 : OpS mX9_sameAhead 19 (o_aload 0 20) := s_aload_n (by decide +kernel : decode cX9_sameAhead 19 = .ok (.aload_n 0, 1)) rfl
theorem oX9_sameAhead_20 : OpS mX9_sameAhead 20 (o_getP 9 0 23) := s_getP (k := 0) clsX9 (by decide) rfl (Or.inl wd_432) (by decide +kernel : decode cX9_sameAhead 20 = .ok (.getfield 19, 3)) rfl
theorem oX9_sameAhead_23 : OpS mX9_sameAhead 23 (o_iload 3 24) := s_iload_n (by decide +kernel : decode cX9_sameAhead 23 = .ok (.iload_n 3, 1)) rfl
theorem oX9_sameAhead_24 : OpS mX9_sameAhead 24 (o_iald 25) := s_iald (by decide +kernel : decode cX9_sameAhead 24 = .ok (.iaload, 1))
theorem oX9_sameAhead_25 : OpS mX9_sameAhead 25 (o_aload 1 26) := s_aload_n (by decide +kernel : decode cX9_sameAhead 25 = .ok (.aload_n 1, 1)) rfl
theorem oX9_sameAhead_26 : OpS mX9_sameAhead 26 (o_getP 9 0 29) := s_getP (k := 0) clsX9 (by decide) rfl (Or.inl wd_432) (by decide +kernel : decode cX9_sameAhead 26 = .ok (.getfield 19, 3)) rfl
theorem oX9_sameAhead_29 : OpS mX9_sameAhead 29 (o_iload 3 30) := s_iload_n (by decide +kernel : decode cX9_sameAhead 29 = .ok (.iload_n 3, 1)) rfl
theorem oX9_sameAhead_30 : OpS mX9_sameAhead 30 (o_iald 31) := s_iald (by decide +kernel : decode cX9_sameAhead 30 = .ok (.iaload, 1))
theorem oX9_sameAhead_31 : OpS mX9_sameAhead 31 (o_icmp (fun x y => x = y) 36 34) := s_icmp_eq (by decide +kernel : decode cX9_sameAhead 31 = .ok (.if_icmp .eq 5, 3)) (by decide)
theorem oX9_sameAhead_34 : OpS mX9_sameAhead 34 (o_iload 3 35) := s_iload_n (by decide +kernel : decode cX9_sameAhead 34 = .ok (.iload_n 3, 1)) rfl
theorem oX9_sameAhead_35 : OpS mX9_sameAhead 35 (o_iret) := s_iret rfl (by decide +kernel : decode cX9_sameAhead 35 = .ok (.ireturn, 1))
theorem oX9_sameAhead_36 : OpS mX9_sameAhead 36 (o_iinc 3 4 1 39) := s_iinc (by decide +kernel : decode cX9_sameAhead 36 = .ok (.iinc 3 1, 3)) (by decide) rfl
theorem oX9_sameAhead_39 : OpS mX9_sameAhead 39 (o_goto 14) := s_goto (by decide +kernel : decode cX9_sameAhead 39 = .ok (.goto (-25), 3)) (by decide)
theorem oX9_sameAhead_42 : OpS mX9_sameAhead 42 (o_iload 2 43) := s_iload_n (by decide +kernel : decode cX9_sameAhead 42 = .ok (.iload_n 2, 1)) rfl
theorem oX9_sameAhead_43 : OpS mX9_sameAhead 43 (o_iret) := s_iret rfl (by decide +kernel : decode cX9_sameAhead 43 = .ok (.ireturn, 1))
theorem oX9_beginsWith_0 : OpS mX9_beginsWith 0 (o_aload 0 1) := s_aload_n (by decide +kernel : decode cX9_beginsWith 0 = .ok (.aload_n 0, 1)) rfl
theorem oX9_beginsWith_1 : OpS mX9_beginsWith 1 (o_aload 1 2) := s_aload_n (by decide +kernel : decode cX9_beginsWith 1 = .ok (.aload_n 1, 1)) rfl
theorem oX9_beginsWith_2 : OpS mX9_beginsWith 2 (o_callV mX9_sameAhead 9 1 5) := s_callV ceX9_sameAhead clsX9 (Or.inl wd_175) wd_176 selX9_sameAhead (by decide +kernel : decode cX9_beginsWith 2 = .ok (.invokevirtual 34, 3))
theorem oX9_beginsWith_5 : OpS mX9_beginsWith 5 (o_aload 1 6) := s_aload_n (by decide +kernel : decode cX9_beginsWith 5 = .ok (.aload_n 1, 1)) rfl
theorem oX9_beginsWith_6 : OpS mX9_beginsWith 6 (o_getI 9 1 9) := s_getI (k := 1) clsX9 (by decide) rfl (Or.inl wd_433) (by decide +kernel : decode cX9_beginsWith 6 = .ok (.getfield 7, 3)) rfl
theorem oX9_beginsWith_9 : OpS mX9_beginsWith 9 (o_icmp (fun x y => x = y) 12 16) := s_icmp_ne (by decide +kernel : decode cX9_beginsWith 9 = .ok (.if_icmp .ne 7, 3)) (by decide)
theorem oX9_beginsWith_12 : OpS mX9_beginsWith 12 (o_const (.int 1) 13) := s_iconst (by decide +kernel : decode cX9_beginsWith 12 = .ok (.iconst 1, 1)) (by decide)
theorem oX9_beginsWith_13 : OpS mX9_beginsWith 13 (o_goto 17) := s_goto (by decide +kernel : decode cX9_beginsWith 13 = .ok (.goto 4, 3)) (by decide)
theorem oX9_beginsWith_16 : OpS mX9_beginsWith 16 (o_const (.int 0) 17) := s_iconst (by decide +kernel : decode cX9_beginsWith 16 = .ok (.iconst 0, 1)) (by decide)
theorem oX9_beginsWith_17 : OpS mX9_beginsWith 17 (o_zret) := s_zret rfl (by decide +kernel : decode cX9_beginsWith 17 = .ok (.ireturn, 1))
theorem oX9_isSame_0 : OpS mX9_isSame 0 (o_aload 0 1) := s_aload_n (by decide +kernel : decode cX9_isSame 0 = .ok (.aload_n 0, 1)) rfl
theorem oX9_isSame_1 : OpS mX9_isSame 1 (o_getI 9 1 4) := s_getI (k := 1) clsX9 (by decide) rfl (Or.inl wd_433) (by decide +kernel : decode cX9_isSame 1 = .ok (.getfield 7, 3)) rfl
theorem oX9_isSame_4 : OpS mX9_isSame 4 (o_aload 1 5) := s_aload_n (by decide +kernel : decode cX9_isSame 4 = .ok (.aload_n 1, 1)) rfl
theorem oX9_isSame_5 : OpS mX9_isSame 5 (o_getI 9 1 8) := s_getI (k := 1) clsX9 (by decide) rfl (Or.inl wd_433) (by decide +kernel : decode cX9_isSame 5 = .ok (.getfield 7, 3)) rfl
theorem oX9_isSame_8 : OpS mX9_isSame 8 (o_icmp (fun x y => x = y) 11 27) := s_icmp_ne (by decide +kernel : decode cX9_isSame 8 = .ok (.if_icmp .ne 19, 3)) (by decide)
theorem oX9_isSame_11 : OpS mX9_isSame 11 (o_aload 0 12) := s_aload_n (by decide +kernel : decode cX9_isSame 11 = .ok (.aload_n 0, 1)) rfl
theorem oX9_isSame_12 : OpS mX9_isSame 12 (o_aload 1 13) := s_aload_n (by decide +kernel : decode cX9_isSame 12 = .ok (.aload_n 1, 1)) rfl
theorem oX9_isSame_13 : OpS mX9_isSame 13 (o_callV mX9_sameAhead 9 1 16) := s_callV ceX9_sameAhead clsX9 (Or.inl wd_175) wd_176 selX9_sameAhead (by decide +kernel : decode cX9_isSame 13 = .ok (.invokevirtual 34, 3))
theorem oX9_isSame_16 : OpS mX9_isSame 16 (o_aload 0 17) := s_aload_n (by decide +kernel : decode cX9_isSame 16 = .ok (.aload_n 0, 1)) rfl
theorem oX9_isSame_17 : OpS mX9_isSame 17 (o_getI 9 1 20) := s_getI (k := 1) clsX9 (by decide) rfl (Or.inl wd_433) (by decide +kernel : decode cX9_isSame 17 = .ok (.getfield 7, 3)) rfl
theorem oX9_isSame_20 : OpS mX9_isSame 20 (o_icmp (fun x y => x = y) 23 27) := s_icmp_ne (by decide +kernel : decode cX9_isSame 20 = .ok (.if_icmp .ne 7, 3)) (by decide)
theorem oX9_isSame_23 : OpS mX9_isSame 23 (o_const (.int 1) 24) := s_iconst (by decide +kernel : decode cX9_isSame 23 = .ok (.iconst 1, 1)) (by decide)
theorem oX9_isSame_24 : OpS mX9_isSame 24 (o_goto 28) := s_goto (by decide +kernel : decode cX9_isSame 24 = .ok (.goto 4, 3)) (by decide)
theorem oX9_isSame_27 : OpS mX9_isSame 27 (o_const (.int 0) 28) := s_iconst (by decide +kernel : decode cX9_isSame 27 = .ok (.iconst 0, 1)) (by decide)
theorem oX9_isSame_28 : OpS mX9_isSame 28 (o_zret) := s_zret rfl (by decide +kernel : decode cX9_isSame 28 = .ok (.ireturn, 1))
theorem oX9_addTo_0 : OpS mX9_addTo 0 (o_lload 1 1) := s_lload_n (by decide +kernel : decode cX9_addTo 0 = .ok (.lload_n 1, 1)) rfl
theorem oX9_addTo_1 : OpS mX9_addTo 1 (o_lstore 3 6 2) := s_lstore_n (by decide +kernel : decode cX9_addTo 1 = .ok (.lstore_n 3, 1)) rfl rfl
theorem oX9_addTo_2 : OpS mX9_addTo 2 (o_const (.int 0) 3) := s_iconst (by decide +kernel : decode cX9_addTo 2 = .ok (.iconst 0, 1)) (by decide)
theorem oX9_addTo_3 : OpS mX9_addTo 3 (o_istore 5 6 5) := s_istore (by decide +kernel : decode cX9_addTo 3 = .ok (.istore 5, 2)) rfl
theorem oX9_addTo_5 : OpS mX9_addTo 5 (o_iload 5 7) := s_iload (by decide +kernel : decode cX9_addTo 5 = .ok (.iload 5, 2))
theorem oX9_addTo_7 : OpS mX9_addTo 7 (o_aload 0 8) := s_aload_n (by decide +kernel : decode cX9_addTo 7 = .ok (.aload_n 0, 1)) rfl
theorem oX9_addTo_8 : OpS mX9_addTo 8 (o_getI 9 1 11) := s_getI (k := 1) clsX9 (by decide) rfl (Or.inl wd_433) (by decide +kernel : decode cX9_addTo 8 = .ok (.getfield 7, 3)) rfl
theorem oX9_addTo_11 : OpS mX9_addTo 11 (o_icmp (fun x y => y ≤ x) 35 14) := s_icmp_ge (by decide +kernel : decode cX9_addTo 11 = .ok (.if_icmp .ge 24, 3)) (by decide)
theorem oX9_addTo_14 : OpS mX9_addTo 14 (o_lload 3 15) := s_lload_n (by decide +kernel : decode cX9_addTo 14 = .ok (.lload_n 3, 1)) rfl
theorem oX9_addTo_15 : OpS mX9_addTo 15 (o_const (.long 31) 18) := s_ldc2 wd_408 (by decide +kernel : decode cX9_addTo 15 = .ok (.ldc2_w 38, 3))
theorem oX9_addTo_18 : OpS mX9_addTo 18 (o_lbin (fun x y => x * y) 19) := s_lmul (by decide +kernel : decode cX9_addTo 18 = .ok (.lmul, 1))
theorem oX9_addTo_19 : OpS mX9_addTo 19 (o_aload 0 20) := s_aload_n (by decide +kernel : decode cX9_addTo 19 = .ok (.aload_n 0, 1)) rfl
theorem oX9_addTo_20 : OpS mX9_addTo 20 (o_getP 9 0 23) := s_getP (k := 0) clsX9 (by decide) rfl (Or.inl wd_432) (by decide +kernel : decode cX9_addTo 20 = .ok (.getfield 19, 3)) rfl
theorem oX9_addTo_23 : OpS mX9_addTo 23 (o_iload 5 25) := s_iload (by decide +kernel : decode cX9_addTo 23 = .ok (.iload 5, 2))
theorem oX9_addTo_25 : OpS mX9_addTo 25 (o_iald 26) := s_iald (by decide +kernel : decode cX9_addTo 25 = .ok (.iaload, 1))
theorem oX9_addTo_26 : OpS mX9_addTo 26 (o_i2l 27) := s_i2l (by decide +kernel : decode cX9_addTo 26 = .ok (.i2l, 1))
theorem oX9_addTo_27 : OpS mX9_addTo 27 (o_lbin (fun x y => x + y) 28) := s_ladd (by decide +kernel : decode cX9_addTo 27 = .ok (.ladd, 1))
theorem oX9_addTo_28 : OpS mX9_addTo 28 (o_lstore 3 6 29) := s_lstore_n (by decide +kernel : decode cX9_addTo 28 = .ok (.lstore_n 3, 1)) rfl rfl
theorem oX9_addTo_29 : OpS mX9_addTo 29 (o_iinc 5 6 1 32) := s_iinc (by decide +kernel : decode cX9_addTo 29 = .ok (.iinc 5 1, 3)) (by decide) rfl
theorem oX9_addTo_32 : OpS mX9_addTo 32 (o_goto 5) := s_goto (by decide +kernel : decode cX9_addTo 32 = .ok (.goto (-27), 3)) (by decide)
theorem oX9_addTo_35 : OpS mX9_addTo 35 (o_lload 3 36) := s_lload_n (by decide +kernel : decode cX9_addTo 35 = .ok (.lload_n 3, 1)) rfl
theorem oX9_addTo_36 : OpS mX9_addTo 36 (o_lret) := s_lret rfl (by decide +kernel : decode cX9_addTo 36 = .ok (.lreturn, 1))
