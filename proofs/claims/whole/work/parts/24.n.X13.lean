theorem oX13_thrown_0 : OpS mX13_thrown 0 (o_aload 0 1) := s_aload_n (by decide +kernel : decode cX13_thrown 0 = .ok (.aload_n 0, 1)) rfl
theorem oX13_thrown_1 : OpS mX13_thrown 1 (o_getI 13 0 4) := s_getI (k := 0) clsX13 (by decide) rfl (Or.inl wd_1244) (by decide +kernel : decode cX13_thrown 1 = .ok (.getfield 1, 3)) rfl
theorem oX13_thrown_4 : OpS mX13_thrown 4 (o_iret) := s_iret rfl (by decide +kernel : decode cX13_thrown 4 = .ok (.ireturn, 1))
theorem oX13_no_0 : OpS mX13_no 0 (o_aload 0 1) := s_aload_n (by decide +kernel : decode cX13_no 0 = .ok (.aload_n 0, 1)) rfl
theorem oX13_no_1 : OpS mX13_no 1 (o_iload 1 2) := s_iload_n (by decide +kernel : decode cX13_no 1 = .ok (.iload_n 1, 1)) rfl
theorem oX13_no_2 : OpS mX13_no 2 (o_putI 13 0 5) := s_putI (k := 0) clsX13 (by decide) rfl (Or.inl ⟨wd_1244, Or.inl rfl⟩) (by decide +kernel : decode cX13_no 2 = .ok (.putfield 1, 3)) rfl rfl
theorem oX13_no_5 : OpS mX13_no 5 (o_const (.int 0) 6) := s_iconst (by decide +kernel : decode cX13_no 5 = .ok (.iconst 0, 1)) (by decide)
theorem oX13_no_6 : OpS mX13_no 6 (o_iret) := s_iret rfl (by decide +kernel : decode cX13_no 6 = .ok (.ireturn, 1))
theorem oX13_isIn_0 : OpS mX13_isIn 0 (o_iload 0 1) := s_iload_n (by decide +kernel : decode cX13_isIn 0 = .ok (.iload_n 0, 1)) rfl
theorem oX13_isIn_1 : OpS mX13_isIn 1 (o_iload 1 2) := s_iload_n (by decide +kernel : decode cX13_isIn 1 = .ok (.iload_n 1, 1)) rfl
theorem oX13_isIn_2 : OpS mX13_isIn 2 (o_icmp (fun x y => x < y) 14 5) := s_icmp_lt (by decide +kernel : decode cX13_isIn 2 = .ok (.if_icmp .lt 12, 3)) (by decide)
theorem oX13_isIn_5 : OpS mX13_isIn 5 (o_iload 0 6) := s_iload_n (by decide +kernel : decode cX13_isIn 5 = .ok (.iload_n 0, 1)) rfl
theorem oX13_isIn_6 : OpS mX13_isIn 6 (o_iload 2 7) := s_iload_n (by decide +kernel : decode cX13_isIn 6 = .ok (.iload_n 2, 1)) rfl
theorem oX13_isIn_7 : OpS mX13_isIn 7 (o_icmp (fun x y => y < x) 14 10) := s_icmp_gt (by decide +kernel : decode cX13_isIn 7 = .ok (.if_icmp .gt 7, 3)) (by decide)
theorem oX13_isIn_10 : OpS mX13_isIn 10 (o_const (.int 1) 11) := s_iconst (by decide +kernel : decode cX13_isIn 10 = .ok (.iconst 1, 1)) (by decide)
theorem oX13_isIn_11 : OpS mX13_isIn 11 (o_goto 15) := s_goto (by decide +kernel : decode cX13_isIn 11 = .ok (.goto 4, 3)) (by decide)
theorem oX13_isIn_14 : OpS mX13_isIn 14 (o_const (.int 0) 15) := s_iconst (by decide +kernel : decode cX13_isIn 14 = .ok (.iconst 0, 1)) (by decide)
theorem oX13_isIn_15 : OpS mX13_isIn 15 (o_zret) := s_zret rfl (by decide +kernel : decode cX13_isIn 15 = .ok (.ireturn, 1))
theorem oX13_feed_0 : OpS mX13_feed 0 (o_aload 0 1) := s_aload_n (by decide +kernel : decode cX13_feed 0 = .ok (.aload_n 0, 1)) rfl
theorem oX13_feed_1 : OpS mX13_feed 1 (o_const (.int 0) 2) := s_iconst (by decide +kernel : decode cX13_feed 1 = .ok (.iconst 0, 1)) (by decide)
theorem oX13_feed_2 : OpS mX13_feed 2 (o_putI 13 0 5) := s_putI (k := 0) clsX13 (by decide) rfl (Or.inl ⟨wd_1244, Or.inl rfl⟩) (by decide +kernel : decode cX13_feed 2 = .ok (.putfield 1, 3)) rfl rfl
theorem oX13_feed_5 : OpS mX13_feed 5 (o_aload 0 6) := s_aload_n (by decide +kernel : decode cX13_feed 5 = .ok (.aload_n 0, 1)) rfl
theorem oX13_feed_6 : OpS mX13_feed 6 (o_getI 13 2 9) := s_getI (k := 2) clsX13 (by decide) rfl (Or.inl wd_1246) (by decide +kernel : decode cX13_feed 6 = .ok (.getfield 7, 3)) rfl
theorem oX13_feed_9 : OpS mX13_feed 9 (o_const (.int 20) 11) := s_bipush (by decide +kernel : decode cX13_feed 9 = .ok (.bipush 20, 2)) (by decide)
theorem oX13_feed_11 : OpS mX13_feed 11 (o_ibin (fun x y => x + y) 12) := s_iadd (by decide +kernel : decode cX13_feed 11 = .ok (.iadd, 1))
theorem oX13_feed_12 : OpS mX13_feed 12 (o_const (.int 2000) 15) := s_sipush (by decide +kernel : decode cX13_feed 12 = .ok (.sipush 2000, 3)) (by decide)
theorem oX13_feed_15 : OpS mX13_feed 15 (o_icmp (fun x y => x ≤ y) 24 18) := s_icmp_le (by decide +kernel : decode cX13_feed 15 = .ok (.if_icmp .le 9, 3)) (by decide)
theorem oX13_feed_18 : OpS mX13_feed 18 (o_aload 0 19) := s_aload_n (by decide +kernel : decode cX13_feed 18 = .ok (.aload_n 0, 1)) rfl
theorem oX13_feed_19 : OpS mX13_feed 19 (o_const (.int 1) 20) := s_iconst (by decide +kernel : decode cX13_feed 19 = .ok (.iconst 1, 1)) (by decide)
theorem oX13_feed_20 : OpS mX13_feed 20 (o_callV mX13_no 13 1 23) := s_callV ceX13_no clsX13 (Or.inl wd_1149) wd_1151 selX13_no (by decide +kernel : decode cX13_feed 20 = .ok (.invokevirtual 10, 3))
theorem oX13_feed_23 : OpS mX13_feed 23 (o_iret) := s_iret rfl (by decide +kernel : decode cX13_feed 23 = .ok (.ireturn, 1))
theorem oX13_feed_24 : OpS mX13_feed 24 (o_aload 0 25) := s_aload_n (by decide +kernel : decode cX13_feed 24 = .ok (.aload_n 0, 1)) rfl
theorem oX13_feed_25 : OpS mX13_feed 25 (o_iload 1 26) := s_iload_n (by decide +kernel : decode cX13_feed 25 = .ok (.iload_n 1, 1)) rfl
theorem oX13_feed_26 : OpS mX13_feed 26 (o_callV mX13_append 13 1 29) := s_callV ceX13_append clsX13 (Or.inl wd_1154) wd_1156 selX13_append (by decide +kernel : decode cX13_feed 26 = .ok (.invokevirtual 14, 3))
theorem oX13_feed_29 : OpS mX13_feed 29 (o_aload 0 30) := s_aload_n (by decide +kernel : decode cX13_feed 29 = .ok (.aload_n 0, 1)) rfl
theorem oX13_feed_30 : OpS mX13_feed 30 (o_iload 2 31) := s_iload_n (by decide +kernel : decode cX13_feed 30 = .ok (.iload_n 2, 1)) rfl
theorem oX13_feed_31 : OpS mX13_feed 31 (o_callV mX13_append 13 1 34) := s_callV ceX13_append clsX13 (Or.inl wd_1154) wd_1156 selX13_append (by decide +kernel : decode cX13_feed 31 = .ok (.invokevirtual 14, 3))
theorem oX13_feed_34 : OpS mX13_feed 34 (o_aload 0 35) := s_aload_n (by decide +kernel : decode cX13_feed 34 = .ok (.aload_n 0, 1)) rfl
theorem oX13_feed_35 : OpS mX13_feed 35 (o_iload 3 36) := s_iload_n (by decide +kernel : decode cX13_feed 35 = .ok (.iload_n 3, 1)) rfl
theorem oX13_feed_36 : OpS mX13_feed 36 (o_callV mX13_append 13 1 39) := s_callV ceX13_append clsX13 (Or.inl wd_1154) wd_1156 selX13_append (by decide +kernel : decode cX13_feed 36 = .ok (.invokevirtual 14, 3))
theorem oX13_feed_39 : OpS mX13_feed 39 (o_aload 0 40) := s_aload_n (by decide +kernel : decode cX13_feed 39 = .ok (.aload_n 0, 1)) rfl
theorem oX13_feed_40 : OpS mX13_feed 40 (o_iload 4 42) := s_iload (by decide +kernel : decode cX13_feed 40 = .ok (.iload 4, 2))
theorem oX13_feed_42 : OpS mX13_feed 42 (o_callV mX13_append 13 1 45) := s_callV ceX13_append clsX13 (Or.inl wd_1154) wd_1156 selX13_append (by decide +kernel : decode cX13_feed 42 = .ok (.invokevirtual 14, 3))
theorem oX13_feed_45 : OpS mX13_feed 45 (o_aload 0 46) := s_aload_n (by decide +kernel : decode cX13_feed 45 = .ok (.aload_n 0, 1)) rfl
theorem oX13_feed_46 : OpS mX13_feed 46 (o_iload 5 48) := s_iload (by decide +kernel : decode cX13_feed 46 = .ok (.iload 5, 2))
theorem oX13_feed_48 : OpS mX13_feed 48 (o_callV mX13_append 13 1 51) := s_callV ceX13_append clsX13 (Or.inl wd_1154) wd_1156 selX13_append (by decide +kernel : decode cX13_feed 48 = .ok (.invokevirtual 14, 3))
theorem oX13_feed_51 : OpS mX13_feed 51 (o_aload 0 52) := s_aload_n (by decide +kernel : decode cX13_feed 51 = .ok (.aload_n 0, 1)) rfl
theorem oX13_feed_52 : OpS mX13_feed 52 (o_getI 13 2 55) := s_getI (k := 2) clsX13 (by decide) rfl (Or.inl wd_1246) (by decide +kernel : decode cX13_feed 52 = .ok (.getfield 7, 3)) rfl
theorem oX13_feed_55 : OpS mX13_feed 55 (o_iret) := s_iret rfl (by decide +kernel : decode cX13_feed 55 = .ok (.ireturn, 1))
theorem oX13_append_0 : OpS mX13_append 0 (o_const (.int 24) 2) := s_bipush (by decide +kernel : decode cX13_append 0 = .ok (.bipush 24, 2)) (by decide)
theorem oX13_append_2 : OpS mX13_append 2 (o_istore 2 3 3) := s_istore_n (by decide +kernel : decode cX13_append 2 = .ok (.istore_n 2, 1)) rfl rfl
theorem oX13_append_3 : OpS mX13_append 3 (o_iload 2 4) := s_iload_n (by decide +kernel : decode cX13_append 3 = .ok (.iload_n 2, 1)) rfl
theorem oX13_append_4 : OpS mX13_append 4 (o_if (fun x => x < 0) 39 7) := s_if_lt (by decide +kernel : decode cX13_append 4 = .ok (.ifCond .lt 35, 3)) (by decide)
theorem oX13_append_7 : OpS mX13_append 7 (o_aload 0 8) := s_aload_n (by decide +kernel : decode cX13_append 7 = .ok (.aload_n 0, 1)) rfl
theorem oX13_append_8 : OpS mX13_append 8 (o_getP 13 1 11) := s_getP (k := 1) clsX13 (by decide) rfl (Or.inl wd_1245) (by decide +kernel : decode cX13_append 8 = .ok (.getfield 18, 3)) rfl
theorem oX13_append_11 : OpS mX13_append 11 (o_aload 0 12) := s_aload_n (by decide +kernel : decode cX13_append 11 = .ok (.aload_n 0, 1)) rfl
theorem oX13_append_12 : OpS mX13_append 12 (o_getI 13 2 15) := s_getI (k := 2) clsX13 (by decide) rfl (Or.inl wd_1246) (by decide +kernel : decode cX13_append 12 = .ok (.getfield 7, 3)) rfl
theorem oX13_append_15 : OpS mX13_append 15 (o_iload 1 16) := s_iload_n (by decide +kernel : decode cX13_append 15 = .ok (.iload_n 1, 1)) rfl
theorem oX13_append_16 : OpS mX13_append 16 (o_iload 2 17) := s_iload_n (by decide +kernel : decode cX13_append 16 = .ok (.iload_n 2, 1)) rfl
theorem oX13_append_17 : OpS mX13_append 17 (o_ibin (fun x y => x >>> (y &&& 31)) 18) := s_ishr (by decide +kernel : decode cX13_append 17 = .ok (.ishr, 1))
theorem oX13_append_18 : OpS mX13_append 18 (o_const (.int 255) 21) := s_sipush (by decide +kernel : decode cX13_append 18 = .ok (.sipush 255, 3)) (by decide)
theorem oX13_append_21 : OpS mX13_append 21 (o_ibin (fun x y => x &&& y) 22) := s_iand (by decide +kernel : decode cX13_append 21 = .ok (.iand, 1))
theorem oX13_append_22 : OpS mX13_append 22 (o_iast 23) := s_iast (by decide +kernel : decode cX13_append 22 = .ok (.iastore, 1))
theorem oX13_append_23 : OpS mX13_append 23 (o_aload 0 24) := s_aload_n (by decide +kernel : decode cX13_append 23 = .ok (.aload_n 0, 1)) rfl
theorem oX13_append_24 : OpS mX13_append 24 (o_dup 25) := s_dup (by decide +kernel : decode cX13_append 24 = .ok (.dup, 1))
theorem oX13_append_25 : OpS mX13_append 25 (o_getI 13 2 28) := s_getI (k := 2) clsX13 (by decide) rfl (Or.inl wd_1246) (by decide +kernel : decode cX13_append 25 = .ok (.getfield 7, 3)) rfl
theorem oX13_append_28 : OpS mX13_append 28 (o_const (.int 1) 29) := s_iconst (by decide +kernel : decode cX13_append 28 = .ok (.iconst 1, 1)) (by decide)
theorem oX13_append_29 : OpS mX13_append 29 (o_ibin (fun x y => x + y) 30) := s_iadd (by decide +kernel : decode cX13_append 29 = .ok (.iadd, 1))
theorem oX13_append_30 : OpS mX13_append 30 (o_putI 13 2 33) := s_putI (k := 2) clsX13 (by decide) rfl (Or.inl ⟨wd_1246, Or.inl rfl⟩) (by decide +kernel : decode cX13_append 30 = .ok (.putfield 7, 3)) rfl rfl
theorem oX13_append_33 : OpS mX13_append 33 (o_iinc 2 3 (-8) 36) := s_iinc (by decide +kernel : decode cX13_append 33 = .ok (.iinc 2 (-8), 3)) (by decide) rfl
theorem oX13_append_36 : OpS mX13_append 36 (o_goto 3) := s_goto (by decide +kernel : decode cX13_append 36 = .ok (.goto (-33), 3)) (by decide)
theorem oX13_append_39 : OpS mX13_append 39 (o_vret) := s_vret rfl (by decide +kernel : decode cX13_append 39 = .ok (.return_, 1))
theorem oX13_trim_0 : OpS mX13_trim 0 (o_aload 0 1) := s_aload_n (by decide +kernel : decode cX13_trim 0 = .ok (.aload_n 0, 1)) rfl
theorem oX13_trim_1 : OpS mX13_trim 1 (o_const (.int 0) 2) := s_iconst (by decide +kernel : decode cX13_trim 1 = .ok (.iconst 0, 1)) (by decide)
theorem oX13_trim_2 : OpS mX13_trim 2 (o_putI 13 0 5) := s_putI (k := 0) clsX13 (by decide) rfl (Or.inl ⟨wd_1244, Or.inl rfl⟩) (by decide +kernel : decode cX13_trim 2 = .ok (.putfield 1, 3)) rfl rfl
theorem oX13_trim_5 : OpS mX13_trim 5 (o_iload 1 6) := s_iload_n (by decide +kernel : decode cX13_trim 5 = .ok (.iload_n 1, 1)) rfl
theorem oX13_trim_6 : OpS mX13_trim 6 (o_const (.int 0) 7) := s_iconst (by decide +kernel : decode cX13_trim 6 = .ok (.iconst 0, 1)) (by decide)
theorem oX13_trim_7 : OpS mX13_trim 7 (o_aload 0 8) := s_aload_n (by decide +kernel : decode cX13_trim 7 = .ok (.aload_n 0, 1)) rfl
theorem oX13_trim_8 : OpS mX13_trim 8 (o_getI 13 2 11) := s_getI (k := 2) clsX13 (by decide) rfl (Or.inl wd_1246) (by decide +kernel : decode cX13_trim 8 = .ok (.getfield 7, 3)) rfl
theorem oX13_trim_11 : OpS mX13_trim 11 (o_callS mX13_isIn 3 14) := s_callS ceX13_isIn (Or.inl wd_1162) wd_1163 (by decide +kernel : decode cX13_trim 11 = .ok (.invokestatic 22, 3))
theorem oX13_trim_14 : OpS mX13_trim 14 (o_if (fun x => x = 0) 17 23) := s_if_ne (by decide +kernel : decode cX13_trim 14 = .ok (.ifCond .ne 9, 3)) (by decide)
theorem oX13_trim_17 : OpS mX13_trim 17 (o_aload 0 18) := s_aload_n (by decide +kernel : decode cX13_trim 17 = .ok (.aload_n 0, 1)) rfl
theorem oX13_trim_18 : OpS mX13_trim 18 (o_const (.int 1) 19) := s_iconst (by decide +kernel : decode cX13_trim 18 = .ok (.iconst 1, 1)) (by decide)
theorem oX13_trim_19 : OpS mX13_trim 19 (o_callV mX13_no 13 1 22) := s_callV ceX13_no clsX13 (Or.inl wd_1149) wd_1151 selX13_no (by decide +kernel : decode cX13_trim 19 = .ok (.invokevirtual 10, 3))
theorem oX13_trim_22 : OpS mX13_trim 22 (o_iret) := s_iret rfl (by decide +kernel : decode cX13_trim 22 = .ok (.ireturn, 1))
theorem oX13_trim_23 : OpS mX13_trim 23 (o_aload 0 24) := s_aload_n (by decide +kernel : decode cX13_trim 23 = .ok (.aload_n 0, 1)) rfl
theorem oX13_trim_24 : OpS mX13_trim 24 (o_iload 1 25) := s_iload_n (by decide +kernel : decode cX13_trim 24 = .ok (.iload_n 1, 1)) rfl
theorem oX13_trim_25 : OpS mX13_trim 25 (o_putI 13 2 28) := s_putI (k := 2) clsX13 (by decide) rfl (Or.inl ⟨wd_1246, Or.inl rfl⟩) (by decide +kernel : decode cX13_trim 25 = .ok (.putfield 7, 3)) rfl rfl
theorem oX13_trim_28 : OpS mX13_trim 28 (o_iload 1 29) := s_iload_n (by decide +kernel : decode cX13_trim 28 = .ok (.iload_n 1, 1)) rfl
theorem oX13_trim_29 : OpS mX13_trim 29 (o_iret) := s_iret rfl (by decide +kernel : decode cX13_trim 29 = .ok (.ireturn, 1))
theorem oX13_byteAt_0 : OpS mX13_byteAt 0 (o_iload 1 1) := s_iload_n (by decide +kernel : decode cX13_byteAt 0 = .ok (.iload_n 1, 1)) rfl
theorem oX13_byteAt_1 : OpS mX13_byteAt 1 (o_aload 0 2) := s_aload_n (by decide +kernel : decode cX13_byteAt 1 = .ok (.aload_n 0, 1)) rfl
theorem oX13_byteAt_2 : OpS mX13_byteAt 2 (o_getI 13 2 5) := s_getI (k := 2) clsX13 (by decide) rfl (Or.inl wd_1246) (by decide +kernel : decode cX13_byteAt 2 = .ok (.getfield 7, 3)) rfl
theorem oX13_byteAt_5 : OpS mX13_byteAt 5 (o_icmp (fun x y => y ≤ x) 17 8) := s_icmp_ge (by decide +kernel : decode cX13_byteAt 5 = .ok (.if_icmp .ge 12, 3)) (by decide)
theorem oX13_byteAt_8 : OpS mX13_byteAt 8 (o_aload 0 9) := s_aload_n (by decide +kernel : decode cX13_byteAt 8 = .ok (.aload_n 0, 1)) rfl
theorem oX13_byteAt_9 : OpS mX13_byteAt 9 (o_getP 13 1 12) := s_getP (k := 1) clsX13 (by decide) rfl (Or.inl wd_1245) (by decide +kernel : decode cX13_byteAt 9 = .ok (.getfield 18, 3)) rfl
theorem oX13_byteAt_12 : OpS mX13_byteAt 12 (o_iload 1 13) := s_iload_n (by decide +kernel : decode cX13_byteAt 12 = .ok (.iload_n 1, 1)) rfl
theorem oX13_byteAt_13 : OpS mX13_byteAt 13 (o_iald 14) := s_iald (by decide +kernel : decode cX13_byteAt 13 = .ok (.iaload, 1))
theorem oX13_byteAt_14 : OpS mX13_byteAt 14 (o_goto 18) := s_goto (by decide +kernel : decode cX13_byteAt 14 = .ok (.goto 4, 3)) (by decide)
theorem oX13_byteAt_17 : OpS mX13_byteAt 17 (o_const (.int 0) 18) := s_iconst (by decide +kernel : decode cX13_byteAt 17 = .ok (.iconst 0, 1)) (by decide)
theorem oX13_byteAt_18 : OpS mX13_byteAt 18 (o_iret) := s_iret rfl (by decide +kernel : decode cX13_byteAt 18 = .ok (.ireturn, 1))
theorem oX13_isLetter_0 : OpS mX13_isLetter 0 (o_iload 0 1) := s_iload_n (by decide +kernel : decode cX13_isLetter 0 = .ok (.iload_n 0, 1)) rfl
theorem oX13_isLetter_1 : OpS mX13_isLetter 1 (o_const (.int 97) 3) := s_bipush (by decide +kernel : decode cX13_isLetter 1 = .ok (.bipush 97, 2)) (by decide)
theorem oX13_isLetter_3 : OpS mX13_isLetter 3 (o_icmp (fun x y => x < y) 16 6) := s_icmp_lt (by decide +kernel : decode cX13_isLetter 3 = .ok (.if_icmp .lt 13, 3)) (by decide)
theorem oX13_isLetter_6 : OpS mX13_isLetter 6 (o_iload 0 7) := s_iload_n (by decide +kernel : decode cX13_isLetter 6 = .ok (.iload_n 0, 1)) rfl
theorem oX13_isLetter_7 : OpS mX13_isLetter 7 (o_const (.int 122) 9) := s_bipush (by decide +kernel : decode cX13_isLetter 7 = .ok (.bipush 122, 2)) (by decide)
theorem oX13_isLetter_9 : OpS mX13_isLetter 9 (o_icmp (fun x y => y < x) 16 12) := s_icmp_gt (by decide +kernel : decode cX13_isLetter 9 = .ok (.if_icmp .gt 7, 3)) (by decide)
theorem oX13_isLetter_12 : OpS mX13_isLetter 12 (o_const (.int 1) 13) := s_iconst (by decide +kernel : decode cX13_isLetter 12 = .ok (.iconst 1, 1)) (by decide)
theorem oX13_isLetter_13 : OpS mX13_isLetter 13 (o_goto 17) := s_goto (by decide +kernel : decode cX13_isLetter 13 = .ok (.goto 4, 3)) (by decide)
theorem oX13_isLetter_16 : OpS mX13_isLetter 16 (o_const (.int 0) 17) := s_iconst (by decide +kernel : decode cX13_isLetter 16 = .ok (.iconst 0, 1)) (by decide)
theorem oX13_isLetter_17 : OpS mX13_isLetter 17 (o_zret) := s_zret rfl (by decide +kernel : decode cX13_isLetter 17 = .ok (.ireturn, 1))
theorem oX13_isDigit_0 : OpS mX13_isDigit 0 (o_iload 0 1) := s_iload_n (by decide +kernel : decode cX13_isDigit 0 = .ok (.iload_n 0, 1)) rfl
theorem oX13_isDigit_1 : OpS mX13_isDigit 1 (o_const (.int 48) 3) := s_bipush (by decide +kernel : decode cX13_isDigit 1 = .ok (.bipush 48, 2)) (by decide)
theorem oX13_isDigit_3 : OpS mX13_isDigit 3 (o_icmp (fun x y => x < y) 16 6) := s_icmp_lt (by decide +kernel : decode cX13_isDigit 3 = .ok (.if_icmp .lt 13, 3)) (by decide)
theorem oX13_isDigit_6 : OpS mX13_isDigit 6 (o_iload 0 7) := s_iload_n (by decide +kernel : decode cX13_isDigit 6 = .ok (.iload_n 0, 1)) rfl
theorem oX13_isDigit_7 : OpS mX13_isDigit 7 (o_const (.int 57) 9) := s_bipush (by decide +kernel : decode cX13_isDigit 7 = .ok (.bipush 57, 2)) (by decide)
theorem oX13_isDigit_9 : OpS mX13_isDigit 9 (o_icmp (fun x y => y < x) 16 12) := s_icmp_gt (by decide +kernel : decode cX13_isDigit 9 = .ok (.if_icmp .gt 7, 3)) (by decide)
theorem oX13_isDigit_12 : OpS mX13_isDigit 12 (o_const (.int 1) 13) := s_iconst (by decide +kernel : decode cX13_isDigit 12 = .ok (.iconst 1, 1)) (by decide)
theorem oX13_isDigit_13 : OpS mX13_isDigit 13 (o_goto 17) := s_goto (by decide +kernel : decode cX13_isDigit 13 = .ok (.goto 4, 3)) (by decide)
theorem oX13_isDigit_16 : OpS mX13_isDigit 16 (o_const (.int 0) 17) := s_iconst (by decide +kernel : decode cX13_isDigit 16 = .ok (.iconst 0, 1)) (by decide)
theorem oX13_isDigit_17 : OpS mX13_isDigit 17 (o_zret) := s_zret rfl (by decide +kernel : decode cX13_isDigit 17 = .ok (.ireturn, 1))
theorem oX13_split_0 : OpS mX13_split 0 (o_const (.int 0) 1) := s_iconst (by decide +kernel : decode cX13_split 0 = .ok (.iconst 0, 1)) (by decide)
theorem oX13_split_1 : OpS mX13_split 1 (o_istore 1 4 2) := s_istore_n (by decide +kernel : decode cX13_split 1 = .ok (.istore_n 1, 1)) rfl rfl
theorem oX13_split_2 : OpS mX13_split 2 (o_const (.int 0) 3) := s_iconst (by decide +kernel : decode cX13_split 2 = .ok (.iconst 0, 1)) (by decide)
theorem oX13_split_3 : OpS mX13_split 3 (o_istore 2 4 4) := s_istore_n (by decide +kernel : decode cX13_split 3 = .ok (.istore_n 2, 1)) rfl rfl
theorem oX13_split_4 : OpS mX13_split 4 (o_const (.int 1) 5) := s_iconst (by decide +kernel : decode cX13_split 4 = .ok (.iconst 1, 1)) (by decide)
theorem oX13_split_5 : OpS mX13_split 5 (o_istore 3 4 6) := s_istore_n (by decide +kernel : decode cX13_split 5 = .ok (.istore_n 3, 1)) rfl rfl
theorem oX13_split_6 : OpS mX13_split 6 (o_iload 3 7) := s_iload_n (by decide +kernel : decode cX13_split 6 = .ok (.iload_n 3, 1)) rfl
theorem oX13_split_7 : OpS mX13_split 7 (o_if (fun x => x = 0) 112 10) := s_if_eq (by decide +kernel : decode cX13_split 7 = .ok (.ifCond .eq 105, 3)) (by decide)
theorem oX13_split_10 : OpS mX13_split 10 (o_aload 0 11) := s_aload_n (by decide +kernel : decode cX13_split 10 = .ok (.aload_n 0, 1)) rfl
theorem oX13_split_11 : OpS mX13_split 11 (o_iload 1 12) := s_iload_n (by decide +kernel : decode cX13_split 11 = .ok (.iload_n 1, 1)) rfl
theorem oX13_split_12 : OpS mX13_split 12 (o_callV mX13_byteAt 13 1 15) := s_callV ceX13_byteAt clsX13 (Or.inl wd_1337) wd_1339 selX13_byteAt (by decide +kernel : decode cX13_split 12 = .ok (.invokevirtual 26, 3))
theorem oX13_split_15 : OpS mX13_split 15 (o_const (.int 32) 17) := s_bipush (by decide +kernel : decode cX13_split 15 = .ok (.bipush 32, 2)) (by decide)
theorem oX13_split_17 : OpS mX13_split 17 (o_icmp (fun x y => x = y) 30 20) := s_icmp_eq (by decide +kernel : decode cX13_split 17 = .ok (.if_icmp .eq 13, 3)) (by decide)
theorem oX13_split_20 : OpS mX13_split 20 (o_aload 0 21) := s_aload_n (by decide +kernel : decode cX13_split 20 = .ok (.aload_n 0, 1)) rfl
theorem oX13_split_21 : OpS mX13_split 21 (o_iload 1 22) := s_iload_n (by decide +kernel : decode cX13_split 21 = .ok (.iload_n 1, 1)) rfl
theorem oX13_split_22 : OpS mX13_split 22 (o_callV mX13_byteAt 13 1 25) := s_callV ceX13_byteAt clsX13 (Or.inl wd_1337) wd_1339 selX13_byteAt (by decide +kernel : decode cX13_split 22 = .ok (.invokevirtual 26, 3))
theorem oX13_split_25 : OpS mX13_split 25 (o_const (.int 10) 27) := s_bipush (by decide +kernel : decode cX13_split 25 = .ok (.bipush 10, 2)) (by decide)
theorem oX13_split_27 : OpS mX13_split 27 (o_icmp (fun x y => x = y) 30 36) := s_icmp_ne (by decide +kernel : decode cX13_split 27 = .ok (.if_icmp .ne 9, 3)) (by decide)
theorem oX13_split_30 : OpS mX13_split 30 (o_iinc 1 4 1 33) := s_iinc (by decide +kernel : decode cX13_split 30 = .ok (.iinc 1 1, 3)) (by decide) rfl
theorem oX13_split_33 : OpS mX13_split 33 (o_goto 10) := s_goto (by decide +kernel : decode cX13_split 33 = .ok (.goto (-23), 3)) (by decide)
theorem oX13_split_36 : OpS mX13_split 36 (o_aload 0 37) := s_aload_n (by decide +kernel : decode cX13_split 36 = .ok (.aload_n 0, 1)) rfl
theorem oX13_split_37 : OpS mX13_split 37 (o_getP 13 6 40) := s_getP (k := 6) clsX13 (by decide) rfl (Or.inl wd_1250) (by decide +kernel : decode cX13_split 37 = .ok (.getfield 29, 3)) rfl
theorem oX13_split_40 : OpS mX13_split 40 (o_iload 2 41) := s_iload_n (by decide +kernel : decode cX13_split 40 = .ok (.iload_n 2, 1)) rfl
theorem oX13_split_41 : OpS mX13_split 41 (o_iload 1 42) := s_iload_n (by decide +kernel : decode cX13_split 41 = .ok (.iload_n 1, 1)) rfl
theorem oX13_split_42 : OpS mX13_split 42 (o_iast 43) := s_iast (by decide +kernel : decode cX13_split 42 = .ok (.iastore, 1))
theorem oX13_split_43 : OpS mX13_split 43 (o_aload 0 44) := s_aload_n (by decide +kernel : decode cX13_split 43 = .ok (.aload_n 0, 1)) rfl
theorem oX13_split_44 : OpS mX13_split 44 (o_iload 2 45) := s_iload_n (by decide +kernel : decode cX13_split 44 = .ok (.iload_n 2, 1)) rfl
theorem oX13_split_45 : OpS mX13_split 45 (o_iload 1 46) := s_iload_n (by decide +kernel : decode cX13_split 45 = .ok (.iload_n 1, 1)) rfl
theorem oX13_split_46 : OpS mX13_split 46 (o_callV mX13_read 13 2 49) := s_callV ceX13_read clsX13 (Or.inl wd_1341) wd_1343 selX13_read (by decide +kernel : decode cX13_split 46 = .ok (.invokevirtual 32, 3))
theorem oX13_split_49 : OpS mX13_split 49 (o_iload 2 50) := s_iload_n (by decide +kernel : decode cX13_split 49 = .ok (.iload_n 2, 1)) rfl
theorem oX13_split_50 : OpS mX13_split 50 (o_const (.int 400) 53) := s_sipush (by decide +kernel : decode cX13_split 50 = .ok (.sipush 400, 3)) (by decide)
theorem oX13_split_53 : OpS mX13_split 53 (o_icmp (fun x y => x = y) 56 72) := s_icmp_ne (by decide +kernel : decode cX13_split 53 = .ok (.if_icmp .ne 19, 3)) (by decide)
theorem oX13_split_56 : OpS mX13_split 56 (o_aload 0 57) := s_aload_n (by decide +kernel : decode cX13_split 56 = .ok (.aload_n 0, 1)) rfl
theorem oX13_split_57 : OpS mX13_split 57 (o_getP 13 4 60) := s_getP (k := 4) clsX13 (by decide) rfl (Or.inl wd_1248) (by decide +kernel : decode cX13_split 57 = .ok (.getfield 36, 3)) rfl
theorem oX13_split_60 : OpS mX13_split 60 (o_iload 2 61) := s_iload_n (by decide +kernel : decode cX13_split 60 = .ok (.iload_n 2, 1)) rfl
theorem oX13_split_61 : OpS mX13_split 61 (o_iald 62) := s_iald (by decide +kernel : decode cX13_split 61 = .ok (.iaload, 1))
theorem oX13_split_62 : OpS mX13_split 62 (o_if (fun x => x = 0) 72 65) := s_if_eq (by decide +kernel : decode cX13_split 62 = .ok (.ifCond .eq 10, 3)) (by decide)
theorem oX13_split_65 : OpS mX13_split 65 (o_aload 0 66) := s_aload_n (by decide +kernel : decode cX13_split 65 = .ok (.aload_n 0, 1)) rfl
theorem oX13_split_66 : OpS mX13_split 66 (o_getP 13 4 69) := s_getP (k := 4) clsX13 (by decide) rfl (Or.inl wd_1248) (by decide +kernel : decode cX13_split 66 = .ok (.getfield 36, 3)) rfl
theorem oX13_split_69 : OpS mX13_split 69 (o_iload 2 70) := s_iload_n (by decide +kernel : decode cX13_split 69 = .ok (.iload_n 2, 1)) rfl
theorem oX13_split_70 : OpS mX13_split 70 (o_const (.int 5) 71) := s_iconst (by decide +kernel : decode cX13_split 70 = .ok (.iconst 5, 1)) (by decide)
theorem oX13_split_71 : OpS mX13_split 71 (o_iast 72) := s_iast (by decide +kernel : decode cX13_split 71 = .ok (.iastore, 1))
theorem oX13_split_72 : OpS mX13_split 72 (o_aload 0 73) := s_aload_n (by decide +kernel : decode cX13_split 72 = .ok (.aload_n 0, 1)) rfl
theorem oX13_split_73 : OpS mX13_split 73 (o_getP 13 4 76) := s_getP (k := 4) clsX13 (by decide) rfl (Or.inl wd_1248) (by decide +kernel : decode cX13_split 73 = .ok (.getfield 36, 3)) rfl
theorem oX13_split_76 : OpS mX13_split 76 (o_iload 2 77) := s_iload_n (by decide +kernel : decode cX13_split 76 = .ok (.iload_n 2, 1)) rfl
theorem oX13_split_77 : OpS mX13_split 77 (o_iald 78) := s_iald (by decide +kernel : decode cX13_split 77 = .ok (.iaload, 1))
theorem oX13_split_78 : OpS mX13_split 78 (o_if (fun x => x = 0) 95 81) := s_if_eq (by decide +kernel : decode cX13_split 78 = .ok (.ifCond .eq 17, 3)) (by decide)
theorem oX13_split_81 : OpS mX13_split 81 (o_aload 0 82) := s_aload_n (by decide +kernel : decode cX13_split 81 = .ok (.aload_n 0, 1)) rfl
theorem oX13_split_82 : OpS mX13_split 82 (o_getP 13 4 85) := s_getP (k := 4) clsX13 (by decide) rfl (Or.inl wd_1248) (by decide +kernel : decode cX13_split 82 = .ok (.getfield 36, 3)) rfl
theorem oX13_split_85 : OpS mX13_split 85 (o_iload 2 86) := s_iload_n (by decide +kernel : decode cX13_split 85 = .ok (.iload_n 2, 1)) rfl
theorem oX13_split_86 : OpS mX13_split 86 (o_iald 87) := s_iald (by decide +kernel : decode cX13_split 86 = .ok (.iaload, 1))
theorem oX13_split_87 : OpS mX13_split 87 (o_const (.int 5) 88) := s_iconst (by decide +kernel : decode cX13_split 87 = .ok (.iconst 5, 1)) (by decide)
theorem oX13_split_88 : OpS mX13_split 88 (o_icmp (fun x y => x = y) 95 91) := s_icmp_eq (by decide +kernel : decode cX13_split 88 = .ok (.if_icmp .eq 7, 3)) (by decide)
theorem oX13_split_91 : OpS mX13_split 91 (o_const (.int 1) 92) := s_iconst (by decide +kernel : decode cX13_split 91 = .ok (.iconst 1, 1)) (by decide)
theorem oX13_split_92 : OpS mX13_split 92 (o_goto 96) := s_goto (by decide +kernel : decode cX13_split 92 = .ok (.goto 4, 3)) (by decide)
theorem oX13_split_95 : OpS mX13_split 95 (o_const (.int 0) 96) := s_iconst (by decide +kernel : decode cX13_split 95 = .ok (.iconst 0, 1)) (by decide)
theorem oX13_split_96 : OpS mX13_split 96 (o_istore 3 4 97) := s_istore_n (by decide +kernel : decode cX13_split 96 = .ok (.istore_n 3, 1)) rfl rfl
theorem oX13_split_97 : OpS mX13_split 97 (o_iload 1 98) := s_iload_n (by decide +kernel : decode cX13_split 97 = .ok (.iload_n 1, 1)) rfl
theorem oX13_split_98 : OpS mX13_split 98 (o_aload 0 99) := s_aload_n (by decide +kernel : decode cX13_split 98 = .ok (.aload_n 0, 1)) rfl
theorem oX13_split_99 : OpS mX13_split 99 (o_getP 13 7 102) := s_getP (k := 7) clsX13 (by decide) rfl (Or.inl wd_1251) (by decide +kernel : decode cX13_split 99 = .ok (.getfield 39, 3)) rfl
theorem oX13_split_102 : OpS mX13_split 102 (o_iload 2 103) := s_iload_n (by decide +kernel : decode cX13_split 102 = .ok (.iload_n 2, 1)) rfl
theorem oX13_split_103 : OpS mX13_split 103 (o_iald 104) := s_iald (by decide +kernel : decode cX13_split 103 = .ok (.iaload, 1))
theorem oX13_split_104 : OpS mX13_split 104 (o_ibin (fun x y => x + y) 105) := s_iadd (by decide +kernel : decode cX13_split 104 = .ok (.iadd, 1))
theorem oX13_split_105 : OpS mX13_split 105 (o_istore 1 4 106) := s_istore_n (by decide +kernel : decode cX13_split 105 = .ok (.istore_n 1, 1)) rfl rfl
theorem oX13_split_106 : OpS mX13_split 106 (o_iinc 2 4 1 109) := s_iinc (by decide +kernel : decode cX13_split 106 = .ok (.iinc 2 1, 3)) (by decide) rfl
theorem oX13_split_109 : OpS mX13_split 109 (o_goto 6) := s_goto (by decide +kernel : decode cX13_split 109 = .ok (.goto (-103), 3)) (by decide)
theorem oX13_split_112 : OpS mX13_split 112 (o_vret) := s_vret rfl (by decide +kernel : decode cX13_split 112 = .ok (.return_, 1))
theorem oX13_read_0 : OpS mX13_read 0 (o_aload 0 1) := s_aload_n (by decide +kernel : decode cX13_read 0 = .ok (.aload_n 0, 1)) rfl
theorem oX13_read_1 : OpS mX13_read 1 (o_iload 2 2) := s_iload_n (by decide +kernel : decode cX13_read 1 = .ok (.iload_n 2, 1)) rfl
theorem oX13_read_2 : OpS mX13_read 2 (o_callV mX13_byteAt 13 1 5) := s_callV ceX13_byteAt clsX13 (Or.inl wd_1337) wd_1339 selX13_byteAt (by decide +kernel : decode cX13_read 2 = .ok (.invokevirtual 26, 3))
theorem oX13_read_5 : OpS mX13_read 5 (o_istore 3 4 6) := s_istore_n (by decide +kernel : decode cX13_read 5 = .ok (.istore_n 3, 1)) rfl rfl
theorem oX13_read_6 : OpS mX13_read 6 (o_aload 0 7) := s_aload_n (by decide +kernel : decode cX13_read 6 = .ok (.aload_n 0, 1)) rfl
theorem oX13_read_7 : OpS mX13_read 7 (o_getP 13 7 10) := s_getP (k := 7) clsX13 (by decide) rfl (Or.inl wd_1251) (by decide +kernel : decode cX13_read 7 = .ok (.getfield 39, 3)) rfl
theorem oX13_read_10 : OpS mX13_read 10 (o_iload 1 11) := s_iload_n (by decide +kernel : decode cX13_read 10 = .ok (.iload_n 1, 1)) rfl
theorem oX13_read_11 : OpS mX13_read 11 (o_const (.int 1) 12) := s_iconst (by decide +kernel : decode cX13_read 11 = .ok (.iconst 1, 1)) (by decide)
theorem oX13_read_12 : OpS mX13_read 12 (o_iast 13) := s_iast (by decide +kernel : decode cX13_read 12 = .ok (.iastore, 1))
theorem oX13_read_13 : OpS mX13_read 13 (o_aload 0 14) := s_aload_n (by decide +kernel : decode cX13_read 13 = .ok (.aload_n 0, 1)) rfl
theorem oX13_read_14 : OpS mX13_read 14 (o_getP 13 5 17) := s_getP (k := 5) clsX13 (by decide) rfl (Or.inl wd_1249) (by decide +kernel : decode cX13_read 14 = .ok (.getfield 42, 3)) rfl
theorem oX13_read_17 : OpS mX13_read 17 (o_iload 1 18) := s_iload_n (by decide +kernel : decode cX13_read 17 = .ok (.iload_n 1, 1)) rfl
theorem oX13_read_18 : OpS mX13_read 18 (o_iload 3 19) := s_iload_n (by decide +kernel : decode cX13_read 18 = .ok (.iload_n 3, 1)) rfl
theorem oX13_read_19 : OpS mX13_read 19 (o_iast 20) := s_iast (by decide +kernel : decode cX13_read 19 = .ok (.iastore, 1))
theorem oX13_read_20 : OpS mX13_read 20 (o_aload 0 21) := s_aload_n (by decide +kernel : decode cX13_read 20 = .ok (.aload_n 0, 1)) rfl
theorem oX13_read_21 : OpS mX13_read 21 (o_getP 13 4 24) := s_getP (k := 4) clsX13 (by decide) rfl (Or.inl wd_1248) (by decide +kernel : decode cX13_read 21 = .ok (.getfield 36, 3)) rfl
theorem oX13_read_24 : OpS mX13_read 24 (o_iload 1 25) := s_iload_n (by decide +kernel : decode cX13_read 24 = .ok (.iload_n 1, 1)) rfl
theorem oX13_read_25 : OpS mX13_read 25 (o_iload 2 26) := s_iload_n (by decide +kernel : decode cX13_read 25 = .ok (.iload_n 2, 1)) rfl
theorem oX13_read_26 : OpS mX13_read 26 (o_aload 0 27) := s_aload_n (by decide +kernel : decode cX13_read 26 = .ok (.aload_n 0, 1)) rfl
theorem oX13_read_27 : OpS mX13_read 27 (o_getI 13 2 30) := s_getI (k := 2) clsX13 (by decide) rfl (Or.inl wd_1246) (by decide +kernel : decode cX13_read 27 = .ok (.getfield 7, 3)) rfl
theorem oX13_read_30 : OpS mX13_read 30 (o_icmp (fun x y => x < y) 37 33) := s_icmp_lt (by decide +kernel : decode cX13_read 30 = .ok (.if_icmp .lt 7, 3)) (by decide)
theorem oX13_read_33 : OpS mX13_read 33 (o_const (.int 0) 34) := s_iconst (by decide +kernel : decode cX13_read 33 = .ok (.iconst 0, 1)) (by decide)
theorem oX13_read_34 : OpS mX13_read 34 (o_goto 38) := s_goto (by decide +kernel : decode cX13_read 34 = .ok (.goto 4, 3)) (by decide)
theorem oX13_read_37 : OpS mX13_read 37 (o_const (.int 5) 38) := s_iconst (by decide +kernel : decode cX13_read 37 = .ok (.iconst 5, 1)) (by decide)
theorem oX13_read_38 : OpS mX13_read 38 (o_iast 39) := s_iast (by decide +kernel : decode cX13_read 38 = .ok (.iastore, 1))
theorem oX13_read_39 : OpS mX13_read 39 (o_iload 3 40) := s_iload_n (by decide +kernel : decode cX13_read 39 = .ok (.iload_n 3, 1)) rfl
theorem oX13_read_40 : OpS mX13_read 40 (o_callS mX13_isLetter 1 43) := s_callS ceX13_isLetter (Or.inl wd_1345) wd_1346 (by decide +kernel : decode cX13_read 40 = .ok (.invokestatic 45, 3))
theorem oX13_read_43 : OpS mX13_read 43 (o_if (fun x => x = 0) 52 46) := s_if_eq (by decide +kernel : decode cX13_read 43 = .ok (.ifCond .eq 9, 3)) (by decide)
theorem oX13_read_46 : OpS mX13_read 46 (o_aload 0 47) := s_aload_n (by decide +kernel : decode cX13_read 46 = .ok (.aload_n 0, 1)) rfl
theorem oX13_read_47 : OpS mX13_read 47 (o_iload 1 48) := s_iload_n (by decide +kernel : decode cX13_read 47 = .ok (.iload_n 1, 1)) rfl
theorem oX13_read_48 : OpS mX13_read 48 (o_iload 2 49) := s_iload_n (by decide +kernel : decode cX13_read 48 = .ok (.iload_n 2, 1)) rfl
theorem oX13_read_49 : OpS mX13_read 49 (o_callV mX13_readWord 13 2 52) := s_callV ceX13_readWord clsX13 (Or.inl wd_1348) wd_1350 selX13_readWord (by decide +kernel : decode cX13_read 49 = .ok (.invokevirtual 49, 3))
theorem oX13_read_52 : OpS mX13_read 52 (o_iload 3 53) := s_iload_n (by decide +kernel : decode cX13_read 52 = .ok (.iload_n 3, 1)) rfl
theorem oX13_read_53 : OpS mX13_read 53 (o_callS mX13_isDigit 1 56) := s_callS ceX13_isDigit (Or.inl wd_1352) wd_1353 (by decide +kernel : decode cX13_read 53 = .ok (.invokestatic 52, 3))
theorem oX13_read_56 : OpS mX13_read 56 (o_if (fun x => x = 0) 65 59) := s_if_eq (by decide +kernel : decode cX13_read 56 = .ok (.ifCond .eq 9, 3)) (by decide)
theorem oX13_read_59 : OpS mX13_read 59 (o_aload 0 60) := s_aload_n (by decide +kernel : decode cX13_read 59 = .ok (.aload_n 0, 1)) rfl
theorem oX13_read_60 : OpS mX13_read 60 (o_iload 1 61) := s_iload_n (by decide +kernel : decode cX13_read 60 = .ok (.iload_n 1, 1)) rfl
theorem oX13_read_61 : OpS mX13_read 61 (o_iload 2 62) := s_iload_n (by decide +kernel : decode cX13_read 61 = .ok (.iload_n 2, 1)) rfl
theorem oX13_read_62 : OpS mX13_read 62 (o_callV mX13_readNumber 13 2 65) := s_callV ceX13_readNumber clsX13 (Or.inl wd_1363) wd_1365 selX13_readNumber (by decide +kernel : decode cX13_read 62 = .ok (.invokevirtual 55, 3))
theorem oX13_read_65 : OpS mX13_read 65 (o_iload 3 66) := s_iload_n (by decide +kernel : decode cX13_read 65 = .ok (.iload_n 3, 1)) rfl
theorem oX13_read_66 : OpS mX13_read 66 (o_const (.int 40) 68) := s_bipush (by decide +kernel : decode cX13_read 66 = .ok (.bipush 40, 2)) (by decide)
theorem oX13_read_68 : OpS mX13_read 68 (o_icmp (fun x y => x = y) 143 71) := s_icmp_eq (by decide +kernel : decode cX13_read 68 = .ok (.if_icmp .eq 75, 3)) (by decide)
theorem oX13_read_71 : OpS mX13_read 71 (o_iload 3 72) := s_iload_n (by decide +kernel : decode cX13_read 71 = .ok (.iload_n 3, 1)) rfl
theorem oX13_read_72 : OpS mX13_read 72 (o_const (.int 41) 74) := s_bipush (by decide +kernel : decode cX13_read 72 = .ok (.bipush 41, 2)) (by decide)
theorem oX13_read_74 : OpS mX13_read 74 (o_icmp (fun x y => x = y) 143 77) := s_icmp_eq (by decide +kernel : decode cX13_read 74 = .ok (.if_icmp .eq 69, 3)) (by decide)
theorem oX13_read_77 : OpS mX13_read 77 (o_iload 3 78) := s_iload_n (by decide +kernel : decode cX13_read 77 = .ok (.iload_n 3, 1)) rfl
theorem oX13_read_78 : OpS mX13_read 78 (o_const (.int 91) 80) := s_bipush (by decide +kernel : decode cX13_read 78 = .ok (.bipush 91, 2)) (by decide)
theorem oX13_read_80 : OpS mX13_read 80 (o_icmp (fun x y => x = y) 143 83) := s_icmp_eq (by decide +kernel : decode cX13_read 80 = .ok (.if_icmp .eq 63, 3)) (by decide)
theorem oX13_read_83 : OpS mX13_read 83 (o_iload 3 84) := s_iload_n (by decide +kernel : decode cX13_read 83 = .ok (.iload_n 3, 1)) rfl
theorem oX13_read_84 : OpS mX13_read 84 (o_const (.int 93) 86) := s_bipush (by decide +kernel : decode cX13_read 84 = .ok (.bipush 93, 2)) (by decide)
theorem oX13_read_86 : OpS mX13_read 86 (o_icmp (fun x y => x = y) 143 89) := s_icmp_eq (by decide +kernel : decode cX13_read 86 = .ok (.if_icmp .eq 57, 3)) (by decide)
theorem oX13_read_89 : OpS mX13_read 89 (o_iload 3 90) := s_iload_n (by decide +kernel : decode cX13_read 89 = .ok (.iload_n 3, 1)) rfl
theorem oX13_read_90 : OpS mX13_read 90 (o_const (.int 59) 92) := s_bipush (by decide +kernel : decode cX13_read 90 = .ok (.bipush 59, 2)) (by decide)
theorem oX13_read_92 : OpS mX13_read 92 (o_icmp (fun x y => x = y) 143 95) := s_icmp_eq (by decide +kernel : decode cX13_read 92 = .ok (.if_icmp .eq 51, 3)) (by decide)
theorem oX13_read_95 : OpS mX13_read 95 (o_iload 3 96) := s_iload_n (by decide +kernel : decode cX13_read 95 = .ok (.iload_n 3, 1)) rfl
theorem oX13_read_96 : OpS mX13_read 96 (o_const (.int 44) 98) := s_bipush (by decide +kernel : decode cX13_read 96 = .ok (.bipush 44, 2)) (by decide)
theorem oX13_read_98 : OpS mX13_read 98 (o_icmp (fun x y => x = y) 143 101) := s_icmp_eq (by decide +kernel : decode cX13_read 98 = .ok (.if_icmp .eq 45, 3)) (by decide)
theorem oX13_read_101 : OpS mX13_read 101 (o_iload 3 102) := s_iload_n (by decide +kernel : decode cX13_read 101 = .ok (.iload_n 3, 1)) rfl
theorem oX13_read_102 : OpS mX13_read 102 (o_const (.int 43) 104) := s_bipush (by decide +kernel : decode cX13_read 102 = .ok (.bipush 43, 2)) (by decide)
theorem oX13_read_104 : OpS mX13_read 104 (o_icmp (fun x y => x = y) 143 107) := s_icmp_eq (by decide +kernel : decode cX13_read 104 = .ok (.if_icmp .eq 39, 3)) (by decide)
theorem oX13_read_107 : OpS mX13_read 107 (o_iload 3 108) := s_iload_n (by decide +kernel : decode cX13_read 107 = .ok (.iload_n 3, 1)) rfl
theorem oX13_read_108 : OpS mX13_read 108 (o_const (.int 45) 110) := s_bipush (by decide +kernel : decode cX13_read 108 = .ok (.bipush 45, 2)) (by decide)
theorem oX13_read_110 : OpS mX13_read 110 (o_icmp (fun x y => x = y) 143 113) := s_icmp_eq (by decide +kernel : decode cX13_read 110 = .ok (.if_icmp .eq 33, 3)) (by decide)
theorem oX13_read_113 : OpS mX13_read 113 (o_iload 3 114) := s_iload_n (by decide +kernel : decode cX13_read 113 = .ok (.iload_n 3, 1)) rfl
theorem oX13_read_114 : OpS mX13_read 114 (o_const (.int 42) 116) := s_bipush (by decide +kernel : decode cX13_read 114 = .ok (.bipush 42, 2)) (by decide)
theorem oX13_read_116 : OpS mX13_read 116 (o_icmp (fun x y => x = y) 143 119) := s_icmp_eq (by decide +kernel : decode cX13_read 116 = .ok (.if_icmp .eq 27, 3)) (by decide)
theorem oX13_read_119 : OpS mX13_read 119 (o_iload 3 120) := s_iload_n (by decide +kernel : decode cX13_read 119 = .ok (.iload_n 3, 1)) rfl
theorem oX13_read_120 : OpS mX13_read 120 (o_const (.int 47) 122) := s_bipush (by decide +kernel : decode cX13_read 120 = .ok (.bipush 47, 2)) (by decide)
theorem oX13_read_122 : OpS mX13_read 122 (o_icmp (fun x y => x = y) 143 125) := s_icmp_eq (by decide +kernel : decode cX13_read 122 = .ok (.if_icmp .eq 21, 3)) (by decide)
theorem oX13_read_125 : OpS mX13_read 125 (o_iload 3 126) := s_iload_n (by decide +kernel : decode cX13_read 125 = .ok (.iload_n 3, 1)) rfl
theorem oX13_read_126 : OpS mX13_read 126 (o_const (.int 60) 128) := s_bipush (by decide +kernel : decode cX13_read 126 = .ok (.bipush 60, 2)) (by decide)
theorem oX13_read_128 : OpS mX13_read 128 (o_icmp (fun x y => x = y) 143 131) := s_icmp_eq (by decide +kernel : decode cX13_read 128 = .ok (.if_icmp .eq 15, 3)) (by decide)
theorem oX13_read_131 : OpS mX13_read 131 (o_iload 3 132) := s_iload_n (by decide +kernel : decode cX13_read 131 = .ok (.iload_n 3, 1)) rfl
theorem oX13_read_132 : OpS mX13_read 132 (o_const (.int 62) 134) := s_bipush (by decide +kernel : decode cX13_read 132 = .ok (.bipush 62, 2)) (by decide)
theorem oX13_read_134 : OpS mX13_read 134 (o_icmp (fun x y => x = y) 143 137) := s_icmp_eq (by decide +kernel : decode cX13_read 134 = .ok (.if_icmp .eq 9, 3)) (by decide)
theorem oX13_read_137 : OpS mX13_read 137 (o_iload 3 138) := s_iload_n (by decide +kernel : decode cX13_read 137 = .ok (.iload_n 3, 1)) rfl
theorem oX13_read_138 : OpS mX13_read 138 (o_const (.int 61) 140) := s_bipush (by decide +kernel : decode cX13_read 138 = .ok (.bipush 61, 2)) (by decide)
theorem oX13_read_140 : OpS mX13_read 140 (o_icmp (fun x y => x = y) 143 150) := s_icmp_ne (by decide +kernel : decode cX13_read 140 = .ok (.if_icmp .ne 10, 3)) (by decide)
theorem oX13_read_143 : OpS mX13_read 143 (o_aload 0 144) := s_aload_n (by decide +kernel : decode cX13_read 143 = .ok (.aload_n 0, 1)) rfl
theorem oX13_read_144 : OpS mX13_read 144 (o_getP 13 4 147) := s_getP (k := 4) clsX13 (by decide) rfl (Or.inl wd_1248) (by decide +kernel : decode cX13_read 144 = .ok (.getfield 36, 3)) rfl
theorem oX13_read_147 : OpS mX13_read 147 (o_iload 1 148) := s_iload_n (by decide +kernel : decode cX13_read 147 = .ok (.iload_n 1, 1)) rfl
theorem oX13_read_148 : OpS mX13_read 148 (o_const (.int 4) 149) := s_iconst (by decide +kernel : decode cX13_read 148 = .ok (.iconst 4, 1)) (by decide)
theorem oX13_read_149 : OpS mX13_read 149 (o_iast 150) := s_iast (by decide +kernel : decode cX13_read 149 = .ok (.iastore, 1))
theorem oX13_read_150 : OpS mX13_read 150 (o_iload 3 151) := s_iload_n (by decide +kernel : decode cX13_read 150 = .ok (.iload_n 3, 1)) rfl
theorem oX13_read_151 : OpS mX13_read 151 (o_const (.int 60) 153) := s_bipush (by decide +kernel : decode cX13_read 151 = .ok (.bipush 60, 2)) (by decide)
theorem oX13_read_153 : OpS mX13_read 153 (o_icmp (fun x y => x = y) 162 156) := s_icmp_eq (by decide +kernel : decode cX13_read 153 = .ok (.if_icmp .eq 9, 3)) (by decide)
theorem oX13_read_156 : OpS mX13_read 156 (o_iload 3 157) := s_iload_n (by decide +kernel : decode cX13_read 156 = .ok (.iload_n 3, 1)) rfl
theorem oX13_read_157 : OpS mX13_read 157 (o_const (.int 62) 159) := s_bipush (by decide +kernel : decode cX13_read 157 = .ok (.bipush 62, 2)) (by decide)
theorem oX13_read_159 : OpS mX13_read 159 (o_icmp (fun x y => x = y) 162 200) := s_icmp_ne (by decide +kernel : decode cX13_read 159 = .ok (.if_icmp .ne 41, 3)) (by decide)
theorem oX13_read_162 : OpS mX13_read 162 (o_aload 0 163) := s_aload_n (by decide +kernel : decode cX13_read 162 = .ok (.aload_n 0, 1)) rfl
theorem oX13_read_163 : OpS mX13_read 163 (o_iload 2 164) := s_iload_n (by decide +kernel : decode cX13_read 163 = .ok (.iload_n 2, 1)) rfl
theorem oX13_read_164 : OpS mX13_read 164 (o_const (.int 1) 165) := s_iconst (by decide +kernel : decode cX13_read 164 = .ok (.iconst 1, 1)) (by decide)
theorem oX13_read_165 : OpS mX13_read 165 (o_ibin (fun x y => x + y) 166) := s_iadd (by decide +kernel : decode cX13_read 165 = .ok (.iadd, 1))
theorem oX13_read_166 : OpS mX13_read 166 (o_callV mX13_byteAt 13 1 169) := s_callV ceX13_byteAt clsX13 (Or.inl wd_1337) wd_1339 selX13_byteAt (by decide +kernel : decode cX13_read 166 = .ok (.invokevirtual 26, 3))
theorem oX13_read_169 : OpS mX13_read 169 (o_const (.int 61) 171) := s_bipush (by decide +kernel : decode cX13_read 169 = .ok (.bipush 61, 2)) (by decide)
theorem oX13_read_171 : OpS mX13_read 171 (o_icmp (fun x y => x = y) 174 200) := s_icmp_ne (by decide +kernel : decode cX13_read 171 = .ok (.if_icmp .ne 29, 3)) (by decide)
theorem oX13_read_174 : OpS mX13_read 174 (o_aload 0 175) := s_aload_n (by decide +kernel : decode cX13_read 174 = .ok (.aload_n 0, 1)) rfl
theorem oX13_read_175 : OpS mX13_read 175 (o_getP 13 7 178) := s_getP (k := 7) clsX13 (by decide) rfl (Or.inl wd_1251) (by decide +kernel : decode cX13_read 175 = .ok (.getfield 39, 3)) rfl
theorem oX13_read_178 : OpS mX13_read 178 (o_iload 1 179) := s_iload_n (by decide +kernel : decode cX13_read 178 = .ok (.iload_n 1, 1)) rfl
theorem oX13_read_179 : OpS mX13_read 179 (o_const (.int 2) 180) := s_iconst (by decide +kernel : decode cX13_read 179 = .ok (.iconst 2, 1)) (by decide)
theorem oX13_read_180 : OpS mX13_read 180 (o_iast 181) := s_iast (by decide +kernel : decode cX13_read 180 = .ok (.iastore, 1))
theorem oX13_read_181 : OpS mX13_read 181 (o_aload 0 182) := s_aload_n (by decide +kernel : decode cX13_read 181 = .ok (.aload_n 0, 1)) rfl
theorem oX13_read_182 : OpS mX13_read 182 (o_getP 13 5 185) := s_getP (k := 5) clsX13 (by decide) rfl (Or.inl wd_1249) (by decide +kernel : decode cX13_read 182 = .ok (.getfield 42, 3)) rfl
theorem oX13_read_185 : OpS mX13_read 185 (o_iload 1 186) := s_iload_n (by decide +kernel : decode cX13_read 185 = .ok (.iload_n 1, 1)) rfl
theorem oX13_read_186 : OpS mX13_read 186 (o_iload 3 187) := s_iload_n (by decide +kernel : decode cX13_read 186 = .ok (.iload_n 3, 1)) rfl
theorem oX13_read_187 : OpS mX13_read 187 (o_const (.int 60) 189) := s_bipush (by decide +kernel : decode cX13_read 187 = .ok (.bipush 60, 2)) (by decide)
theorem oX13_read_189 : OpS mX13_read 189 (o_icmp (fun x y => x = y) 192 197) := s_icmp_ne (by decide +kernel : decode cX13_read 189 = .ok (.if_icmp .ne 8, 3)) (by decide)
theorem oX13_read_192 : OpS mX13_read 192 (o_const (.int 108) 194) := s_bipush (by decide +kernel : decode cX13_read 192 = .ok (.bipush 108, 2)) (by decide)
theorem oX13_read_194 : OpS mX13_read 194 (o_goto 199) := s_goto (by decide +kernel : decode cX13_read 194 = .ok (.goto 5, 3)) (by decide)
theorem oX13_read_197 : OpS mX13_read 197 (o_const (.int 103) 199) := s_bipush (by decide +kernel : decode cX13_read 197 = .ok (.bipush 103, 2)) (by decide)
theorem oX13_read_199 : OpS mX13_read 199 (o_iast 200) := s_iast (by decide +kernel : decode cX13_read 199 = .ok (.iastore, 1))
theorem oX13_read_200 : OpS mX13_read 200 (o_vret) := s_vret rfl (by decide +kernel : decode cX13_read 200 = .ok (.return_, 1))
theorem oX13_readWord_0 : OpS mX13_readWord 0 (o_iload 2 1) := s_iload_n (by decide +kernel : decode cX13_readWord 0 = .ok (.iload_n 2, 1)) rfl
theorem oX13_readWord_1 : OpS mX13_readWord 1 (o_istore 3 5 2) := s_istore_n (by decide +kernel : decode cX13_readWord 1 = .ok (.istore_n 3, 1)) rfl rfl
theorem oX13_readWord_2 : OpS mX13_readWord 2 (o_aload 0 3) := s_aload_n (by decide +kernel : decode cX13_readWord 2 = .ok (.aload_n 0, 1)) rfl
theorem oX13_readWord_3 : OpS mX13_readWord 3 (o_iload 3 4) := s_iload_n (by decide +kernel : decode cX13_readWord 3 = .ok (.iload_n 3, 1)) rfl
theorem oX13_readWord_4 : OpS mX13_readWord 4 (o_callV mX13_byteAt 13 1 7) := s_callV ceX13_byteAt clsX13 (Or.inl wd_1337) wd_1339 selX13_byteAt (by decide +kernel : decode cX13_readWord 4 = .ok (.invokevirtual 26, 3))
theorem oX13_readWord_7 : OpS mX13_readWord 7 (o_callS mX13_isLetter 1 10) := s_callS ceX13_isLetter (Or.inl wd_1345) wd_1346 (by decide +kernel : decode cX13_readWord 7 = .ok (.invokestatic 45, 3))
theorem oX13_readWord_10 : OpS mX13_readWord 10 (o_if (fun x => x = 0) 13 24) := s_if_ne (by decide +kernel : decode cX13_readWord 10 = .ok (.ifCond .ne 14, 3)) (by decide)
theorem oX13_readWord_13 : OpS mX13_readWord 13 (o_aload 0 14) := s_aload_n (by decide +kernel : decode cX13_readWord 13 = .ok (.aload_n 0, 1)) rfl
theorem oX13_readWord_14 : OpS mX13_readWord 14 (o_iload 3 15) := s_iload_n (by decide +kernel : decode cX13_readWord 14 = .ok (.iload_n 3, 1)) rfl
theorem oX13_readWord_15 : OpS mX13_readWord 15 (o_callV mX13_byteAt 13 1 18) := s_callV ceX13_byteAt clsX13 (Or.inl wd_1337) wd_1339 selX13_byteAt (by decide +kernel : decode cX13_readWord 15 = .ok (.invokevirtual 26, 3))
theorem oX13_readWord_18 : OpS mX13_readWord 18 (o_callS mX13_isDigit 1 21) := s_callS ceX13_isDigit (Or.inl wd_1352) wd_1353 (by decide +kernel : decode cX13_readWord 18 = .ok (.invokestatic 52, 3))
theorem oX13_readWord_21 : OpS mX13_readWord 21 (o_if (fun x => x = 0) 30 24) := s_if_eq (by decide +kernel : decode cX13_readWord 21 = .ok (.ifCond .eq 9, 3)) (by decide)
theorem oX13_readWord_24 : OpS mX13_readWord 24 (o_iinc 3 5 1 27) := s_iinc (by decide +kernel : decode cX13_readWord 24 = .ok (.iinc 3 1, 3)) (by decide) rfl
theorem oX13_readWord_27 : OpS mX13_readWord 27 (o_goto 2) := s_goto (by decide +kernel : decode cX13_readWord 27 = .ok (.goto (-25), 3)) (by decide)
theorem oX13_readWord_30 : OpS mX13_readWord 30 (o_aload 0 31) := s_aload_n (by decide +kernel : decode cX13_readWord 30 = .ok (.aload_n 0, 1)) rfl
theorem oX13_readWord_31 : OpS mX13_readWord 31 (o_getP 13 7 34) := s_getP (k := 7) clsX13 (by decide) rfl (Or.inl wd_1251) (by decide +kernel : decode cX13_readWord 31 = .ok (.getfield 39, 3)) rfl
theorem oX13_readWord_34 : OpS mX13_readWord 34 (o_iload 1 35) := s_iload_n (by decide +kernel : decode cX13_readWord 34 = .ok (.iload_n 1, 1)) rfl
theorem oX13_readWord_35 : OpS mX13_readWord 35 (o_iload 3 36) := s_iload_n (by decide +kernel : decode cX13_readWord 35 = .ok (.iload_n 3, 1)) rfl
theorem oX13_readWord_36 : OpS mX13_readWord 36 (o_iload 2 37) := s_iload_n (by decide +kernel : decode cX13_readWord 36 = .ok (.iload_n 2, 1)) rfl
theorem oX13_readWord_37 : OpS mX13_readWord 37 (o_ibin (fun x y => x - y) 38) := s_isub (by decide +kernel : decode cX13_readWord 37 = .ok (.isub, 1))
theorem oX13_readWord_38 : OpS mX13_readWord 38 (o_iast 39) := s_iast (by decide +kernel : decode cX13_readWord 38 = .ok (.iastore, 1))
theorem oX13_readWord_39 : OpS mX13_readWord 39 (o_aload 0 40) := s_aload_n (by decide +kernel : decode cX13_readWord 39 = .ok (.aload_n 0, 1)) rfl
theorem oX13_readWord_40 : OpS mX13_readWord 40 (o_getP 13 4 43) := s_getP (k := 4) clsX13 (by decide) rfl (Or.inl wd_1248) (by decide +kernel : decode cX13_readWord 40 = .ok (.getfield 36, 3)) rfl
theorem oX13_readWord_43 : OpS mX13_readWord 43 (o_iload 1 44) := s_iload_n (by decide +kernel : decode cX13_readWord 43 = .ok (.iload_n 1, 1)) rfl
theorem oX13_readWord_44 : OpS mX13_readWord 44 (o_iload 3 45) := s_iload_n (by decide +kernel : decode cX13_readWord 44 = .ok (.iload_n 3, 1)) rfl
theorem oX13_readWord_45 : OpS mX13_readWord 45 (o_iload 2 46) := s_iload_n (by decide +kernel : decode cX13_readWord 45 = .ok (.iload_n 2, 1)) rfl
theorem oX13_readWord_46 : OpS mX13_readWord 46 (o_ibin (fun x y => x - y) 47) := s_isub (by decide +kernel : decode cX13_readWord 46 = .ok (.isub, 1))
theorem oX13_readWord_47 : OpS mX13_readWord 47 (o_const (.int 10) 49) := s_bipush (by decide +kernel : decode cX13_readWord 47 = .ok (.bipush 10, 2)) (by decide)
theorem oX13_readWord_49 : OpS mX13_readWord 49 (o_icmp (fun x y => x ≤ y) 56 52) := s_icmp_le (by decide +kernel : decode cX13_readWord 49 = .ok (.if_icmp .le 7, 3)) (by decide)
theorem oX13_readWord_52 : OpS mX13_readWord 52 (o_const (.int 5) 53) := s_iconst (by decide +kernel : decode cX13_readWord 52 = .ok (.iconst 5, 1)) (by decide)
theorem oX13_readWord_53 : OpS mX13_readWord 53 (o_goto 57) := s_goto (by decide +kernel : decode cX13_readWord 53 = .ok (.goto 4, 3)) (by decide)
theorem oX13_readWord_56 : OpS mX13_readWord 56 (o_const (.int 1) 57) := s_iconst (by decide +kernel : decode cX13_readWord 56 = .ok (.iconst 1, 1)) (by decide)
theorem oX13_readWord_57 : OpS mX13_readWord 57 (o_iast 58) := s_iast (by decide +kernel : decode cX13_readWord 57 = .ok (.iastore, 1))
theorem oX13_readWord_58 : OpS mX13_readWord 58 (o_const (.int 0) 59) := s_iconst (by decide +kernel : decode cX13_readWord 58 = .ok (.iconst 0, 1)) (by decide)
theorem oX13_readWord_59 : OpS mX13_readWord 59 (o_istore 4 5 61) := s_istore (by decide +kernel : decode cX13_readWord 59 = .ok (.istore 4, 2)) rfl
theorem oX13_readWord_61 : OpS mX13_readWord 61 (o_iload 4 63) := s_iload (by decide +kernel : decode cX13_readWord 61 = .ok (.iload 4, 2))
theorem oX13_readWord_67 : OpS mX13_readWord 67 (o_icmp (fun x y => y ≤ x) 111 70) := s_icmp_ge (by decide +kernel : decode cX13_readWord 67 = .ok (.if_icmp .ge 44, 3)) (by decide)
theorem oX13_readWord_70 : OpS mX13_readWord 70 (o_aload 0 71) := s_aload_n (by decide +kernel : decode cX13_readWord 70 = .ok (.aload_n 0, 1)) rfl
theorem oX13_readWord_71 : OpS mX13_readWord 71 (o_iload 2 72) := s_iload_n (by decide +kernel : decode cX13_readWord 71 = .ok (.iload_n 2, 1)) rfl
theorem oX13_readWord_72 : OpS mX13_readWord 72 (o_iload 3 73) := s_iload_n (by decide +kernel : decode cX13_readWord 72 = .ok (.iload_n 3, 1)) rfl
theorem oX13_readWord_73 : OpS mX13_readWord 73 (o_iload 2 74) := s_iload_n (by decide +kernel : decode cX13_readWord 73 = .ok (.iload_n 2, 1)) rfl
theorem oX13_readWord_74 : OpS mX13_readWord 74 (o_ibin (fun x y => x - y) 75) := s_isub (by decide +kernel : decode cX13_readWord 74 = .ok (.isub, 1))
theorem oX13_readWord_78 : OpS mX13_readWord 78 (o_iload 4 80) := s_iload (by decide +kernel : decode cX13_readWord 78 = .ok (.iload 4, 2))
theorem oX13_readWord_81 : OpS mX13_readWord 81 (o_callV mX13_isWord 13 3 84) := s_callV ceX13_isWord clsX13 (Or.inl wd_1357) wd_1359 selX13_isWord (by decide +kernel : decode cX13_readWord 81 = .ok (.invokevirtual 62, 3))
theorem oX13_readWord_84 : OpS mX13_readWord 84 (o_if (fun x => x = 0) 87 90) := s_if_ne (by decide +kernel : decode cX13_readWord 84 = .ok (.ifCond .ne 6, 3)) (by decide)
theorem oX13_readWord_87 : OpS mX13_readWord 87 (o_goto 105) := s_goto (by decide +kernel : decode cX13_readWord 87 = .ok (.goto 18, 3)) (by decide)
theorem oX13_readWord_90 : OpS mX13_readWord 90 (o_aload 0 91) := s_aload_n (by decide +kernel : decode cX13_readWord 90 = .ok (.aload_n 0, 1)) rfl
theorem oX13_readWord_91 : OpS mX13_readWord 91 (o_getP 13 4 94) := s_getP (k := 4) clsX13 (by decide) rfl (Or.inl wd_1248) (by decide +kernel : decode cX13_readWord 91 = .ok (.getfield 36, 3)) rfl
theorem oX13_readWord_94 : OpS mX13_readWord 94 (o_iload 1 95) := s_iload_n (by decide +kernel : decode cX13_readWord 94 = .ok (.iload_n 1, 1)) rfl
theorem oX13_readWord_95 : OpS mX13_readWord 95 (o_const (.int 2) 96) := s_iconst (by decide +kernel : decode cX13_readWord 95 = .ok (.iconst 2, 1)) (by decide)
theorem oX13_readWord_96 : OpS mX13_readWord 96 (o_iast 97) := s_iast (by decide +kernel : decode cX13_readWord 96 = .ok (.iastore, 1))
theorem oX13_readWord_97 : OpS mX13_readWord 97 (o_aload 0 98) := s_aload_n (by decide +kernel : decode cX13_readWord 97 = .ok (.aload_n 0, 1)) rfl
theorem oX13_readWord_98 : OpS mX13_readWord 98 (o_getP 13 5 101) := s_getP (k := 5) clsX13 (by decide) rfl (Or.inl wd_1249) (by decide +kernel : decode cX13_readWord 98 = .ok (.getfield 42, 3)) rfl
theorem oX13_readWord_101 : OpS mX13_readWord 101 (o_iload 1 102) := s_iload_n (by decide +kernel : decode cX13_readWord 101 = .ok (.iload_n 1, 1)) rfl
theorem oX13_readWord_102 : OpS mX13_readWord 102 (o_iload 4 104) := s_iload (by decide +kernel : decode cX13_readWord 102 = .ok (.iload 4, 2))
theorem oX13_readWord_104 : OpS mX13_readWord 104 (o_iast 105) := s_iast (by decide +kernel : decode cX13_readWord 104 = .ok (.iastore, 1))
theorem oX13_readWord_105 : OpS mX13_readWord 105 (o_iinc 4 5 1 108) := s_iinc (by decide +kernel : decode cX13_readWord 105 = .ok (.iinc 4 1, 3)) (by decide) rfl
theorem oX13_readWord_108 : OpS mX13_readWord 108 (o_goto 61) := s_goto (by decide +kernel : decode cX13_readWord 108 = .ok (.goto (-47), 3)) (by decide)
theorem oX13_readWord_111 : OpS mX13_readWord 111 (o_vret) := s_vret rfl (by decide +kernel : decode cX13_readWord 111 = .ok (.return_, 1))
theorem oX13_isWord_0 : OpS mX13_isWord 0 (o_aload 3 1) := s_aload_n (by decide +kernel : decode cX13_isWord 0 = .ok (.aload_n 3, 1)) rfl
theorem oX13_isWord_4 : OpS mX13_isWord 4 (o_iload 2 5) := s_iload_n (by decide +kernel : decode cX13_isWord 4 = .ok (.iload_n 2, 1)) rfl
theorem oX13_isWord_5 : OpS mX13_isWord 5 (o_icmp (fun x y => x = y) 10 8) := s_icmp_eq (by decide +kernel : decode cX13_isWord 5 = .ok (.if_icmp .eq 5, 3)) (by decide)
theorem oX13_isWord_8 : OpS mX13_isWord 8 (o_const (.int 0) 9) := s_iconst (by decide +kernel : decode cX13_isWord 8 = .ok (.iconst 0, 1)) (by decide)
theorem oX13_isWord_9 : OpS mX13_isWord 9 (o_zret) := s_zret rfl (by decide +kernel : decode cX13_isWord 9 = .ok (.ireturn, 1))
theorem oX13_isWord_10 : OpS mX13_isWord 10 (o_const (.int 0) 11) := s_iconst (by decide +kernel : decode cX13_isWord 10 = .ok (.iconst 0, 1)) (by decide)
theorem oX13_isWord_11 : OpS mX13_isWord 11 (o_istore 4 5 13) := s_istore (by decide +kernel : decode cX13_isWord 11 = .ok (.istore 4, 2)) rfl
theorem oX13_isWord_13 : OpS mX13_isWord 13 (o_iload 4 15) := s_iload (by decide +kernel : decode cX13_isWord 13 = .ok (.iload 4, 2))
theorem oX13_isWord_15 : OpS mX13_isWord 15 (o_iload 2 16) := s_iload_n (by decide +kernel : decode cX13_isWord 15 = .ok (.iload_n 2, 1)) rfl
theorem oX13_isWord_16 : OpS mX13_isWord 16 (o_icmp (fun x y => y ≤ x) 45 19) := s_icmp_ge (by decide +kernel : decode cX13_isWord 16 = .ok (.if_icmp .ge 29, 3)) (by decide)
theorem oX13_isWord_19 : OpS mX13_isWord 19 (o_aload 0 20) := s_aload_n (by decide +kernel : decode cX13_isWord 19 = .ok (.aload_n 0, 1)) rfl
theorem oX13_isWord_20 : OpS mX13_isWord 20 (o_getP 13 1 23) := s_getP (k := 1) clsX13 (by decide) rfl (Or.inl wd_1245) (by decide +kernel : decode cX13_isWord 20 = .ok (.getfield 18, 3)) rfl
theorem oX13_isWord_23 : OpS mX13_isWord 23 (o_iload 1 24) := s_iload_n (by decide +kernel : decode cX13_isWord 23 = .ok (.iload_n 1, 1)) rfl
theorem oX13_isWord_24 : OpS mX13_isWord 24 (o_iload 4 26) := s_iload (by decide +kernel : decode cX13_isWord 24 = .ok (.iload 4, 2))
theorem oX13_isWord_26 : OpS mX13_isWord 26 (o_ibin (fun x y => x + y) 27) := s_iadd (by decide +kernel : decode cX13_isWord 26 = .ok (.iadd, 1))
theorem oX13_isWord_27 : OpS mX13_isWord 27 (o_iald 28) := s_iald (by decide +kernel : decode cX13_isWord 27 = .ok (.iaload, 1))
theorem oX13_isWord_28 : OpS mX13_isWord 28 (o_aload 3 29) := s_aload_n (by decide +kernel : decode cX13_isWord 28 = .ok (.aload_n 3, 1)) rfl
theorem oX13_isWord_29 : OpS mX13_isWord 29 (o_iload 4 31) := s_iload (by decide +kernel : decode cX13_isWord 29 = .ok (.iload 4, 2))
theorem oX13_isWord_34 : OpS mX13_isWord 34 (o_icmp (fun x y => x = y) 39 37) := s_icmp_eq (by decide +kernel : decode cX13_isWord 34 = .ok (.if_icmp .eq 5, 3)) (by decide)
theorem oX13_isWord_37 : OpS mX13_isWord 37 (o_const (.int 0) 38) := s_iconst (by decide +kernel : decode cX13_isWord 37 = .ok (.iconst 0, 1)) (by decide)
theorem oX13_isWord_38 : OpS mX13_isWord 38 (o_zret) := s_zret rfl (by decide +kernel : decode cX13_isWord 38 = .ok (.ireturn, 1))
theorem oX13_isWord_39 : OpS mX13_isWord 39 (o_iinc 4 5 1 42) := s_iinc (by decide +kernel : decode cX13_isWord 39 = .ok (.iinc 4 1, 3)) (by decide) rfl
theorem oX13_isWord_42 : OpS mX13_isWord 42 (o_goto 13) := s_goto (by decide +kernel : decode cX13_isWord 42 = .ok (.goto (-29), 3)) (by decide)
theorem oX13_isWord_45 : OpS mX13_isWord 45 (o_const (.int 1) 46) := s_iconst (by decide +kernel : decode cX13_isWord 45 = .ok (.iconst 1, 1)) (by decide)
theorem oX13_isWord_46 : OpS mX13_isWord 46 (o_zret) := s_zret rfl (by decide +kernel : decode cX13_isWord 46 = .ok (.ireturn, 1))
theorem oX13_readNumber_0 : OpS mX13_readNumber 0 (o_iload 2 1) := s_iload_n (by decide +kernel : decode cX13_readNumber 0 = .ok (.iload_n 2, 1)) rfl
theorem oX13_readNumber_1 : OpS mX13_readNumber 1 (o_istore 3 5 2) := s_istore_n (by decide +kernel : decode cX13_readNumber 1 = .ok (.istore_n 3, 1)) rfl rfl
theorem oX13_readNumber_2 : OpS mX13_readNumber 2 (o_const (.int 0) 3) := s_iconst (by decide +kernel : decode cX13_readNumber 2 = .ok (.iconst 0, 1)) (by decide)
theorem oX13_readNumber_3 : OpS mX13_readNumber 3 (o_istore 4 5 5) := s_istore (by decide +kernel : decode cX13_readNumber 3 = .ok (.istore 4, 2)) rfl
theorem oX13_readNumber_5 : OpS mX13_readNumber 5 (o_aload 0 6) := s_aload_n (by decide +kernel : decode cX13_readNumber 5 = .ok (.aload_n 0, 1)) rfl
theorem oX13_readNumber_6 : OpS mX13_readNumber 6 (o_iload 3 7) := s_iload_n (by decide +kernel : decode cX13_readNumber 6 = .ok (.iload_n 3, 1)) rfl
theorem oX13_readNumber_7 : OpS mX13_readNumber 7 (o_callV mX13_byteAt 13 1 10) := s_callV ceX13_byteAt clsX13 (Or.inl wd_1337) wd_1339 selX13_byteAt (by decide +kernel : decode cX13_readNumber 7 = .ok (.invokevirtual 26, 3))
theorem oX13_readNumber_10 : OpS mX13_readNumber 10 (o_callS mX13_isDigit 1 13) := s_callS ceX13_isDigit (Or.inl wd_1352) wd_1353 (by decide +kernel : decode cX13_readNumber 10 = .ok (.invokestatic 52, 3))
theorem oX13_readNumber_13 : OpS mX13_readNumber 13 (o_if (fun x => x = 0) 47 16) := s_if_eq (by decide +kernel : decode cX13_readNumber 13 = .ok (.ifCond .eq 34, 3)) (by decide)
theorem oX13_readNumber_16 : OpS mX13_readNumber 16 (o_iload 3 17) := s_iload_n (by decide +kernel : decode cX13_readNumber 16 = .ok (.iload_n 3, 1)) rfl
theorem oX13_readNumber_17 : OpS mX13_readNumber 17 (o_iload 2 18) := s_iload_n (by decide +kernel : decode cX13_readNumber 17 = .ok (.iload_n 2, 1)) rfl
theorem oX13_readNumber_18 : OpS mX13_readNumber 18 (o_ibin (fun x y => x - y) 19) := s_isub (by decide +kernel : decode cX13_readNumber 18 = .ok (.isub, 1))
theorem oX13_readNumber_19 : OpS mX13_readNumber 19 (o_const (.int 6) 21) := s_bipush (by decide +kernel : decode cX13_readNumber 19 = .ok (.bipush 6, 2)) (by decide)
theorem oX13_readNumber_21 : OpS mX13_readNumber 21 (o_icmp (fun x y => y ≤ x) 41 24) := s_icmp_ge (by decide +kernel : decode cX13_readNumber 21 = .ok (.if_icmp .ge 20, 3)) (by decide)
theorem oX13_readNumber_24 : OpS mX13_readNumber 24 (o_const (.int 10) 26) := s_bipush (by decide +kernel : decode cX13_readNumber 24 = .ok (.bipush 10, 2)) (by decide)
theorem oX13_readNumber_26 : OpS mX13_readNumber 26 (o_iload 4 28) := s_iload (by decide +kernel : decode cX13_readNumber 26 = .ok (.iload 4, 2))
theorem oX13_readNumber_28 : OpS mX13_readNumber 28 (o_ibin (fun x y => x * y) 29) := s_imul (by decide +kernel : decode cX13_readNumber 28 = .ok (.imul, 1))
theorem oX13_readNumber_29 : OpS mX13_readNumber 29 (o_aload 0 30) := s_aload_n (by decide +kernel : decode cX13_readNumber 29 = .ok (.aload_n 0, 1)) rfl
theorem oX13_readNumber_30 : OpS mX13_readNumber 30 (o_getP 13 1 33) := s_getP (k := 1) clsX13 (by decide) rfl (Or.inl wd_1245) (by decide +kernel : decode cX13_readNumber 30 = .ok (.getfield 18, 3)) rfl
theorem oX13_readNumber_33 : OpS mX13_readNumber 33 (o_iload 3 34) := s_iload_n (by decide +kernel : decode cX13_readNumber 33 = .ok (.iload_n 3, 1)) rfl
theorem oX13_readNumber_34 : OpS mX13_readNumber 34 (o_iald 35) := s_iald (by decide +kernel : decode cX13_readNumber 34 = .ok (.iaload, 1))
theorem oX13_readNumber_35 : OpS mX13_readNumber 35 (o_ibin (fun x y => x + y) 36) := s_iadd (by decide +kernel : decode cX13_readNumber 35 = .ok (.iadd, 1))
theorem oX13_readNumber_36 : OpS mX13_readNumber 36 (o_const (.int 48) 38) := s_bipush (by decide +kernel : decode cX13_readNumber 36 = .ok (.bipush 48, 2)) (by decide)
theorem oX13_readNumber_38 : OpS mX13_readNumber 38 (o_ibin (fun x y => x - y) 39) := s_isub (by decide +kernel : decode cX13_readNumber 38 = .ok (.isub, 1))
theorem oX13_readNumber_39 : OpS mX13_readNumber 39 (o_istore 4 5 41) := s_istore (by decide +kernel : decode cX13_readNumber 39 = .ok (.istore 4, 2)) rfl
theorem oX13_readNumber_41 : OpS mX13_readNumber 41 (o_iinc 3 5 1 44) := s_iinc (by decide +kernel : decode cX13_readNumber 41 = .ok (.iinc 3 1, 3)) (by decide) rfl
theorem oX13_readNumber_44 : OpS mX13_readNumber 44 (o_goto 5) := s_goto (by decide +kernel : decode cX13_readNumber 44 = .ok (.goto (-39), 3)) (by decide)
theorem oX13_readNumber_47 : OpS mX13_readNumber 47 (o_aload 0 48) := s_aload_n (by decide +kernel : decode cX13_readNumber 47 = .ok (.aload_n 0, 1)) rfl
theorem oX13_readNumber_48 : OpS mX13_readNumber 48 (o_getP 13 7 51) := s_getP (k := 7) clsX13 (by decide) rfl (Or.inl wd_1251) (by decide +kernel : decode cX13_readNumber 48 = .ok (.getfield 39, 3)) rfl
theorem oX13_readNumber_51 : OpS mX13_readNumber 51 (o_iload 1 52) := s_iload_n (by decide +kernel : decode cX13_readNumber 51 = .ok (.iload_n 1, 1)) rfl
theorem oX13_readNumber_52 : OpS mX13_readNumber 52 (o_iload 3 53) := s_iload_n (by decide +kernel : decode cX13_readNumber 52 = .ok (.iload_n 3, 1)) rfl
theorem oX13_readNumber_53 : OpS mX13_readNumber 53 (o_iload 2 54) := s_iload_n (by decide +kernel : decode cX13_readNumber 53 = .ok (.iload_n 2, 1)) rfl
theorem oX13_readNumber_54 : OpS mX13_readNumber 54 (o_ibin (fun x y => x - y) 55) := s_isub (by decide +kernel : decode cX13_readNumber 54 = .ok (.isub, 1))
theorem oX13_readNumber_55 : OpS mX13_readNumber 55 (o_iast 56) := s_iast (by decide +kernel : decode cX13_readNumber 55 = .ok (.iastore, 1))
theorem oX13_readNumber_56 : OpS mX13_readNumber 56 (o_aload 0 57) := s_aload_n (by decide +kernel : decode cX13_readNumber 56 = .ok (.aload_n 0, 1)) rfl
theorem oX13_readNumber_57 : OpS mX13_readNumber 57 (o_getP 13 5 60) := s_getP (k := 5) clsX13 (by decide) rfl (Or.inl wd_1249) (by decide +kernel : decode cX13_readNumber 57 = .ok (.getfield 42, 3)) rfl
theorem oX13_readNumber_60 : OpS mX13_readNumber 60 (o_iload 1 61) := s_iload_n (by decide +kernel : decode cX13_readNumber 60 = .ok (.iload_n 1, 1)) rfl
theorem oX13_readNumber_61 : OpS mX13_readNumber 61 (o_iload 4 63) := s_iload (by decide +kernel : decode cX13_readNumber 61 = .ok (.iload 4, 2))
theorem oX13_readNumber_63 : OpS mX13_readNumber 63 (o_iast 64) := s_iast (by decide +kernel : decode cX13_readNumber 63 = .ok (.iastore, 1))
theorem oX13_readNumber_64 : OpS mX13_readNumber 64 (o_aload 0 65) := s_aload_n (by decide +kernel : decode cX13_readNumber 64 = .ok (.aload_n 0, 1)) rfl
theorem oX13_readNumber_65 : OpS mX13_readNumber 65 (o_getP 13 4 68) := s_getP (k := 4) clsX13 (by decide) rfl (Or.inl wd_1248) (by decide +kernel : decode cX13_readNumber 65 = .ok (.getfield 36, 3)) rfl
theorem oX13_readNumber_68 : OpS mX13_readNumber 68 (o_iload 1 69) := s_iload_n (by decide +kernel : decode cX13_readNumber 68 = .ok (.iload_n 1, 1)) rfl
theorem oX13_readNumber_69 : OpS mX13_readNumber 69 (o_iload 3 70) := s_iload_n (by decide +kernel : decode cX13_readNumber 69 = .ok (.iload_n 3, 1)) rfl
theorem oX13_readNumber_70 : OpS mX13_readNumber 70 (o_iload 2 71) := s_iload_n (by decide +kernel : decode cX13_readNumber 70 = .ok (.iload_n 2, 1)) rfl
theorem oX13_readNumber_71 : OpS mX13_readNumber 71 (o_ibin (fun x y => x - y) 72) := s_isub (by decide +kernel : decode cX13_readNumber 71 = .ok (.isub, 1))
theorem oX13_readNumber_72 : OpS mX13_readNumber 72 (o_const (.int 6) 74) := s_bipush (by decide +kernel : decode cX13_readNumber 72 = .ok (.bipush 6, 2)) (by decide)
theorem oX13_readNumber_74 : OpS mX13_readNumber 74 (o_icmp (fun x y => x ≤ y) 81 77) := s_icmp_le (by decide +kernel : decode cX13_readNumber 74 = .ok (.if_icmp .le 7, 3)) (by decide)
theorem oX13_readNumber_77 : OpS mX13_readNumber 77 (o_const (.int 5) 78) := s_iconst (by decide +kernel : decode cX13_readNumber 77 = .ok (.iconst 5, 1)) (by decide)
theorem oX13_readNumber_78 : OpS mX13_readNumber 78 (o_goto 82) := s_goto (by decide +kernel : decode cX13_readNumber 78 = .ok (.goto 4, 3)) (by decide)
theorem oX13_readNumber_81 : OpS mX13_readNumber 81 (o_const (.int 3) 82) := s_iconst (by decide +kernel : decode cX13_readNumber 81 = .ok (.iconst 3, 1)) (by decide)
theorem oX13_readNumber_82 : OpS mX13_readNumber 82 (o_iast 83) := s_iast (by decide +kernel : decode cX13_readNumber 82 = .ok (.iastore, 1))
theorem oX13_readNumber_83 : OpS mX13_readNumber 83 (o_vret) := s_vret rfl (by decide +kernel : decode cX13_readNumber 83 = .ok (.return_, 1))
theorem oX13_isSame_0 : OpS mX13_isSame 0 (o_aload 0 1) := s_aload_n (by decide +kernel : decode cX13_isSame 0 = .ok (.aload_n 0, 1)) rfl
theorem oX13_isSame_1 : OpS mX13_isSame 1 (o_getP 13 7 4) := s_getP (k := 7) clsX13 (by decide) rfl (Or.inl wd_1251) (by decide +kernel : decode cX13_isSame 1 = .ok (.getfield 39, 3)) rfl
theorem oX13_isSame_4 : OpS mX13_isSame 4 (o_iload 1 5) := s_iload_n (by decide +kernel : decode cX13_isSame 4 = .ok (.iload_n 1, 1)) rfl
theorem oX13_isSame_5 : OpS mX13_isSame 5 (o_iald 6) := s_iald (by decide +kernel : decode cX13_isSame 5 = .ok (.iaload, 1))
theorem oX13_isSame_6 : OpS mX13_isSame 6 (o_aload 0 7) := s_aload_n (by decide +kernel : decode cX13_isSame 6 = .ok (.aload_n 0, 1)) rfl
theorem oX13_isSame_7 : OpS mX13_isSame 7 (o_getP 13 7 10) := s_getP (k := 7) clsX13 (by decide) rfl (Or.inl wd_1251) (by decide +kernel : decode cX13_isSame 7 = .ok (.getfield 39, 3)) rfl
theorem oX13_isSame_10 : OpS mX13_isSame 10 (o_iload 2 11) := s_iload_n (by decide +kernel : decode cX13_isSame 10 = .ok (.iload_n 2, 1)) rfl
theorem oX13_isSame_11 : OpS mX13_isSame 11 (o_iald 12) := s_iald (by decide +kernel : decode cX13_isSame 11 = .ok (.iaload, 1))
theorem oX13_isSame_12 : OpS mX13_isSame 12 (o_icmp (fun x y => x = y) 17 15) := s_icmp_eq (by decide +kernel : decode cX13_isSame 12 = .ok (.if_icmp .eq 5, 3)) (by decide)
theorem oX13_isSame_15 : OpS mX13_isSame 15 (o_const (.int 0) 16) := s_iconst (by decide +kernel : decode cX13_isSame 15 = .ok (.iconst 0, 1)) (by decide)
theorem oX13_isSame_16 : OpS mX13_isSame 16 (o_zret) := s_zret rfl (by decide +kernel : decode cX13_isSame 16 = .ok (.ireturn, 1))
theorem oX13_isSame_17 : OpS mX13_isSame 17 (o_const (.int 0) 18) := s_iconst (by decide +kernel : decode cX13_isSame 17 = .ok (.iconst 0, 1)) (by decide)
theorem oX13_isSame_18 : OpS mX13_isSame 18 (o_istore 3 4 19) := s_istore_n (by decide +kernel : decode cX13_isSame 18 = .ok (.istore_n 3, 1)) rfl rfl
theorem oX13_isSame_19 : OpS mX13_isSame 19 (o_iload 3 20) := s_iload_n (by decide +kernel : decode cX13_isSame 19 = .ok (.iload_n 3, 1)) rfl
theorem oX13_isSame_20 : OpS mX13_isSame 20 (o_aload 0 21) := s_aload_n (by decide +kernel : decode cX13_isSame 20 = .ok (.aload_n 0, 1)) rfl
theorem oX13_isSame_21 : OpS mX13_isSame 21 (o_getP 13 7 24) := s_getP (k := 7) clsX13 (by decide) rfl (Or.inl wd_1251) (by decide +kernel : decode cX13_isSame 21 = .ok (.getfield 39, 3)) rfl
theorem oX13_isSame_24 : OpS mX13_isSame 24 (o_iload 1 25) := s_iload_n (by decide +kernel : decode cX13_isSame 24 = .ok (.iload_n 1, 1)) rfl
theorem oX13_isSame_25 : OpS mX13_isSame 25 (o_iald 26) := s_iald (by decide +kernel : decode cX13_isSame 25 = .ok (.iaload, 1))
theorem oX13_isSame_26 : OpS mX13_isSame 26 (o_icmp (fun x y => y ≤ x) 66 29) := s_icmp_ge (by decide +kernel : decode cX13_isSame 26 = .ok (.if_icmp .ge 40, 3)) (by decide)
theorem oX13_isSame_29 : OpS mX13_isSame 29 (o_aload 0 30) := s_aload_n (by decide +kernel : decode cX13_isSame 29 = .ok (.aload_n 0, 1)) rfl
theorem oX13_isSame_30 : OpS mX13_isSame 30 (o_getP 13 1 33) := s_getP (k := 1) clsX13 (by decide) rfl (Or.inl wd_1245) (by decide +kernel : decode cX13_isSame 30 = .ok (.getfield 18, 3)) rfl
theorem oX13_isSame_33 : OpS mX13_isSame 33 (o_aload 0 34) := s_aload_n (by decide +kernel : decode cX13_isSame 33 = .ok (.aload_n 0, 1)) rfl
theorem oX13_isSame_34 : OpS mX13_isSame 34 (o_getP 13 6 37) := s_getP (k := 6) clsX13 (by decide) rfl (Or.inl wd_1250) (by decide +kernel : decode cX13_isSame 34 = .ok (.getfield 29, 3)) rfl
theorem oX13_isSame_37 : OpS mX13_isSame 37 (o_iload 1 38) := s_iload_n (by decide +kernel : decode cX13_isSame 37 = .ok (.iload_n 1, 1)) rfl
theorem oX13_isSame_38 : OpS mX13_isSame 38 (o_iald 39) := s_iald (by decide +kernel : decode cX13_isSame 38 = .ok (.iaload, 1))
theorem oX13_isSame_39 : OpS mX13_isSame 39 (o_iload 3 40) := s_iload_n (by decide +kernel : decode cX13_isSame 39 = .ok (.iload_n 3, 1)) rfl
theorem oX13_isSame_40 : OpS mX13_isSame 40 (o_ibin (fun x y => x + y) 41) := s_iadd (by decide +kernel : decode cX13_isSame 40 = .ok (.iadd, 1))
theorem oX13_isSame_41 : OpS mX13_isSame 41 (o_iald 42) := s_iald (by decide +kernel : decode cX13_isSame 41 = .ok (.iaload, 1))
theorem oX13_isSame_42 : OpS mX13_isSame 42 (o_aload 0 43) := s_aload_n (by decide +kernel : decode cX13_isSame 42 = .ok (.aload_n 0, 1)) rfl
theorem oX13_isSame_43 : OpS mX13_isSame 43 (o_getP 13 1 46) := s_getP (k := 1) clsX13 (by decide) rfl (Or.inl wd_1245) (by decide +kernel : decode cX13_isSame 43 = .ok (.getfield 18, 3)) rfl
theorem oX13_isSame_46 : OpS mX13_isSame 46 (o_aload 0 47) := s_aload_n (by decide +kernel : decode cX13_isSame 46 = .ok (.aload_n 0, 1)) rfl
theorem oX13_isSame_47 : OpS mX13_isSame 47 (o_getP 13 6 50) := s_getP (k := 6) clsX13 (by decide) rfl (Or.inl wd_1250) (by decide +kernel : decode cX13_isSame 47 = .ok (.getfield 29, 3)) rfl
theorem oX13_isSame_50 : OpS mX13_isSame 50 (o_iload 2 51) := s_iload_n (by decide +kernel : decode cX13_isSame 50 = .ok (.iload_n 2, 1)) rfl
theorem oX13_isSame_51 : OpS mX13_isSame 51 (o_iald 52) := s_iald (by decide +kernel : decode cX13_isSame 51 = .ok (.iaload, 1))
theorem oX13_isSame_52 : OpS mX13_isSame 52 (o_iload 3 53) := s_iload_n (by decide +kernel : decode cX13_isSame 52 = .ok (.iload_n 3, 1)) rfl
theorem oX13_isSame_53 : OpS mX13_isSame 53 (o_ibin (fun x y => x + y) 54) := s_iadd (by decide +kernel : decode cX13_isSame 53 = .ok (.iadd, 1))
theorem oX13_isSame_54 : OpS mX13_isSame 54 (o_iald 55) := s_iald (by decide +kernel : decode cX13_isSame 54 = .ok (.iaload, 1))
theorem oX13_isSame_55 : OpS mX13_isSame 55 (o_icmp (fun x y => x = y) 60 58) := s_icmp_eq (by decide +kernel : decode cX13_isSame 55 = .ok (.if_icmp .eq 5, 3)) (by decide)
theorem oX13_isSame_58 : OpS mX13_isSame 58 (o_const (.int 0) 59) := s_iconst (by decide +kernel : decode cX13_isSame 58 = .ok (.iconst 0, 1)) (by decide)
theorem oX13_isSame_59 : OpS mX13_isSame 59 (o_zret) := s_zret rfl (by decide +kernel : decode cX13_isSame 59 = .ok (.ireturn, 1))
theorem oX13_isSame_60 : OpS mX13_isSame 60 (o_iinc 3 4 1 63) := s_iinc (by decide +kernel : decode cX13_isSame 60 = .ok (.iinc 3 1, 3)) (by decide) rfl
theorem oX13_isSame_63 : OpS mX13_isSame 63 (o_goto 19) := s_goto (by decide +kernel : decode cX13_isSame 63 = .ok (.goto (-44), 3)) (by decide)
theorem oX13_isSame_66 : OpS mX13_isSame 66 (o_const (.int 1) 67) := s_iconst (by decide +kernel : decode cX13_isSame 66 = .ok (.iconst 1, 1)) (by decide)
theorem oX13_isSame_67 : OpS mX13_isSame 67 (o_zret) := s_zret rfl (by decide +kernel : decode cX13_isSame 67 = .ok (.ireturn, 1))
theorem oX13_init_0 : OpS mX13_init 0 (o_aload 0 1) := s_aload_n (by decide +kernel : decode cX13_init 0 = .ok (.aload_n 0, 1)) rfl
theorem oX13_init_1 : OpS mX13_init 1 (o_objinit 4) := s_objinit wd_1169 wd_34 wd_35 (by decide +kernel : decode cX13_init 1 = .ok (.invokespecial 75, 3))
theorem oX13_init_4 : OpS mX13_init 4 (o_aload 0 5) := s_aload_n (by decide +kernel : decode cX13_init 4 = .ok (.aload_n 0, 1)) rfl
theorem oX13_init_5 : OpS mX13_init 5 (o_const (.int 2000) 8) := s_sipush (by decide +kernel : decode cX13_init 5 = .ok (.sipush 2000, 3)) (by decide)
theorem oX13_init_8 : OpS mX13_init 8 (o_newa 2 10) := s_newa2 wd_52 (by decide +kernel : decode cX13_init 8 = .ok (.newarray .int, 2))
theorem oX13_init_10 : OpS mX13_init 10 (o_putP 13 1 13) := s_putP (k := 1) clsX13 (by decide) rfl (Or.inl ⟨wd_1245, Or.inr ⟨rfl, rfl, rfl⟩⟩) (by decide +kernel : decode cX13_init 10 = .ok (.putfield 18, 3)) rfl (fun _ => rfl) (fun _ => rfl)
theorem oX13_init_13 : OpS mX13_init 13 (o_aload 0 14) := s_aload_n (by decide +kernel : decode cX13_init 13 = .ok (.aload_n 0, 1)) rfl
theorem oX13_init_14 : OpS mX13_init 14 (o_const (.int (-1)) 15) := s_iconst (by decide +kernel : decode cX13_init 14 = .ok (.iconst (-1), 1)) (by decide)
theorem oX13_init_15 : OpS mX13_init 15 (o_putI 13 3 18) := s_putI (k := 3) clsX13 (by decide) rfl (Or.inl ⟨wd_1247, Or.inl rfl⟩) (by decide +kernel : decode cX13_init 15 = .ok (.putfield 81, 3)) rfl rfl
theorem oX13_init_18 : OpS mX13_init 18 (o_aload 0 19) := s_aload_n (by decide +kernel : decode cX13_init 18 = .ok (.aload_n 0, 1)) rfl
theorem oX13_init_19 : OpS mX13_init 19 (o_const (.int 402) 22) := s_sipush (by decide +kernel : decode cX13_init 19 = .ok (.sipush 402, 3)) (by decide)
theorem oX13_init_22 : OpS mX13_init 22 (o_newa 2 24) := s_newa2 wd_52 (by decide +kernel : decode cX13_init 22 = .ok (.newarray .int, 2))
theorem oX13_init_24 : OpS mX13_init 24 (o_putP 13 4 27) := s_putP (k := 4) clsX13 (by decide) rfl (Or.inl ⟨wd_1248, Or.inr ⟨rfl, rfl, rfl⟩⟩) (by decide +kernel : decode cX13_init 24 = .ok (.putfield 36, 3)) rfl (fun _ => rfl) (fun _ => rfl)
theorem oX13_init_27 : OpS mX13_init 27 (o_aload 0 28) := s_aload_n (by decide +kernel : decode cX13_init 27 = .ok (.aload_n 0, 1)) rfl
theorem oX13_init_28 : OpS mX13_init 28 (o_const (.int 402) 31) := s_sipush (by decide +kernel : decode cX13_init 28 = .ok (.sipush 402, 3)) (by decide)
theorem oX13_init_31 : OpS mX13_init 31 (o_newa 2 33) := s_newa2 wd_52 (by decide +kernel : decode cX13_init 31 = .ok (.newarray .int, 2))
theorem oX13_init_33 : OpS mX13_init 33 (o_putP 13 5 36) := s_putP (k := 5) clsX13 (by decide) rfl (Or.inl ⟨wd_1249, Or.inr ⟨rfl, rfl, rfl⟩⟩) (by decide +kernel : decode cX13_init 33 = .ok (.putfield 42, 3)) rfl (fun _ => rfl) (fun _ => rfl)
theorem oX13_init_36 : OpS mX13_init 36 (o_aload 0 37) := s_aload_n (by decide +kernel : decode cX13_init 36 = .ok (.aload_n 0, 1)) rfl
theorem oX13_init_37 : OpS mX13_init 37 (o_const (.int 402) 40) := s_sipush (by decide +kernel : decode cX13_init 37 = .ok (.sipush 402, 3)) (by decide)
theorem oX13_init_40 : OpS mX13_init 40 (o_newa 2 42) := s_newa2 wd_52 (by decide +kernel : decode cX13_init 40 = .ok (.newarray .int, 2))
theorem oX13_init_42 : OpS mX13_init 42 (o_putP 13 6 45) := s_putP (k := 6) clsX13 (by decide) rfl (Or.inl ⟨wd_1250, Or.inr ⟨rfl, rfl, rfl⟩⟩) (by decide +kernel : decode cX13_init 42 = .ok (.putfield 29, 3)) rfl (fun _ => rfl) (fun _ => rfl)
theorem oX13_init_45 : OpS mX13_init 45 (o_aload 0 46) := s_aload_n (by decide +kernel : decode cX13_init 45 = .ok (.aload_n 0, 1)) rfl
theorem oX13_init_46 : OpS mX13_init 46 (o_const (.int 402) 49) := s_sipush (by decide +kernel : decode cX13_init 46 = .ok (.sipush 402, 3)) (by decide)
theorem oX13_init_49 : OpS mX13_init 49 (o_newa 2 51) := s_newa2 wd_52 (by decide +kernel : decode cX13_init 49 = .ok (.newarray .int, 2))
theorem oX13_init_51 : OpS mX13_init 51 (o_putP 13 7 54) := s_putP (k := 7) clsX13 (by decide) rfl (Or.inl ⟨wd_1251, Or.inr ⟨rfl, rfl, rfl⟩⟩) (by decide +kernel : decode cX13_init 51 = .ok (.putfield 39, 3)) rfl (fun _ => rfl) (fun _ => rfl)
theorem oX13_init_54 : OpS mX13_init 54 (o_aload 0 55) := s_aload_n (by decide +kernel : decode cX13_init 54 = .ok (.aload_n 0, 1)) rfl
theorem oX13_init_55 : OpS mX13_init 55 (o_new 12 16 58) := s_new clsX12 defX12 wd_1170 wd_1171 wd_18 (by decide +kernel : decode cX13_init 55 = .ok (.new 84, 3))
theorem oX13_init_58 : OpS mX13_init 58 (o_dup 59) := s_dup (by decide +kernel : decode cX13_init 58 = .ok (.dup, 1))
theorem oX13_init_59 : OpS mX13_init 59 (o_callI mX12_init 0 62) := s_callI ceX12_init rfl rfl (Or.inr ⟨_, wd_1172⟩) wd_1173 (by decide +kernel : decode cX13_init 59 = .ok (.invokespecial 86, 3))
theorem oX13_init_62 : OpS mX13_init 62 (o_putP 13 8 65) := s_putP (k := 8) clsX13 (by decide) rfl (Or.inl ⟨wd_1252, Or.inl rfl⟩) (by decide +kernel : decode cX13_init 62 = .ok (.putfield 87, 3)) rfl (fun _ => rfl) (fun _ => rfl)
theorem oX13_init_65 : OpS mX13_init 65 (o_aload 0 66) := s_aload_n (by decide +kernel : decode cX13_init 65 = .ok (.aload_n 0, 1)) rfl
theorem oX13_init_66 : OpS mX13_init 66 (o_new 12 16 69) := s_new clsX12 defX12 wd_1170 wd_1171 wd_18 (by decide +kernel : decode cX13_init 66 = .ok (.new 84, 3))
theorem oX13_init_69 : OpS mX13_init 69 (o_dup 70) := s_dup (by decide +kernel : decode cX13_init 69 = .ok (.dup, 1))
theorem oX13_init_70 : OpS mX13_init 70 (o_callI mX12_init 0 73) := s_callI ceX12_init rfl rfl (Or.inr ⟨_, wd_1172⟩) wd_1173 (by decide +kernel : decode cX13_init 70 = .ok (.invokespecial 86, 3))
theorem oX13_init_73 : OpS mX13_init 73 (o_putP 13 9 76) := s_putP (k := 9) clsX13 (by decide) rfl (Or.inl ⟨wd_1253, Or.inl rfl⟩) (by decide +kernel : decode cX13_init 73 = .ok (.putfield 91, 3)) rfl (fun _ => rfl) (fun _ => rfl)
theorem oX13_init_76 : OpS mX13_init 76 (o_aload 0 77) := s_aload_n (by decide +kernel : decode cX13_init 76 = .ok (.aload_n 0, 1)) rfl
theorem oX13_init_77 : OpS mX13_init 77 (o_const (.int 6) 79) := s_bipush (by decide +kernel : decode cX13_init 77 = .ok (.bipush 6, 2)) (by decide)
theorem oX13_init_79 : OpS mX13_init 79 (o_newa 2 81) := s_newa2 wd_52 (by decide +kernel : decode cX13_init 79 = .ok (.newarray .int, 2))
theorem oX13_init_81 : OpS mX13_init 81 (o_putP 13 10 84) := s_putP (k := 10) clsX13 (by decide) rfl (Or.inl ⟨wd_1254, Or.inr ⟨rfl, rfl, rfl⟩⟩) (by decide +kernel : decode cX13_init 81 = .ok (.putfield 94, 3)) rfl (fun _ => rfl) (fun _ => rfl)
theorem oX13_init_84 : OpS mX13_init 84 (o_aload 0 85) := s_aload_n (by decide +kernel : decode cX13_init 84 = .ok (.aload_n 0, 1)) rfl
theorem oX13_init_85 : OpS mX13_init 85 (o_const (.int 40) 87) := s_bipush (by decide +kernel : decode cX13_init 85 = .ok (.bipush 40, 2)) (by decide)
theorem oX13_init_87 : OpS mX13_init 87 (o_newa 2 89) := s_newa2 wd_52 (by decide +kernel : decode cX13_init 87 = .ok (.newarray .int, 2))
theorem oX13_init_89 : OpS mX13_init 89 (o_putP 13 11 92) := s_putP (k := 11) clsX13 (by decide) rfl (Or.inl ⟨wd_1255, Or.inr ⟨rfl, rfl, rfl⟩⟩) (by decide +kernel : decode cX13_init 89 = .ok (.putfield 97, 3)) rfl (fun _ => rfl) (fun _ => rfl)
theorem oX13_init_92 : OpS mX13_init 92 (o_aload 0 93) := s_aload_n (by decide +kernel : decode cX13_init 92 = .ok (.aload_n 0, 1)) rfl
theorem oX13_init_93 : OpS mX13_init 93 (o_const (.int 20) 95) := s_bipush (by decide +kernel : decode cX13_init 93 = .ok (.bipush 20, 2)) (by decide)
theorem oX13_init_95 : OpS mX13_init 95 (o_newa 2 97) := s_newa2 wd_52 (by decide +kernel : decode cX13_init 95 = .ok (.newarray .int, 2))
theorem oX13_init_97 : OpS mX13_init 97 (o_putP 13 17 100) := s_putP (k := 17) clsX13 (by decide) rfl (Or.inl ⟨wd_1261, Or.inr ⟨rfl, rfl, rfl⟩⟩) (by decide +kernel : decode cX13_init 97 = .ok (.putfield 100, 3)) rfl (fun _ => rfl) (fun _ => rfl)
theorem oX13_init_100 : OpS mX13_init 100 (o_aload 0 101) := s_aload_n (by decide +kernel : decode cX13_init 100 = .ok (.aload_n 0, 1)) rfl
theorem oX13_init_101 : OpS mX13_init 101 (o_const (.int (-1)) 102) := s_iconst (by decide +kernel : decode cX13_init 101 = .ok (.iconst (-1), 1)) (by decide)
theorem oX13_init_102 : OpS mX13_init 102 (o_putI 13 20 105) := s_putI (k := 20) clsX13 (by decide) rfl (Or.inl ⟨wd_1264, Or.inl rfl⟩) (by decide +kernel : decode cX13_init 102 = .ok (.putfield 103, 3)) rfl rfl
theorem oX13_init_105 : OpS mX13_init 105 (o_aload 0 106) := s_aload_n (by decide +kernel : decode cX13_init 105 = .ok (.aload_n 0, 1)) rfl
theorem oX13_init_106 : OpS mX13_init 106 (o_const (.int 4) 107) := s_iconst (by decide +kernel : decode cX13_init 106 = .ok (.iconst 4, 1)) (by decide)
theorem oX13_init_107 : OpS mX13_init 107 (o_putI 13 21 110) := s_putI (k := 21) clsX13 (by decide) rfl (Or.inl ⟨wd_1265, Or.inl rfl⟩) (by decide +kernel : decode cX13_init 107 = .ok (.putfield 106, 3)) rfl rfl
theorem oX13_init_110 : OpS mX13_init 110 (o_aload 0 111) := s_aload_n (by decide +kernel : decode cX13_init 110 = .ok (.aload_n 0, 1)) rfl
theorem oX13_init_111 : OpS mX13_init 111 (o_const (.int 20) 113) := s_bipush (by decide +kernel : decode cX13_init 111 = .ok (.bipush 20, 2)) (by decide)
theorem oX13_init_113 : OpS mX13_init 113 (o_newa 2 115) := s_newa2 wd_52 (by decide +kernel : decode cX13_init 113 = .ok (.newarray .int, 2))
theorem oX13_init_115 : OpS mX13_init 115 (o_putP 13 22 118) := s_putP (k := 22) clsX13 (by decide) rfl (Or.inl ⟨wd_1266, Or.inr ⟨rfl, rfl, rfl⟩⟩) (by decide +kernel : decode cX13_init 115 = .ok (.putfield 109, 3)) rfl (fun _ => rfl) (fun _ => rfl)
theorem oX13_init_118 : OpS mX13_init 118 (o_aload 0 119) := s_aload_n (by decide +kernel : decode cX13_init 118 = .ok (.aload_n 0, 1)) rfl
theorem oX13_init_119 : OpS mX13_init 119 (o_const (.int 11) 121) := s_bipush (by decide +kernel : decode cX13_init 119 = .ok (.bipush 11, 2)) (by decide)
theorem oX13_init_121 : OpS mX13_init 121 (o_newa 2 123) := s_newa2 wd_52 (by decide +kernel : decode cX13_init 121 = .ok (.newarray .int, 2))
theorem oX13_init_123 : OpS mX13_init 123 (o_putP 13 23 126) := s_putP (k := 23) clsX13 (by decide) rfl (Or.inl ⟨wd_1267, Or.inr ⟨rfl, rfl, rfl⟩⟩) (by decide +kernel : decode cX13_init 123 = .ok (.putfield 112, 3)) rfl (fun _ => rfl) (fun _ => rfl)
theorem oX13_init_126 : OpS mX13_init 126 (o_aload 0 127) := s_aload_n (by decide +kernel : decode cX13_init 126 = .ok (.aload_n 0, 1)) rfl
theorem oX13_init_127 : OpS mX13_init 127 (o_const (.int 40) 129) := s_bipush (by decide +kernel : decode cX13_init 127 = .ok (.bipush 40, 2)) (by decide)
theorem oX13_init_129 : OpS mX13_init 129 (o_newa 2 131) := s_newa2 wd_52 (by decide +kernel : decode cX13_init 129 = .ok (.newarray .int, 2))
theorem oX13_init_131 : OpS mX13_init 131 (o_putP 13 24 134) := s_putP (k := 24) clsX13 (by decide) rfl (Or.inl ⟨wd_1268, Or.inr ⟨rfl, rfl, rfl⟩⟩) (by decide +kernel : decode cX13_init 131 = .ok (.putfield 115, 3)) rfl (fun _ => rfl) (fun _ => rfl)
theorem oX13_init_134 : OpS mX13_init 134 (o_aload 0 135) := s_aload_n (by decide +kernel : decode cX13_init 134 = .ok (.aload_n 0, 1)) rfl
theorem oX13_init_135 : OpS mX13_init 135 (o_const (.int 40) 137) := s_bipush (by decide +kernel : decode cX13_init 135 = .ok (.bipush 40, 2)) (by decide)
theorem oX13_init_137 : OpS mX13_init 137 (o_newa 2 139) := s_newa2 wd_52 (by decide +kernel : decode cX13_init 137 = .ok (.newarray .int, 2))
theorem oX13_init_139 : OpS mX13_init 139 (o_putP 13 25 142) := s_putP (k := 25) clsX13 (by decide) rfl (Or.inl ⟨wd_1269, Or.inr ⟨rfl, rfl, rfl⟩⟩) (by decide +kernel : decode cX13_init 139 = .ok (.putfield 118, 3)) rfl (fun _ => rfl) (fun _ => rfl)
theorem oX13_init_142 : OpS mX13_init 142 (o_aload 0 143) := s_aload_n (by decide +kernel : decode cX13_init 142 = .ok (.aload_n 0, 1)) rfl
theorem oX13_init_143 : OpS mX13_init 143 (o_const (.int 40) 145) := s_bipush (by decide +kernel : decode cX13_init 143 = .ok (.bipush 40, 2)) (by decide)
theorem oX13_init_145 : OpS mX13_init 145 (o_newa 2 147) := s_newa2 wd_52 (by decide +kernel : decode cX13_init 145 = .ok (.newarray .int, 2))
theorem oX13_init_147 : OpS mX13_init 147 (o_putP 13 26 150) := s_putP (k := 26) clsX13 (by decide) rfl (Or.inl ⟨wd_1270, Or.inr ⟨rfl, rfl, rfl⟩⟩) (by decide +kernel : decode cX13_init 147 = .ok (.putfield 121, 3)) rfl (fun _ => rfl) (fun _ => rfl)
theorem oX13_init_150 : OpS mX13_init 150 (o_aload 0 151) := s_aload_n (by decide +kernel : decode cX13_init 150 = .ok (.aload_n 0, 1)) rfl
theorem oX13_init_151 : OpS mX13_init 151 (o_getP 13 8 154) := s_getP (k := 8) clsX13 (by decide) rfl (Or.inl wd_1252) (by decide +kernel : decode cX13_init 151 = .ok (.getfield 87, 3)) rfl
theorem oX13_init_154 : OpS mX13_init 154 (o_callV mX12_empty 12 0 157) := s_callV ceX12_empty clsX12 (Or.inl wd_1240) wd_1241 selX12_empty (by decide +kernel : decode cX13_init 154 = .ok (.invokevirtual 124, 3))
theorem oX13_init_157 : OpS mX13_init 157 (o_vret) := s_vret rfl (by decide +kernel : decode cX13_init 157 = .ok (.return_, 1))
theorem oX13_fail_0 : OpS mX13_fail 0 (o_aload 0 1) := s_aload_n (by decide +kernel : decode cX13_fail 0 = .ok (.aload_n 0, 1)) rfl
theorem oX13_fail_1 : OpS mX13_fail 1 (o_getI 13 14 4) := s_getI (k := 14) clsX13 (by decide) rfl (Or.inl wd_1258) (by decide +kernel : decode cX13_fail 1 = .ok (.getfield 127, 3)) rfl
theorem oX13_fail_4 : OpS mX13_fail 4 (o_const (.int (-1)) 5) := s_iconst (by decide +kernel : decode cX13_fail 4 = .ok (.iconst (-1), 1)) (by decide)
theorem oX13_fail_5 : OpS mX13_fail 5 (o_icmp (fun x y => x = y) 8 16) := s_icmp_ne (by decide +kernel : decode cX13_fail 5 = .ok (.if_icmp .ne 11, 3)) (by decide)
theorem oX13_fail_8 : OpS mX13_fail 8 (o_aload 0 9) := s_aload_n (by decide +kernel : decode cX13_fail 8 = .ok (.aload_n 0, 1)) rfl
theorem oX13_fail_9 : OpS mX13_fail 9 (o_aload 0 10) := s_aload_n (by decide +kernel : decode cX13_fail 9 = .ok (.aload_n 0, 1)) rfl
theorem oX13_fail_10 : OpS mX13_fail 10 (o_getI 13 12 13) := s_getI (k := 12) clsX13 (by decide) rfl (Or.inl wd_1256) (by decide +kernel : decode cX13_fail 10 = .ok (.getfield 130, 3)) rfl
theorem oX13_fail_13 : OpS mX13_fail 13 (o_putI 13 14 16) := s_putI (k := 14) clsX13 (by decide) rfl (Or.inl ⟨wd_1258, Or.inl rfl⟩) (by decide +kernel : decode cX13_fail 13 = .ok (.putfield 127, 3)) rfl rfl
theorem oX13_fail_16 : OpS mX13_fail 16 (o_vret) := s_vret rfl (by decide +kernel : decode cX13_fail 16 = .ok (.return_, 1))
theorem oX13_isOk_0 : OpS mX13_isOk 0 (o_aload 0 1) := s_aload_n (by decide +kernel : decode cX13_isOk 0 = .ok (.aload_n 0, 1)) rfl
theorem oX13_isOk_1 : OpS mX13_isOk 1 (o_getI 13 14 4) := s_getI (k := 14) clsX13 (by decide) rfl (Or.inl wd_1258) (by decide +kernel : decode cX13_isOk 1 = .ok (.getfield 127, 3)) rfl
theorem oX13_isOk_4 : OpS mX13_isOk 4 (o_const (.int (-1)) 5) := s_iconst (by decide +kernel : decode cX13_isOk 4 = .ok (.iconst (-1), 1)) (by decide)
theorem oX13_isOk_5 : OpS mX13_isOk 5 (o_icmp (fun x y => x = y) 8 12) := s_icmp_ne (by decide +kernel : decode cX13_isOk 5 = .ok (.if_icmp .ne 7, 3)) (by decide)
theorem oX13_isOk_8 : OpS mX13_isOk 8 (o_const (.int 1) 9) := s_iconst (by decide +kernel : decode cX13_isOk 8 = .ok (.iconst 1, 1)) (by decide)
theorem oX13_isOk_9 : OpS mX13_isOk 9 (o_goto 13) := s_goto (by decide +kernel : decode cX13_isOk 9 = .ok (.goto 4, 3)) (by decide)
theorem oX13_isOk_12 : OpS mX13_isOk 12 (o_const (.int 0) 13) := s_iconst (by decide +kernel : decode cX13_isOk 12 = .ok (.iconst 0, 1)) (by decide)
theorem oX13_isOk_13 : OpS mX13_isOk 13 (o_zret) := s_zret rfl (by decide +kernel : decode cX13_isOk 13 = .ok (.ireturn, 1))
theorem oX13_is_0 : OpS mX13_is 0 (o_aload 0 1) := s_aload_n (by decide +kernel : decode cX13_is 0 = .ok (.aload_n 0, 1)) rfl
theorem oX13_is_1 : OpS mX13_is 1 (o_callV mX13_isOk 13 0 4) := s_callV ceX13_isOk clsX13 (Or.inl wd_1367) wd_1369 selX13_isOk (by decide +kernel : decode cX13_is 1 = .ok (.invokevirtual 133, 3))
theorem oX13_is_4 : OpS mX13_is 4 (o_if (fun x => x = 0) 37 7) := s_if_eq (by decide +kernel : decode cX13_is 4 = .ok (.ifCond .eq 33, 3)) (by decide)
theorem oX13_is_7 : OpS mX13_is 7 (o_aload 0 8) := s_aload_n (by decide +kernel : decode cX13_is 7 = .ok (.aload_n 0, 1)) rfl
theorem oX13_is_8 : OpS mX13_is 8 (o_getP 13 4 11) := s_getP (k := 4) clsX13 (by decide) rfl (Or.inl wd_1248) (by decide +kernel : decode cX13_is 8 = .ok (.getfield 36, 3)) rfl
theorem oX13_is_11 : OpS mX13_is 11 (o_aload 0 12) := s_aload_n (by decide +kernel : decode cX13_is 11 = .ok (.aload_n 0, 1)) rfl
theorem oX13_is_12 : OpS mX13_is 12 (o_getI 13 12 15) := s_getI (k := 12) clsX13 (by decide) rfl (Or.inl wd_1256) (by decide +kernel : decode cX13_is 12 = .ok (.getfield 130, 3)) rfl
theorem oX13_is_15 : OpS mX13_is 15 (o_iald 16) := s_iald (by decide +kernel : decode cX13_is 15 = .ok (.iaload, 1))
theorem oX13_is_16 : OpS mX13_is 16 (o_iload 1 17) := s_iload_n (by decide +kernel : decode cX13_is 16 = .ok (.iload_n 1, 1)) rfl
theorem oX13_is_17 : OpS mX13_is 17 (o_icmp (fun x y => x = y) 20 37) := s_icmp_ne (by decide +kernel : decode cX13_is 17 = .ok (.if_icmp .ne 20, 3)) (by decide)
theorem oX13_is_20 : OpS mX13_is 20 (o_aload 0 21) := s_aload_n (by decide +kernel : decode cX13_is 20 = .ok (.aload_n 0, 1)) rfl
theorem oX13_is_21 : OpS mX13_is 21 (o_getP 13 5 24) := s_getP (k := 5) clsX13 (by decide) rfl (Or.inl wd_1249) (by decide +kernel : decode cX13_is 21 = .ok (.getfield 42, 3)) rfl
theorem oX13_is_24 : OpS mX13_is 24 (o_aload 0 25) := s_aload_n (by decide +kernel : decode cX13_is 24 = .ok (.aload_n 0, 1)) rfl
theorem oX13_is_25 : OpS mX13_is 25 (o_getI 13 12 28) := s_getI (k := 12) clsX13 (by decide) rfl (Or.inl wd_1256) (by decide +kernel : decode cX13_is 25 = .ok (.getfield 130, 3)) rfl
theorem oX13_is_28 : OpS mX13_is 28 (o_iald 29) := s_iald (by decide +kernel : decode cX13_is 28 = .ok (.iaload, 1))
theorem oX13_is_29 : OpS mX13_is 29 (o_iload 2 30) := s_iload_n (by decide +kernel : decode cX13_is 29 = .ok (.iload_n 2, 1)) rfl
theorem oX13_is_30 : OpS mX13_is 30 (o_icmp (fun x y => x = y) 33 37) := s_icmp_ne (by decide +kernel : decode cX13_is 30 = .ok (.if_icmp .ne 7, 3)) (by decide)
theorem oX13_is_33 : OpS mX13_is 33 (o_const (.int 1) 34) := s_iconst (by decide +kernel : decode cX13_is 33 = .ok (.iconst 1, 1)) (by decide)
theorem oX13_is_34 : OpS mX13_is 34 (o_goto 38) := s_goto (by decide +kernel : decode cX13_is 34 = .ok (.goto 4, 3)) (by decide)
theorem oX13_is_37 : OpS mX13_is 37 (o_const (.int 0) 38) := s_iconst (by decide +kernel : decode cX13_is 37 = .ok (.iconst 0, 1)) (by decide)
theorem oX13_is_38 : OpS mX13_is 38 (o_zret) := s_zret rfl (by decide +kernel : decode cX13_is 38 = .ok (.ireturn, 1))
theorem oX13_take_0 : OpS mX13_take 0 (o_aload 0 1) := s_aload_n (by decide +kernel : decode cX13_take 0 = .ok (.aload_n 0, 1)) rfl
theorem oX13_take_1 : OpS mX13_take 1 (o_iload 1 2) := s_iload_n (by decide +kernel : decode cX13_take 1 = .ok (.iload_n 1, 1)) rfl
theorem oX13_take_2 : OpS mX13_take 2 (o_iload 2 3) := s_iload_n (by decide +kernel : decode cX13_take 2 = .ok (.iload_n 2, 1)) rfl
theorem oX13_take_3 : OpS mX13_take 3 (o_callV mX13_is 13 2 6) := s_callV ceX13_is clsX13 (Or.inl wd_1375) wd_1377 selX13_is (by decide +kernel : decode cX13_take 3 = .ok (.invokevirtual 137, 3))
theorem oX13_take_6 : OpS mX13_take 6 (o_if (fun x => x = 0) 22 9) := s_if_eq (by decide +kernel : decode cX13_take 6 = .ok (.ifCond .eq 16, 3)) (by decide)
theorem oX13_take_9 : OpS mX13_take 9 (o_aload 0 10) := s_aload_n (by decide +kernel : decode cX13_take 9 = .ok (.aload_n 0, 1)) rfl
theorem oX13_take_10 : OpS mX13_take 10 (o_dup 11) := s_dup (by decide +kernel : decode cX13_take 10 = .ok (.dup, 1))
theorem oX13_take_11 : OpS mX13_take 11 (o_getI 13 12 14) := s_getI (k := 12) clsX13 (by decide) rfl (Or.inl wd_1256) (by decide +kernel : decode cX13_take 11 = .ok (.getfield 130, 3)) rfl
theorem oX13_take_14 : OpS mX13_take 14 (o_const (.int 1) 15) := s_iconst (by decide +kernel : decode cX13_take 14 = .ok (.iconst 1, 1)) (by decide)
theorem oX13_take_15 : OpS mX13_take 15 (o_ibin (fun x y => x + y) 16) := s_iadd (by decide +kernel : decode cX13_take 15 = .ok (.iadd, 1))
theorem oX13_take_16 : OpS mX13_take 16 (o_putI 13 12 19) := s_putI (k := 12) clsX13 (by decide) rfl (Or.inl ⟨wd_1256, Or.inl rfl⟩) (by decide +kernel : decode cX13_take 16 = .ok (.putfield 130, 3)) rfl rfl
theorem oX13_take_19 : OpS mX13_take 19 (o_goto 26) := s_goto (by decide +kernel : decode cX13_take 19 = .ok (.goto 7, 3)) (by decide)
theorem oX13_take_22 : OpS mX13_take 22 (o_aload 0 23) := s_aload_n (by decide +kernel : decode cX13_take 22 = .ok (.aload_n 0, 1)) rfl
theorem oX13_take_23 : OpS mX13_take 23 (o_callV mX13_fail 13 0 26) := s_callV ceX13_fail clsX13 (Or.inl wd_1391) wd_1393 selX13_fail (by decide +kernel : decode cX13_take 23 = .ok (.invokevirtual 141, 3))
theorem oX13_take_26 : OpS mX13_take 26 (o_vret) := s_vret rfl (by decide +kernel : decode cX13_take 26 = .ok (.return_, 1))
theorem oX13_tell_0 : OpS mX13_tell 0 (o_aload 0 1) := s_aload_n (by decide +kernel : decode cX13_tell 0 = .ok (.aload_n 0, 1)) rfl
theorem oX13_tell_1 : OpS mX13_tell 1 (o_getI 13 15 4) := s_getI (k := 15) clsX13 (by decide) rfl (Or.inl wd_1259) (by decide +kernel : decode cX13_tell 1 = .ok (.getfield 144, 3)) rfl
theorem oX13_tell_4 : OpS mX13_tell 4 (o_if (fun x => x = 0) 24 7) := s_if_eq (by decide +kernel : decode cX13_tell 4 = .ok (.ifCond .eq 20, 3)) (by decide)
theorem oX13_tell_7 : OpS mX13_tell 7 (o_aload 0 8) := s_aload_n (by decide +kernel : decode cX13_tell 7 = .ok (.aload_n 0, 1)) rfl
theorem oX13_tell_8 : OpS mX13_tell 8 (o_getI 13 16 11) := s_getI (k := 16) clsX13 (by decide) rfl (Or.inl wd_1260) (by decide +kernel : decode cX13_tell 8 = .ok (.getfield 147, 3)) rfl
theorem oX13_tell_11 : OpS mX13_tell 11 (o_iload 2 12) := s_iload_n (by decide +kernel : decode cX13_tell 11 = .ok (.iload_n 2, 1)) rfl
theorem oX13_tell_12 : OpS mX13_tell 12 (o_icmp (fun x y => x = y) 15 23) := s_icmp_ne (by decide +kernel : decode cX13_tell 12 = .ok (.if_icmp .ne 11, 3)) (by decide)
theorem oX13_tell_15 : OpS mX13_tell 15 (o_aload 0 16) := s_aload_n (by decide +kernel : decode cX13_tell 15 = .ok (.aload_n 0, 1)) rfl
theorem oX13_tell_16 : OpS mX13_tell 16 (o_getI 13 15 19) := s_getI (k := 15) clsX13 (by decide) rfl (Or.inl wd_1259) (by decide +kernel : decode cX13_tell 16 = .ok (.getfield 144, 3)) rfl
theorem oX13_tell_19 : OpS mX13_tell 19 (o_iload 1 20) := s_iload_n (by decide +kernel : decode cX13_tell 19 = .ok (.iload_n 1, 1)) rfl
theorem oX13_tell_20 : OpS mX13_tell 20 (o_icmp (fun x y => y < x) 24 23) := s_icmp_gt (by decide +kernel : decode cX13_tell 20 = .ok (.if_icmp .gt 4, 3)) (by decide)
theorem oX13_tell_23 : OpS mX13_tell 23 (o_vret) := s_vret rfl (by decide +kernel : decode cX13_tell 23 = .ok (.return_, 1))
theorem oX13_tell_24 : OpS mX13_tell 24 (o_aload 0 25) := s_aload_n (by decide +kernel : decode cX13_tell 24 = .ok (.aload_n 0, 1)) rfl
theorem oX13_tell_25 : OpS mX13_tell 25 (o_iload 1 26) := s_iload_n (by decide +kernel : decode cX13_tell 25 = .ok (.iload_n 1, 1)) rfl
theorem oX13_tell_26 : OpS mX13_tell 26 (o_putI 13 15 29) := s_putI (k := 15) clsX13 (by decide) rfl (Or.inl ⟨wd_1259, Or.inl rfl⟩) (by decide +kernel : decode cX13_tell 26 = .ok (.putfield 144, 3)) rfl rfl
theorem oX13_tell_29 : OpS mX13_tell 29 (o_aload 0 30) := s_aload_n (by decide +kernel : decode cX13_tell 29 = .ok (.aload_n 0, 1)) rfl
theorem oX13_tell_30 : OpS mX13_tell 30 (o_iload 2 31) := s_iload_n (by decide +kernel : decode cX13_tell 30 = .ok (.iload_n 2, 1)) rfl
theorem oX13_tell_31 : OpS mX13_tell 31 (o_putI 13 16 34) := s_putI (k := 16) clsX13 (by decide) rfl (Or.inl ⟨wd_1260, Or.inl rfl⟩) (by decide +kernel : decode cX13_tell 31 = .ok (.putfield 147, 3)) rfl rfl
theorem oX13_tell_34 : OpS mX13_tell 34 (o_vret) := s_vret rfl (by decide +kernel : decode cX13_tell 34 = .ok (.return_, 1))
theorem oX13_deeper_0 : OpS mX13_deeper 0 (o_aload 0 1) := s_aload_n (by decide +kernel : decode cX13_deeper 0 = .ok (.aload_n 0, 1)) rfl
theorem oX13_deeper_1 : OpS mX13_deeper 1 (o_getI 13 13 4) := s_getI (k := 13) clsX13 (by decide) rfl (Or.inl wd_1257) (by decide +kernel : decode cX13_deeper 1 = .ok (.getfield 150, 3)) rfl
theorem oX13_deeper_4 : OpS mX13_deeper 4 (o_const (.int 8) 6) := s_bipush (by decide +kernel : decode cX13_deeper 4 = .ok (.bipush 8, 2)) (by decide)
theorem oX13_deeper_6 : OpS mX13_deeper 6 (o_icmp (fun x y => x = y) 9 13) := s_icmp_ne (by decide +kernel : decode cX13_deeper 6 = .ok (.if_icmp .ne 7, 3)) (by decide)
theorem oX13_deeper_9 : OpS mX13_deeper 9 (o_aload 0 10) := s_aload_n (by decide +kernel : decode cX13_deeper 9 = .ok (.aload_n 0, 1)) rfl
theorem oX13_deeper_10 : OpS mX13_deeper 10 (o_callV mX13_fail 13 0 13) := s_callV ceX13_fail clsX13 (Or.inl wd_1391) wd_1393 selX13_fail (by decide +kernel : decode cX13_deeper 10 = .ok (.invokevirtual 141, 3))
theorem oX13_deeper_13 : OpS mX13_deeper 13 (o_aload 0 14) := s_aload_n (by decide +kernel : decode cX13_deeper 13 = .ok (.aload_n 0, 1)) rfl
theorem oX13_deeper_14 : OpS mX13_deeper 14 (o_dup 15) := s_dup (by decide +kernel : decode cX13_deeper 14 = .ok (.dup, 1))
theorem oX13_deeper_15 : OpS mX13_deeper 15 (o_getI 13 13 18) := s_getI (k := 13) clsX13 (by decide) rfl (Or.inl wd_1257) (by decide +kernel : decode cX13_deeper 15 = .ok (.getfield 150, 3)) rfl
theorem oX13_deeper_18 : OpS mX13_deeper 18 (o_const (.int 1) 19) := s_iconst (by decide +kernel : decode cX13_deeper 18 = .ok (.iconst 1, 1)) (by decide)
theorem oX13_deeper_19 : OpS mX13_deeper 19 (o_ibin (fun x y => x + y) 20) := s_iadd (by decide +kernel : decode cX13_deeper 19 = .ok (.iadd, 1))
theorem oX13_deeper_20 : OpS mX13_deeper 20 (o_putI 13 13 23) := s_putI (k := 13) clsX13 (by decide) rfl (Or.inl ⟨wd_1257, Or.inl rfl⟩) (by decide +kernel : decode cX13_deeper 20 = .ok (.putfield 150, 3)) rfl rfl
theorem oX13_deeper_23 : OpS mX13_deeper 23 (o_vret) := s_vret rfl (by decide +kernel : decode cX13_deeper 23 = .ok (.return_, 1))
theorem oX13_name_0 : OpS mX13_name 0 (o_aload 0 1) := s_aload_n (by decide +kernel : decode cX13_name 0 = .ok (.aload_n 0, 1)) rfl
theorem oX13_name_1 : OpS mX13_name 1 (o_callV mX13_isOk 13 0 4) := s_callV ceX13_isOk clsX13 (Or.inl wd_1367) wd_1369 selX13_isOk (by decide +kernel : decode cX13_name 1 = .ok (.invokevirtual 133, 3))
theorem oX13_name_4 : OpS mX13_name 4 (o_if (fun x => x = 0) 37 7) := s_if_eq (by decide +kernel : decode cX13_name 4 = .ok (.ifCond .eq 33, 3)) (by decide)
theorem oX13_name_7 : OpS mX13_name 7 (o_aload 0 8) := s_aload_n (by decide +kernel : decode cX13_name 7 = .ok (.aload_n 0, 1)) rfl
theorem oX13_name_8 : OpS mX13_name 8 (o_getP 13 4 11) := s_getP (k := 4) clsX13 (by decide) rfl (Or.inl wd_1248) (by decide +kernel : decode cX13_name 8 = .ok (.getfield 36, 3)) rfl
theorem oX13_name_11 : OpS mX13_name 11 (o_aload 0 12) := s_aload_n (by decide +kernel : decode cX13_name 11 = .ok (.aload_n 0, 1)) rfl
theorem oX13_name_12 : OpS mX13_name 12 (o_getI 13 12 15) := s_getI (k := 12) clsX13 (by decide) rfl (Or.inl wd_1256) (by decide +kernel : decode cX13_name 12 = .ok (.getfield 130, 3)) rfl
theorem oX13_name_15 : OpS mX13_name 15 (o_iald 16) := s_iald (by decide +kernel : decode cX13_name 15 = .ok (.iaload, 1))
theorem oX13_name_16 : OpS mX13_name 16 (o_const (.int 1) 17) := s_iconst (by decide +kernel : decode cX13_name 16 = .ok (.iconst 1, 1)) (by decide)
theorem oX13_name_17 : OpS mX13_name 17 (o_icmp (fun x y => x = y) 20 37) := s_icmp_ne (by decide +kernel : decode cX13_name 17 = .ok (.if_icmp .ne 20, 3)) (by decide)
theorem oX13_name_20 : OpS mX13_name 20 (o_aload 0 21) := s_aload_n (by decide +kernel : decode cX13_name 20 = .ok (.aload_n 0, 1)) rfl
theorem oX13_name_21 : OpS mX13_name 21 (o_dup 22) := s_dup (by decide +kernel : decode cX13_name 21 = .ok (.dup, 1))
theorem oX13_name_22 : OpS mX13_name 22 (o_getI 13 12 25) := s_getI (k := 12) clsX13 (by decide) rfl (Or.inl wd_1256) (by decide +kernel : decode cX13_name 22 = .ok (.getfield 130, 3)) rfl
theorem oX13_name_25 : OpS mX13_name 25 (o_const (.int 1) 26) := s_iconst (by decide +kernel : decode cX13_name 25 = .ok (.iconst 1, 1)) (by decide)
theorem oX13_name_26 : OpS mX13_name 26 (o_ibin (fun x y => x + y) 27) := s_iadd (by decide +kernel : decode cX13_name 26 = .ok (.iadd, 1))
theorem oX13_name_27 : OpS mX13_name 27 (o_putI 13 12 30) := s_putI (k := 12) clsX13 (by decide) rfl (Or.inl ⟨wd_1256, Or.inl rfl⟩) (by decide +kernel : decode cX13_name 27 = .ok (.putfield 130, 3)) rfl rfl
theorem oX13_name_30 : OpS mX13_name 30 (o_aload 0 31) := s_aload_n (by decide +kernel : decode cX13_name 30 = .ok (.aload_n 0, 1)) rfl
theorem oX13_name_31 : OpS mX13_name 31 (o_getI 13 12 34) := s_getI (k := 12) clsX13 (by decide) rfl (Or.inl wd_1256) (by decide +kernel : decode cX13_name 31 = .ok (.getfield 130, 3)) rfl
theorem oX13_name_34 : OpS mX13_name 34 (o_const (.int 1) 35) := s_iconst (by decide +kernel : decode cX13_name 34 = .ok (.iconst 1, 1)) (by decide)
theorem oX13_name_35 : OpS mX13_name 35 (o_ibin (fun x y => x - y) 36) := s_isub (by decide +kernel : decode cX13_name 35 = .ok (.isub, 1))
theorem oX13_name_36 : OpS mX13_name 36 (o_iret) := s_iret rfl (by decide +kernel : decode cX13_name 36 = .ok (.ireturn, 1))
theorem oX13_name_37 : OpS mX13_name 37 (o_aload 0 38) := s_aload_n (by decide +kernel : decode cX13_name 37 = .ok (.aload_n 0, 1)) rfl
theorem oX13_name_38 : OpS mX13_name 38 (o_callV mX13_fail 13 0 41) := s_callV ceX13_fail clsX13 (Or.inl wd_1391) wd_1393 selX13_fail (by decide +kernel : decode cX13_name 38 = .ok (.invokevirtual 141, 3))
theorem oX13_name_41 : OpS mX13_name 41 (o_const (.int 0) 42) := s_iconst (by decide +kernel : decode cX13_name 41 = .ok (.iconst 0, 1)) (by decide)
theorem oX13_name_42 : OpS mX13_name 42 (o_iret) := s_iret rfl (by decide +kernel : decode cX13_name 42 = .ok (.ireturn, 1))
theorem oX13_find_0 : OpS mX13_find 0 (o_const (.int 0) 1) := s_iconst (by decide +kernel : decode cX13_find 0 = .ok (.iconst 0, 1)) (by decide)
theorem oX13_find_1 : OpS mX13_find 1 (o_istore 4 5 3) := s_istore (by decide +kernel : decode cX13_find 1 = .ok (.istore 4, 2)) rfl
theorem oX13_find_3 : OpS mX13_find 3 (o_iload 4 5) := s_iload (by decide +kernel : decode cX13_find 3 = .ok (.iload 4, 2))
theorem oX13_find_5 : OpS mX13_find 5 (o_iload 2 6) := s_iload_n (by decide +kernel : decode cX13_find 5 = .ok (.iload_n 2, 1)) rfl
theorem oX13_find_6 : OpS mX13_find 6 (o_icmp (fun x y => y ≤ x) 30 9) := s_icmp_ge (by decide +kernel : decode cX13_find 6 = .ok (.if_icmp .ge 24, 3)) (by decide)
theorem oX13_find_9 : OpS mX13_find 9 (o_aload 0 10) := s_aload_n (by decide +kernel : decode cX13_find 9 = .ok (.aload_n 0, 1)) rfl
theorem oX13_find_10 : OpS mX13_find 10 (o_aload 1 11) := s_aload_n (by decide +kernel : decode cX13_find 10 = .ok (.aload_n 1, 1)) rfl
theorem oX13_find_11 : OpS mX13_find 11 (o_iload 4 13) := s_iload (by decide +kernel : decode cX13_find 11 = .ok (.iload 4, 2))
theorem oX13_find_13 : OpS mX13_find 13 (o_iald 14) := s_iald (by decide +kernel : decode cX13_find 13 = .ok (.iaload, 1))
theorem oX13_find_14 : OpS mX13_find 14 (o_iload 3 15) := s_iload_n (by decide +kernel : decode cX13_find 14 = .ok (.iload_n 3, 1)) rfl
theorem oX13_find_15 : OpS mX13_find 15 (o_callV mX13_isSame 13 2 18) := s_callV ceX13_isSame clsX13 (Or.inl wd_1399) wd_1401 selX13_isSame (by decide +kernel : decode cX13_find 15 = .ok (.invokevirtual 153, 3))
theorem oX13_find_18 : OpS mX13_find 18 (o_if (fun x => x = 0) 24 21) := s_if_eq (by decide +kernel : decode cX13_find 18 = .ok (.ifCond .eq 6, 3)) (by decide)
theorem oX13_find_21 : OpS mX13_find 21 (o_iload 4 23) := s_iload (by decide +kernel : decode cX13_find 21 = .ok (.iload 4, 2))
theorem oX13_find_23 : OpS mX13_find 23 (o_iret) := s_iret rfl (by decide +kernel : decode cX13_find 23 = .ok (.ireturn, 1))
theorem oX13_find_24 : OpS mX13_find 24 (o_iinc 4 5 1 27) := s_iinc (by decide +kernel : decode cX13_find 24 = .ok (.iinc 4 1, 3)) (by decide) rfl
theorem oX13_find_27 : OpS mX13_find 27 (o_goto 3) := s_goto (by decide +kernel : decode cX13_find 27 = .ok (.goto (-24), 3)) (by decide)
theorem oX13_find_30 : OpS mX13_find 30 (o_const (.int (-1)) 31) := s_iconst (by decide +kernel : decode cX13_find 30 = .ok (.iconst (-1), 1)) (by decide)
theorem oX13_find_31 : OpS mX13_find 31 (o_iret) := s_iret rfl (by decide +kernel : decode cX13_find 31 = .ok (.ireturn, 1))
theorem oX13_known_0 : OpS mX13_known 0 (o_aload 0 1) := s_aload_n (by decide +kernel : decode cX13_known 0 = .ok (.aload_n 0, 1)) rfl
theorem oX13_known_1 : OpS mX13_known 1 (o_callV mX13_name 13 0 4) := s_callV ceX13_name clsX13 (Or.inl wd_1387) wd_1389 selX13_name (by decide +kernel : decode cX13_known 1 = .ok (.invokevirtual 156, 3))
theorem oX13_known_4 : OpS mX13_known 4 (o_istore 3 5 5) := s_istore_n (by decide +kernel : decode cX13_known 4 = .ok (.istore_n 3, 1)) rfl rfl
theorem oX13_known_5 : OpS mX13_known 5 (o_aload 0 6) := s_aload_n (by decide +kernel : decode cX13_known 5 = .ok (.aload_n 0, 1)) rfl
theorem oX13_known_6 : OpS mX13_known 6 (o_callV mX13_isOk 13 0 9) := s_callV ceX13_isOk clsX13 (Or.inl wd_1367) wd_1369 selX13_isOk (by decide +kernel : decode cX13_known 6 = .ok (.invokevirtual 133, 3))
theorem oX13_known_9 : OpS mX13_known 9 (o_if (fun x => x = 0) 12 14) := s_if_ne (by decide +kernel : decode cX13_known 9 = .ok (.ifCond .ne 5, 3)) (by decide)
theorem oX13_known_12 : OpS mX13_known 12 (o_const (.int 0) 13) := s_iconst (by decide +kernel : decode cX13_known 12 = .ok (.iconst 0, 1)) (by decide)
theorem oX13_known_13 : OpS mX13_known 13 (o_iret) := s_iret rfl (by decide +kernel : decode cX13_known 13 = .ok (.ireturn, 1))
theorem oX13_known_14 : OpS mX13_known 14 (o_aload 0 15) := s_aload_n (by decide +kernel : decode cX13_known 14 = .ok (.aload_n 0, 1)) rfl
theorem oX13_known_15 : OpS mX13_known 15 (o_aload 1 16) := s_aload_n (by decide +kernel : decode cX13_known 15 = .ok (.aload_n 1, 1)) rfl
theorem oX13_known_16 : OpS mX13_known 16 (o_iload 2 17) := s_iload_n (by decide +kernel : decode cX13_known 16 = .ok (.iload_n 2, 1)) rfl
theorem oX13_known_17 : OpS mX13_known 17 (o_iload 3 18) := s_iload_n (by decide +kernel : decode cX13_known 17 = .ok (.iload_n 3, 1)) rfl
theorem oX13_known_18 : OpS mX13_known 18 (o_callV mX13_find 13 3 21) := s_callV ceX13_find clsX13 (Or.inl wd_1395) wd_1397 selX13_find (by decide +kernel : decode cX13_known 18 = .ok (.invokevirtual 159, 3))
theorem oX13_known_21 : OpS mX13_known 21 (o_istore 4 5 23) := s_istore (by decide +kernel : decode cX13_known 21 = .ok (.istore 4, 2)) rfl
theorem oX13_known_23 : OpS mX13_known 23 (o_iload 4 25) := s_iload (by decide +kernel : decode cX13_known 23 = .ok (.iload 4, 2))
theorem oX13_known_25 : OpS mX13_known 25 (o_const (.int (-1)) 26) := s_iconst (by decide +kernel : decode cX13_known 25 = .ok (.iconst (-1), 1)) (by decide)
theorem oX13_known_26 : OpS mX13_known 26 (o_icmp (fun x y => x = y) 29 35) := s_icmp_ne (by decide +kernel : decode cX13_known 26 = .ok (.if_icmp .ne 9, 3)) (by decide)
theorem oX13_known_29 : OpS mX13_known 29 (o_aload 0 30) := s_aload_n (by decide +kernel : decode cX13_known 29 = .ok (.aload_n 0, 1)) rfl
theorem oX13_known_30 : OpS mX13_known 30 (o_const (.int 3) 31) := s_iconst (by decide +kernel : decode cX13_known 30 = .ok (.iconst 3, 1)) (by decide)
theorem oX13_known_31 : OpS mX13_known 31 (o_iload 3 32) := s_iload_n (by decide +kernel : decode cX13_known 31 = .ok (.iload_n 3, 1)) rfl
theorem oX13_known_32 : OpS mX13_known 32 (o_callV mX13_tell 13 2 35) := s_callV ceX13_tell clsX13 (Or.inl wd_1403) wd_1405 selX13_tell (by decide +kernel : decode cX13_known 32 = .ok (.invokevirtual 163, 3))
theorem oX13_known_35 : OpS mX13_known 35 (o_iload 4 37) := s_iload (by decide +kernel : decode cX13_known 35 = .ok (.iload 4, 2))
theorem oX13_known_37 : OpS mX13_known 37 (o_iret) := s_iret rfl (by decide +kernel : decode cX13_known 37 = .ok (.ireturn, 1))
theorem oX13_fresh_0 : OpS mX13_fresh 0 (o_aload 0 1) := s_aload_n (by decide +kernel : decode cX13_fresh 0 = .ok (.aload_n 0, 1)) rfl
theorem oX13_fresh_1 : OpS mX13_fresh 1 (o_callV mX13_name 13 0 4) := s_callV ceX13_name clsX13 (Or.inl wd_1387) wd_1389 selX13_name (by decide +kernel : decode cX13_fresh 1 = .ok (.invokevirtual 156, 3))
theorem oX13_fresh_4 : OpS mX13_fresh 4 (o_istore 4 5 6) := s_istore (by decide +kernel : decode cX13_fresh 4 = .ok (.istore 4, 2)) rfl
theorem oX13_fresh_6 : OpS mX13_fresh 6 (o_aload 0 7) := s_aload_n (by decide +kernel : decode cX13_fresh 6 = .ok (.aload_n 0, 1)) rfl
theorem oX13_fresh_7 : OpS mX13_fresh 7 (o_callV mX13_isOk 13 0 10) := s_callV ceX13_isOk clsX13 (Or.inl wd_1367) wd_1369 selX13_isOk (by decide +kernel : decode cX13_fresh 7 = .ok (.invokevirtual 133, 3))
theorem oX13_fresh_10 : OpS mX13_fresh 10 (o_if (fun x => x = 0) 13 15) := s_if_ne (by decide +kernel : decode cX13_fresh 10 = .ok (.ifCond .ne 5, 3)) (by decide)
theorem oX13_fresh_13 : OpS mX13_fresh 13 (o_const (.int 0) 14) := s_iconst (by decide +kernel : decode cX13_fresh 13 = .ok (.iconst 0, 1)) (by decide)
theorem oX13_fresh_14 : OpS mX13_fresh 14 (o_iret) := s_iret rfl (by decide +kernel : decode cX13_fresh 14 = .ok (.ireturn, 1))
theorem oX13_fresh_15 : OpS mX13_fresh 15 (o_aload 0 16) := s_aload_n (by decide +kernel : decode cX13_fresh 15 = .ok (.aload_n 0, 1)) rfl
theorem oX13_fresh_16 : OpS mX13_fresh 16 (o_aload 1 17) := s_aload_n (by decide +kernel : decode cX13_fresh 16 = .ok (.aload_n 1, 1)) rfl
theorem oX13_fresh_17 : OpS mX13_fresh 17 (o_iload 2 18) := s_iload_n (by decide +kernel : decode cX13_fresh 17 = .ok (.iload_n 2, 1)) rfl
theorem oX13_fresh_18 : OpS mX13_fresh 18 (o_iload 4 20) := s_iload (by decide +kernel : decode cX13_fresh 18 = .ok (.iload 4, 2))
theorem oX13_fresh_20 : OpS mX13_fresh 20 (o_callV mX13_find 13 3 23) := s_callV ceX13_find clsX13 (Or.inl wd_1395) wd_1397 selX13_find (by decide +kernel : decode cX13_fresh 20 = .ok (.invokevirtual 159, 3))
theorem oX13_fresh_23 : OpS mX13_fresh 23 (o_const (.int (-1)) 24) := s_iconst (by decide +kernel : decode cX13_fresh 23 = .ok (.iconst (-1), 1)) (by decide)
theorem oX13_fresh_24 : OpS mX13_fresh 24 (o_icmp (fun x y => x = y) 34 27) := s_icmp_eq (by decide +kernel : decode cX13_fresh 24 = .ok (.if_icmp .eq 10, 3)) (by decide)
theorem oX13_fresh_27 : OpS mX13_fresh 27 (o_aload 0 28) := s_aload_n (by decide +kernel : decode cX13_fresh 27 = .ok (.aload_n 0, 1)) rfl
theorem oX13_fresh_28 : OpS mX13_fresh 28 (o_const (.int 2) 29) := s_iconst (by decide +kernel : decode cX13_fresh 28 = .ok (.iconst 2, 1)) (by decide)
theorem oX13_fresh_29 : OpS mX13_fresh 29 (o_iload 4 31) := s_iload (by decide +kernel : decode cX13_fresh 29 = .ok (.iload 4, 2))
theorem oX13_fresh_31 : OpS mX13_fresh 31 (o_callV mX13_tell 13 2 34) := s_callV ceX13_tell clsX13 (Or.inl wd_1403) wd_1405 selX13_tell (by decide +kernel : decode cX13_fresh 31 = .ok (.invokevirtual 163, 3))
theorem oX13_fresh_34 : OpS mX13_fresh 34 (o_iload 2 35) := s_iload_n (by decide +kernel : decode cX13_fresh 34 = .ok (.iload_n 2, 1)) rfl
theorem oX13_fresh_35 : OpS mX13_fresh 35 (o_iload 3 36) := s_iload_n (by decide +kernel : decode cX13_fresh 35 = .ok (.iload_n 3, 1)) rfl
theorem oX13_fresh_36 : OpS mX13_fresh 36 (o_icmp (fun x y => x = y) 39 46) := s_icmp_ne (by decide +kernel : decode cX13_fresh 36 = .ok (.if_icmp .ne 10, 3)) (by decide)
theorem oX13_fresh_39 : OpS mX13_fresh 39 (o_aload 0 40) := s_aload_n (by decide +kernel : decode cX13_fresh 39 = .ok (.aload_n 0, 1)) rfl
theorem oX13_fresh_40 : OpS mX13_fresh 40 (o_const (.int 4) 41) := s_iconst (by decide +kernel : decode cX13_fresh 40 = .ok (.iconst 4, 1)) (by decide)
theorem oX13_fresh_41 : OpS mX13_fresh 41 (o_iload 4 43) := s_iload (by decide +kernel : decode cX13_fresh 41 = .ok (.iload 4, 2))
theorem oX13_fresh_43 : OpS mX13_fresh 43 (o_callV mX13_tell 13 2 46) := s_callV ceX13_tell clsX13 (Or.inl wd_1403) wd_1405 selX13_tell (by decide +kernel : decode cX13_fresh 43 = .ok (.invokevirtual 163, 3))
theorem oX13_fresh_46 : OpS mX13_fresh 46 (o_iload 4 48) := s_iload (by decide +kernel : decode cX13_fresh 46 = .ok (.iload 4, 2))
theorem oX13_fresh_48 : OpS mX13_fresh 48 (o_iret) := s_iret rfl (by decide +kernel : decode cX13_fresh 48 = .ok (.ireturn, 1))
theorem oX13_number_0 : OpS mX13_number 0 (o_aload 0 1) := s_aload_n (by decide +kernel : decode cX13_number 0 = .ok (.aload_n 0, 1)) rfl
theorem oX13_number_1 : OpS mX13_number 1 (o_callV mX13_isOk 13 0 4) := s_callV ceX13_isOk clsX13 (Or.inl wd_1367) wd_1369 selX13_isOk (by decide +kernel : decode cX13_number 1 = .ok (.invokevirtual 133, 3))
theorem oX13_number_4 : OpS mX13_number 4 (o_if (fun x => x = 0) 20 7) := s_if_eq (by decide +kernel : decode cX13_number 4 = .ok (.ifCond .eq 16, 3)) (by decide)
theorem oX13_number_7 : OpS mX13_number 7 (o_aload 0 8) := s_aload_n (by decide +kernel : decode cX13_number 7 = .ok (.aload_n 0, 1)) rfl
theorem oX13_number_8 : OpS mX13_number 8 (o_getP 13 4 11) := s_getP (k := 4) clsX13 (by decide) rfl (Or.inl wd_1248) (by decide +kernel : decode cX13_number 8 = .ok (.getfield 36, 3)) rfl
theorem oX13_number_11 : OpS mX13_number 11 (o_aload 0 12) := s_aload_n (by decide +kernel : decode cX13_number 11 = .ok (.aload_n 0, 1)) rfl
theorem oX13_number_12 : OpS mX13_number 12 (o_getI 13 12 15) := s_getI (k := 12) clsX13 (by decide) rfl (Or.inl wd_1256) (by decide +kernel : decode cX13_number 12 = .ok (.getfield 130, 3)) rfl
theorem oX13_number_15 : OpS mX13_number 15 (o_iald 16) := s_iald (by decide +kernel : decode cX13_number 15 = .ok (.iaload, 1))
theorem oX13_number_16 : OpS mX13_number 16 (o_const (.int 3) 17) := s_iconst (by decide +kernel : decode cX13_number 16 = .ok (.iconst 3, 1)) (by decide)
theorem oX13_number_17 : OpS mX13_number 17 (o_icmp (fun x y => x = y) 26 20) := s_icmp_eq (by decide +kernel : decode cX13_number 17 = .ok (.if_icmp .eq 9, 3)) (by decide)
theorem oX13_number_20 : OpS mX13_number 20 (o_aload 0 21) := s_aload_n (by decide +kernel : decode cX13_number 20 = .ok (.aload_n 0, 1)) rfl
theorem oX13_number_21 : OpS mX13_number 21 (o_callV mX13_fail 13 0 24) := s_callV ceX13_fail clsX13 (Or.inl wd_1391) wd_1393 selX13_fail (by decide +kernel : decode cX13_number 21 = .ok (.invokevirtual 141, 3))
theorem oX13_number_24 : OpS mX13_number 24 (o_const (.int 0) 25) := s_iconst (by decide +kernel : decode cX13_number 24 = .ok (.iconst 0, 1)) (by decide)
theorem oX13_number_25 : OpS mX13_number 25 (o_iret) := s_iret rfl (by decide +kernel : decode cX13_number 25 = .ok (.ireturn, 1))
theorem oX13_number_26 : OpS mX13_number 26 (o_aload 0 27) := s_aload_n (by decide +kernel : decode cX13_number 26 = .ok (.aload_n 0, 1)) rfl
theorem oX13_number_27 : OpS mX13_number 27 (o_getP 13 5 30) := s_getP (k := 5) clsX13 (by decide) rfl (Or.inl wd_1249) (by decide +kernel : decode cX13_number 27 = .ok (.getfield 42, 3)) rfl
theorem oX13_number_30 : OpS mX13_number 30 (o_aload 0 31) := s_aload_n (by decide +kernel : decode cX13_number 30 = .ok (.aload_n 0, 1)) rfl
theorem oX13_number_31 : OpS mX13_number 31 (o_getI 13 12 34) := s_getI (k := 12) clsX13 (by decide) rfl (Or.inl wd_1256) (by decide +kernel : decode cX13_number 31 = .ok (.getfield 130, 3)) rfl
theorem oX13_number_34 : OpS mX13_number 34 (o_iald 35) := s_iald (by decide +kernel : decode cX13_number 34 = .ok (.iaload, 1))
theorem oX13_number_35 : OpS mX13_number 35 (o_iload 1 36) := s_iload_n (by decide +kernel : decode cX13_number 35 = .ok (.iload_n 1, 1)) rfl
theorem oX13_number_36 : OpS mX13_number 36 (o_iload 2 37) := s_iload_n (by decide +kernel : decode cX13_number 36 = .ok (.iload_n 2, 1)) rfl
theorem oX13_number_37 : OpS mX13_number 37 (o_callS mX13_isIn 3 40) := s_callS ceX13_isIn (Or.inl wd_1162) wd_1163 (by decide +kernel : decode cX13_number 37 = .ok (.invokestatic 22, 3))
theorem oX13_number_40 : OpS mX13_number 40 (o_if (fun x => x = 0) 43 52) := s_if_ne (by decide +kernel : decode cX13_number 40 = .ok (.ifCond .ne 12, 3)) (by decide)
theorem oX13_number_43 : OpS mX13_number 43 (o_aload 0 44) := s_aload_n (by decide +kernel : decode cX13_number 43 = .ok (.aload_n 0, 1)) rfl
theorem oX13_number_44 : OpS mX13_number 44 (o_const (.int 5) 45) := s_iconst (by decide +kernel : decode cX13_number 44 = .ok (.iconst 5, 1)) (by decide)
theorem oX13_number_45 : OpS mX13_number 45 (o_aload 0 46) := s_aload_n (by decide +kernel : decode cX13_number 45 = .ok (.aload_n 0, 1)) rfl
theorem oX13_number_46 : OpS mX13_number 46 (o_getI 13 12 49) := s_getI (k := 12) clsX13 (by decide) rfl (Or.inl wd_1256) (by decide +kernel : decode cX13_number 46 = .ok (.getfield 130, 3)) rfl
theorem oX13_number_49 : OpS mX13_number 49 (o_callV mX13_tell 13 2 52) := s_callV ceX13_tell clsX13 (Or.inl wd_1403) wd_1405 selX13_tell (by decide +kernel : decode cX13_number 49 = .ok (.invokevirtual 163, 3))
theorem oX13_number_52 : OpS mX13_number 52 (o_aload 0 53) := s_aload_n (by decide +kernel : decode cX13_number 52 = .ok (.aload_n 0, 1)) rfl
theorem oX13_number_53 : OpS mX13_number 53 (o_dup 54) := s_dup (by decide +kernel : decode cX13_number 53 = .ok (.dup, 1))
theorem oX13_number_54 : OpS mX13_number 54 (o_getI 13 12 57) := s_getI (k := 12) clsX13 (by decide) rfl (Or.inl wd_1256) (by decide +kernel : decode cX13_number 54 = .ok (.getfield 130, 3)) rfl
theorem oX13_number_57 : OpS mX13_number 57 (o_const (.int 1) 58) := s_iconst (by decide +kernel : decode cX13_number 57 = .ok (.iconst 1, 1)) (by decide)
theorem oX13_number_58 : OpS mX13_number 58 (o_ibin (fun x y => x + y) 59) := s_iadd (by decide +kernel : decode cX13_number 58 = .ok (.iadd, 1))
theorem oX13_number_59 : OpS mX13_number 59 (o_putI 13 12 62) := s_putI (k := 12) clsX13 (by decide) rfl (Or.inl ⟨wd_1256, Or.inl rfl⟩) (by decide +kernel : decode cX13_number 59 = .ok (.putfield 130, 3)) rfl rfl
theorem oX13_number_62 : OpS mX13_number 62 (o_aload 0 63) := s_aload_n (by decide +kernel : decode cX13_number 62 = .ok (.aload_n 0, 1)) rfl
theorem oX13_number_63 : OpS mX13_number 63 (o_getP 13 5 66) := s_getP (k := 5) clsX13 (by decide) rfl (Or.inl wd_1249) (by decide +kernel : decode cX13_number 63 = .ok (.getfield 42, 3)) rfl
theorem oX13_number_66 : OpS mX13_number 66 (o_aload 0 67) := s_aload_n (by decide +kernel : decode cX13_number 66 = .ok (.aload_n 0, 1)) rfl
theorem oX13_number_67 : OpS mX13_number 67 (o_getI 13 12 70) := s_getI (k := 12) clsX13 (by decide) rfl (Or.inl wd_1256) (by decide +kernel : decode cX13_number 67 = .ok (.getfield 130, 3)) rfl
theorem oX13_number_70 : OpS mX13_number 70 (o_const (.int 1) 71) := s_iconst (by decide +kernel : decode cX13_number 70 = .ok (.iconst 1, 1)) (by decide)
theorem oX13_number_71 : OpS mX13_number 71 (o_ibin (fun x y => x - y) 72) := s_isub (by decide +kernel : decode cX13_number 71 = .ok (.isub, 1))
theorem oX13_number_72 : OpS mX13_number 72 (o_iald 73) := s_iald (by decide +kernel : decode cX13_number 72 = .ok (.iaload, 1))
theorem oX13_number_73 : OpS mX13_number 73 (o_iret) := s_iret rfl (by decide +kernel : decode cX13_number 73 = .ok (.ireturn, 1))
theorem oX13_sum_0 : OpS mX13_sum 0 (o_aload 0 1) := s_aload_n (by decide +kernel : decode cX13_sum 0 = .ok (.aload_n 0, 1)) rfl
theorem oX13_sum_1 : OpS mX13_sum 1 (o_callV mX13_product 13 0 4) := s_callV ceX13_product clsX13 (Or.inl wd_1440) wd_1442 selX13_product (by decide +kernel : decode cX13_sum 1 = .ok (.invokevirtual 166, 3))
theorem oX13_sum_4 : OpS mX13_sum 4 (o_istore 1 3 5) := s_istore_n (by decide +kernel : decode cX13_sum 4 = .ok (.istore_n 1, 1)) rfl rfl
theorem oX13_sum_5 : OpS mX13_sum 5 (o_aload 0 6) := s_aload_n (by decide +kernel : decode cX13_sum 5 = .ok (.aload_n 0, 1)) rfl
theorem oX13_sum_6 : OpS mX13_sum 6 (o_const (.int 4) 7) := s_iconst (by decide +kernel : decode cX13_sum 6 = .ok (.iconst 4, 1)) (by decide)
theorem oX13_sum_7 : OpS mX13_sum 7 (o_const (.int 43) 9) := s_bipush (by decide +kernel : decode cX13_sum 7 = .ok (.bipush 43, 2)) (by decide)
theorem oX13_sum_9 : OpS mX13_sum 9 (o_callV mX13_is 13 2 12) := s_callV ceX13_is clsX13 (Or.inl wd_1375) wd_1377 selX13_is (by decide +kernel : decode cX13_sum 9 = .ok (.invokevirtual 137, 3))
theorem oX13_sum_12 : OpS mX13_sum 12 (o_if (fun x => x = 0) 15 25) := s_if_ne (by decide +kernel : decode cX13_sum 12 = .ok (.ifCond .ne 13, 3)) (by decide)
theorem oX13_sum_15 : OpS mX13_sum 15 (o_aload 0 16) := s_aload_n (by decide +kernel : decode cX13_sum 15 = .ok (.aload_n 0, 1)) rfl
theorem oX13_sum_16 : OpS mX13_sum 16 (o_const (.int 4) 17) := s_iconst (by decide +kernel : decode cX13_sum 16 = .ok (.iconst 4, 1)) (by decide)
theorem oX13_sum_17 : OpS mX13_sum 17 (o_const (.int 45) 19) := s_bipush (by decide +kernel : decode cX13_sum 17 = .ok (.bipush 45, 2)) (by decide)
theorem oX13_sum_19 : OpS mX13_sum 19 (o_callV mX13_is 13 2 22) := s_callV ceX13_is clsX13 (Or.inl wd_1375) wd_1377 selX13_is (by decide +kernel : decode cX13_sum 19 = .ok (.invokevirtual 137, 3))
theorem oX13_sum_22 : OpS mX13_sum 22 (o_if (fun x => x = 0) 62 25) := s_if_eq (by decide +kernel : decode cX13_sum 22 = .ok (.ifCond .eq 40, 3)) (by decide)
theorem oX13_sum_25 : OpS mX13_sum 25 (o_aload 0 26) := s_aload_n (by decide +kernel : decode cX13_sum 25 = .ok (.aload_n 0, 1)) rfl
theorem oX13_sum_26 : OpS mX13_sum 26 (o_getP 13 5 29) := s_getP (k := 5) clsX13 (by decide) rfl (Or.inl wd_1249) (by decide +kernel : decode cX13_sum 26 = .ok (.getfield 42, 3)) rfl
theorem oX13_sum_29 : OpS mX13_sum 29 (o_aload 0 30) := s_aload_n (by decide +kernel : decode cX13_sum 29 = .ok (.aload_n 0, 1)) rfl
theorem oX13_sum_30 : OpS mX13_sum 30 (o_getI 13 12 33) := s_getI (k := 12) clsX13 (by decide) rfl (Or.inl wd_1256) (by decide +kernel : decode cX13_sum 30 = .ok (.getfield 130, 3)) rfl
theorem oX13_sum_33 : OpS mX13_sum 33 (o_iald 34) := s_iald (by decide +kernel : decode cX13_sum 33 = .ok (.iaload, 1))
theorem oX13_sum_34 : OpS mX13_sum 34 (o_istore 2 3 35) := s_istore_n (by decide +kernel : decode cX13_sum 34 = .ok (.istore_n 2, 1)) rfl rfl
theorem oX13_sum_35 : OpS mX13_sum 35 (o_aload 0 36) := s_aload_n (by decide +kernel : decode cX13_sum 35 = .ok (.aload_n 0, 1)) rfl
theorem oX13_sum_36 : OpS mX13_sum 36 (o_dup 37) := s_dup (by decide +kernel : decode cX13_sum 36 = .ok (.dup, 1))
theorem oX13_sum_37 : OpS mX13_sum 37 (o_getI 13 12 40) := s_getI (k := 12) clsX13 (by decide) rfl (Or.inl wd_1256) (by decide +kernel : decode cX13_sum 37 = .ok (.getfield 130, 3)) rfl
theorem oX13_sum_40 : OpS mX13_sum 40 (o_const (.int 1) 41) := s_iconst (by decide +kernel : decode cX13_sum 40 = .ok (.iconst 1, 1)) (by decide)
theorem oX13_sum_41 : OpS mX13_sum 41 (o_ibin (fun x y => x + y) 42) := s_iadd (by decide +kernel : decode cX13_sum 41 = .ok (.iadd, 1))
theorem oX13_sum_42 : OpS mX13_sum 42 (o_putI 13 12 45) := s_putI (k := 12) clsX13 (by decide) rfl (Or.inl ⟨wd_1256, Or.inl rfl⟩) (by decide +kernel : decode cX13_sum 42 = .ok (.putfield 130, 3)) rfl rfl
theorem oX13_sum_45 : OpS mX13_sum 45 (o_aload 0 46) := s_aload_n (by decide +kernel : decode cX13_sum 45 = .ok (.aload_n 0, 1)) rfl
theorem oX13_sum_46 : OpS mX13_sum 46 (o_getP 13 9 49) := s_getP (k := 9) clsX13 (by decide) rfl (Or.inl wd_1253) (by decide +kernel : decode cX13_sum 46 = .ok (.getfield 91, 3)) rfl
theorem oX13_sum_49 : OpS mX13_sum 49 (o_iload 2 50) := s_iload_n (by decide +kernel : decode cX13_sum 49 = .ok (.iload_n 2, 1)) rfl
theorem oX13_sum_50 : OpS mX13_sum 50 (o_iload 1 51) := s_iload_n (by decide +kernel : decode cX13_sum 50 = .ok (.iload_n 1, 1)) rfl
theorem oX13_sum_51 : OpS mX13_sum 51 (o_aload 0 52) := s_aload_n (by decide +kernel : decode cX13_sum 51 = .ok (.aload_n 0, 1)) rfl
theorem oX13_sum_52 : OpS mX13_sum 52 (o_callV mX13_product 13 0 55) := s_callV ceX13_product clsX13 (Or.inl wd_1440) wd_1442 selX13_product (by decide +kernel : decode cX13_sum 52 = .ok (.invokevirtual 166, 3))
theorem oX13_sum_55 : OpS mX13_sum 55 (o_callV mX12_node 12 3 58) := s_callV ceX12_node clsX12 (Or.inl wd_1449) wd_1450 selX12_node (by decide +kernel : decode cX13_sum 55 = .ok (.invokevirtual 169, 3))
theorem oX13_sum_58 : OpS mX13_sum 58 (o_istore 1 3 59) := s_istore_n (by decide +kernel : decode cX13_sum 58 = .ok (.istore_n 1, 1)) rfl rfl
theorem oX13_sum_59 : OpS mX13_sum 59 (o_goto 5) := s_goto (by decide +kernel : decode cX13_sum 59 = .ok (.goto (-54), 3)) (by decide)
theorem oX13_sum_62 : OpS mX13_sum 62 (o_iload 1 63) := s_iload_n (by decide +kernel : decode cX13_sum 62 = .ok (.iload_n 1, 1)) rfl
theorem oX13_sum_63 : OpS mX13_sum 63 (o_iret) := s_iret rfl (by decide +kernel : decode cX13_sum 63 = .ok (.ireturn, 1))
theorem oX13_product_0 : OpS mX13_product 0 (o_aload 0 1) := s_aload_n (by decide +kernel : decode cX13_product 0 = .ok (.aload_n 0, 1)) rfl
theorem oX13_product_1 : OpS mX13_product 1 (o_callV mX13_one 13 0 4) := s_callV ceX13_one clsX13 (Or.inl wd_1444) wd_1446 selX13_one (by decide +kernel : decode cX13_product 1 = .ok (.invokevirtual 173, 3))
theorem oX13_product_4 : OpS mX13_product 4 (o_istore 1 3 5) := s_istore_n (by decide +kernel : decode cX13_product 4 = .ok (.istore_n 1, 1)) rfl rfl
theorem oX13_product_5 : OpS mX13_product 5 (o_aload 0 6) := s_aload_n (by decide +kernel : decode cX13_product 5 = .ok (.aload_n 0, 1)) rfl
theorem oX13_product_6 : OpS mX13_product 6 (o_const (.int 4) 7) := s_iconst (by decide +kernel : decode cX13_product 6 = .ok (.iconst 4, 1)) (by decide)
theorem oX13_product_7 : OpS mX13_product 7 (o_const (.int 42) 9) := s_bipush (by decide +kernel : decode cX13_product 7 = .ok (.bipush 42, 2)) (by decide)
theorem oX13_product_9 : OpS mX13_product 9 (o_callV mX13_is 13 2 12) := s_callV ceX13_is clsX13 (Or.inl wd_1375) wd_1377 selX13_is (by decide +kernel : decode cX13_product 9 = .ok (.invokevirtual 137, 3))
theorem oX13_product_12 : OpS mX13_product 12 (o_if (fun x => x = 0) 15 25) := s_if_ne (by decide +kernel : decode cX13_product 12 = .ok (.ifCond .ne 13, 3)) (by decide)
theorem oX13_product_15 : OpS mX13_product 15 (o_aload 0 16) := s_aload_n (by decide +kernel : decode cX13_product 15 = .ok (.aload_n 0, 1)) rfl
theorem oX13_product_16 : OpS mX13_product 16 (o_const (.int 4) 17) := s_iconst (by decide +kernel : decode cX13_product 16 = .ok (.iconst 4, 1)) (by decide)
theorem oX13_product_17 : OpS mX13_product 17 (o_const (.int 47) 19) := s_bipush (by decide +kernel : decode cX13_product 17 = .ok (.bipush 47, 2)) (by decide)
theorem oX13_product_19 : OpS mX13_product 19 (o_callV mX13_is 13 2 22) := s_callV ceX13_is clsX13 (Or.inl wd_1375) wd_1377 selX13_is (by decide +kernel : decode cX13_product 19 = .ok (.invokevirtual 137, 3))
theorem oX13_product_22 : OpS mX13_product 22 (o_if (fun x => x = 0) 62 25) := s_if_eq (by decide +kernel : decode cX13_product 22 = .ok (.ifCond .eq 40, 3)) (by decide)
theorem oX13_product_25 : OpS mX13_product 25 (o_aload 0 26) := s_aload_n (by decide +kernel : decode cX13_product 25 = .ok (.aload_n 0, 1)) rfl
theorem oX13_product_26 : OpS mX13_product 26 (o_getP 13 5 29) := s_getP (k := 5) clsX13 (by decide) rfl (Or.inl wd_1249) (by decide +kernel : decode cX13_product 26 = .ok (.getfield 42, 3)) rfl
theorem oX13_product_29 : OpS mX13_product 29 (o_aload 0 30) := s_aload_n (by decide +kernel : decode cX13_product 29 = .ok (.aload_n 0, 1)) rfl
theorem oX13_product_30 : OpS mX13_product 30 (o_getI 13 12 33) := s_getI (k := 12) clsX13 (by decide) rfl (Or.inl wd_1256) (by decide +kernel : decode cX13_product 30 = .ok (.getfield 130, 3)) rfl
theorem oX13_product_33 : OpS mX13_product 33 (o_iald 34) := s_iald (by decide +kernel : decode cX13_product 33 = .ok (.iaload, 1))
theorem oX13_product_34 : OpS mX13_product 34 (o_istore 2 3 35) := s_istore_n (by decide +kernel : decode cX13_product 34 = .ok (.istore_n 2, 1)) rfl rfl
theorem oX13_product_35 : OpS mX13_product 35 (o_aload 0 36) := s_aload_n (by decide +kernel : decode cX13_product 35 = .ok (.aload_n 0, 1)) rfl
theorem oX13_product_36 : OpS mX13_product 36 (o_dup 37) := s_dup (by decide +kernel : decode cX13_product 36 = .ok (.dup, 1))
theorem oX13_product_37 : OpS mX13_product 37 (o_getI 13 12 40) := s_getI (k := 12) clsX13 (by decide) rfl (Or.inl wd_1256) (by decide +kernel : decode cX13_product 37 = .ok (.getfield 130, 3)) rfl
theorem oX13_product_40 : OpS mX13_product 40 (o_const (.int 1) 41) := s_iconst (by decide +kernel : decode cX13_product 40 = .ok (.iconst 1, 1)) (by decide)
theorem oX13_product_41 : OpS mX13_product 41 (o_ibin (fun x y => x + y) 42) := s_iadd (by decide +kernel : decode cX13_product 41 = .ok (.iadd, 1))
theorem oX13_product_42 : OpS mX13_product 42 (o_putI 13 12 45) := s_putI (k := 12) clsX13 (by decide) rfl (Or.inl ⟨wd_1256, Or.inl rfl⟩) (by decide +kernel : decode cX13_product 42 = .ok (.putfield 130, 3)) rfl rfl
theorem oX13_product_45 : OpS mX13_product 45 (o_aload 0 46) := s_aload_n (by decide +kernel : decode cX13_product 45 = .ok (.aload_n 0, 1)) rfl
theorem oX13_product_46 : OpS mX13_product 46 (o_getP 13 9 49) := s_getP (k := 9) clsX13 (by decide) rfl (Or.inl wd_1253) (by decide +kernel : decode cX13_product 46 = .ok (.getfield 91, 3)) rfl
theorem oX13_product_49 : OpS mX13_product 49 (o_iload 2 50) := s_iload_n (by decide +kernel : decode cX13_product 49 = .ok (.iload_n 2, 1)) rfl
theorem oX13_product_50 : OpS mX13_product 50 (o_iload 1 51) := s_iload_n (by decide +kernel : decode cX13_product 50 = .ok (.iload_n 1, 1)) rfl
theorem oX13_product_51 : OpS mX13_product 51 (o_aload 0 52) := s_aload_n (by decide +kernel : decode cX13_product 51 = .ok (.aload_n 0, 1)) rfl
theorem oX13_product_52 : OpS mX13_product 52 (o_callV mX13_one 13 0 55) := s_callV ceX13_one clsX13 (Or.inl wd_1444) wd_1446 selX13_one (by decide +kernel : decode cX13_product 52 = .ok (.invokevirtual 173, 3))
theorem oX13_product_55 : OpS mX13_product 55 (o_callV mX12_node 12 3 58) := s_callV ceX12_node clsX12 (Or.inl wd_1449) wd_1450 selX12_node (by decide +kernel : decode cX13_product 55 = .ok (.invokevirtual 169, 3))
theorem oX13_product_58 : OpS mX13_product 58 (o_istore 1 3 59) := s_istore_n (by decide +kernel : decode cX13_product 58 = .ok (.istore_n 1, 1)) rfl rfl
theorem oX13_product_59 : OpS mX13_product 59 (o_goto 5) := s_goto (by decide +kernel : decode cX13_product 59 = .ok (.goto (-54), 3)) (by decide)
theorem oX13_product_62 : OpS mX13_product 62 (o_iload 1 63) := s_iload_n (by decide +kernel : decode cX13_product 62 = .ok (.iload_n 1, 1)) rfl
theorem oX13_product_63 : OpS mX13_product 63 (o_iret) := s_iret rfl (by decide +kernel : decode cX13_product 63 = .ok (.ireturn, 1))
theorem oX13_one_0 : OpS mX13_one 0 (o_aload 0 1) := s_aload_n (by decide +kernel : decode cX13_one 0 = .ok (.aload_n 0, 1)) rfl
theorem oX13_one_1 : OpS mX13_one 1 (o_callV mX13_isOk 13 0 4) := s_callV ceX13_isOk clsX13 (Or.inl wd_1367) wd_1369 selX13_isOk (by decide +kernel : decode cX13_one 1 = .ok (.invokevirtual 133, 3))
theorem oX13_one_4 : OpS mX13_one 4 (o_if (fun x => x = 0) 7 9) := s_if_ne (by decide +kernel : decode cX13_one 4 = .ok (.ifCond .ne 5, 3)) (by decide)
theorem oX13_one_7 : OpS mX13_one 7 (o_const (.int 0) 8) := s_iconst (by decide +kernel : decode cX13_one 7 = .ok (.iconst 0, 1)) (by decide)
theorem oX13_one_8 : OpS mX13_one 8 (o_iret) := s_iret rfl (by decide +kernel : decode cX13_one 8 = .ok (.ireturn, 1))
theorem oX13_one_9 : OpS mX13_one 9 (o_aload 0 10) := s_aload_n (by decide +kernel : decode cX13_one 9 = .ok (.aload_n 0, 1)) rfl
theorem oX13_one_10 : OpS mX13_one 10 (o_getP 13 4 13) := s_getP (k := 4) clsX13 (by decide) rfl (Or.inl wd_1248) (by decide +kernel : decode cX13_one 10 = .ok (.getfield 36, 3)) rfl
theorem oX13_one_13 : OpS mX13_one 13 (o_aload 0 14) := s_aload_n (by decide +kernel : decode cX13_one 13 = .ok (.aload_n 0, 1)) rfl
theorem oX13_one_14 : OpS mX13_one 14 (o_getI 13 12 17) := s_getI (k := 12) clsX13 (by decide) rfl (Or.inl wd_1256) (by decide +kernel : decode cX13_one 14 = .ok (.getfield 130, 3)) rfl
theorem oX13_one_17 : OpS mX13_one 17 (o_iald 18) := s_iald (by decide +kernel : decode cX13_one 17 = .ok (.iaload, 1))
theorem oX13_one_18 : OpS mX13_one 18 (o_const (.int 3) 19) := s_iconst (by decide +kernel : decode cX13_one 18 = .ok (.iconst 3, 1)) (by decide)
theorem oX13_one_19 : OpS mX13_one 19 (o_icmp (fun x y => x = y) 22 40) := s_icmp_ne (by decide +kernel : decode cX13_one 19 = .ok (.if_icmp .ne 21, 3)) (by decide)
theorem oX13_one_22 : OpS mX13_one 22 (o_aload 0 23) := s_aload_n (by decide +kernel : decode cX13_one 22 = .ok (.aload_n 0, 1)) rfl
theorem oX13_one_23 : OpS mX13_one 23 (o_getP 13 9 26) := s_getP (k := 9) clsX13 (by decide) rfl (Or.inl wd_1253) (by decide +kernel : decode cX13_one 23 = .ok (.getfield 91, 3)) rfl
theorem oX13_one_26 : OpS mX13_one 26 (o_const (.int 30) 28) := s_bipush (by decide +kernel : decode cX13_one 26 = .ok (.bipush 30, 2)) (by decide)
theorem oX13_one_28 : OpS mX13_one 28 (o_aload 0 29) := s_aload_n (by decide +kernel : decode cX13_one 28 = .ok (.aload_n 0, 1)) rfl
theorem oX13_one_29 : OpS mX13_one 29 (o_const (.int 0) 30) := s_iconst (by decide +kernel : decode cX13_one 29 = .ok (.iconst 0, 1)) (by decide)
theorem oX13_one_30 : OpS mX13_one 30 (o_const (.int 999999) 32) := s_ldc wd_1448 (by decide +kernel : decode cX13_one 30 = .ok (.ldc 176, 2))
theorem oX13_one_32 : OpS mX13_one 32 (o_callV mX13_number 13 2 35) := s_callV ceX13_number clsX13 (Or.inl wd_1415) wd_1417 selX13_number (by decide +kernel : decode cX13_one 32 = .ok (.invokevirtual 177, 3))
theorem oX13_one_35 : OpS mX13_one 35 (o_const (.int 0) 36) := s_iconst (by decide +kernel : decode cX13_one 35 = .ok (.iconst 0, 1)) (by decide)
theorem oX13_one_36 : OpS mX13_one 36 (o_callV mX12_node 12 3 39) := s_callV ceX12_node clsX12 (Or.inl wd_1449) wd_1450 selX12_node (by decide +kernel : decode cX13_one 36 = .ok (.invokevirtual 169, 3))
theorem oX13_one_39 : OpS mX13_one 39 (o_iret) := s_iret rfl (by decide +kernel : decode cX13_one 39 = .ok (.ireturn, 1))
theorem oX13_one_40 : OpS mX13_one 40 (o_aload 0 41) := s_aload_n (by decide +kernel : decode cX13_one 40 = .ok (.aload_n 0, 1)) rfl
theorem oX13_one_41 : OpS mX13_one 41 (o_const (.int 2) 42) := s_iconst (by decide +kernel : decode cX13_one 41 = .ok (.iconst 2, 1)) (by decide)
theorem oX13_one_42 : OpS mX13_one 42 (o_const (.int 8) 44) := s_bipush (by decide +kernel : decode cX13_one 42 = .ok (.bipush 8, 2)) (by decide)
theorem oX13_one_44 : OpS mX13_one 44 (o_callV mX13_is 13 2 47) := s_callV ceX13_is clsX13 (Or.inl wd_1375) wd_1377 selX13_is (by decide +kernel : decode cX13_one 44 = .ok (.invokevirtual 137, 3))
theorem oX13_one_47 : OpS mX13_one 47 (o_if (fun x => x = 0) 50 80) := s_if_ne (by decide +kernel : decode cX13_one 47 = .ok (.ifCond .ne 33, 3)) (by decide)
theorem oX13_one_50 : OpS mX13_one 50 (o_aload 0 51) := s_aload_n (by decide +kernel : decode cX13_one 50 = .ok (.aload_n 0, 1)) rfl
theorem oX13_one_51 : OpS mX13_one 51 (o_const (.int 2) 52) := s_iconst (by decide +kernel : decode cX13_one 51 = .ok (.iconst 2, 1)) (by decide)
theorem oX13_one_52 : OpS mX13_one 52 (o_const (.int 9) 54) := s_bipush (by decide +kernel : decode cX13_one 52 = .ok (.bipush 9, 2)) (by decide)
theorem oX13_one_54 : OpS mX13_one 54 (o_callV mX13_is 13 2 57) := s_callV ceX13_is clsX13 (Or.inl wd_1375) wd_1377 selX13_is (by decide +kernel : decode cX13_one 54 = .ok (.invokevirtual 137, 3))
theorem oX13_one_57 : OpS mX13_one 57 (o_if (fun x => x = 0) 60 80) := s_if_ne (by decide +kernel : decode cX13_one 57 = .ok (.ifCond .ne 23, 3)) (by decide)
theorem oX13_one_60 : OpS mX13_one 60 (o_aload 0 61) := s_aload_n (by decide +kernel : decode cX13_one 60 = .ok (.aload_n 0, 1)) rfl
theorem oX13_one_61 : OpS mX13_one 61 (o_const (.int 2) 62) := s_iconst (by decide +kernel : decode cX13_one 61 = .ok (.iconst 2, 1)) (by decide)
theorem oX13_one_62 : OpS mX13_one 62 (o_const (.int 10) 64) := s_bipush (by decide +kernel : decode cX13_one 62 = .ok (.bipush 10, 2)) (by decide)
theorem oX13_one_64 : OpS mX13_one 64 (o_callV mX13_is 13 2 67) := s_callV ceX13_is clsX13 (Or.inl wd_1375) wd_1377 selX13_is (by decide +kernel : decode cX13_one 64 = .ok (.invokevirtual 137, 3))
theorem oX13_one_67 : OpS mX13_one 67 (o_if (fun x => x = 0) 70 80) := s_if_ne (by decide +kernel : decode cX13_one 67 = .ok (.ifCond .ne 13, 3)) (by decide)
theorem oX13_one_70 : OpS mX13_one 70 (o_aload 0 71) := s_aload_n (by decide +kernel : decode cX13_one 70 = .ok (.aload_n 0, 1)) rfl
theorem oX13_one_71 : OpS mX13_one 71 (o_const (.int 2) 72) := s_iconst (by decide +kernel : decode cX13_one 71 = .ok (.iconst 2, 1)) (by decide)
theorem oX13_one_72 : OpS mX13_one 72 (o_const (.int 11) 74) := s_bipush (by decide +kernel : decode cX13_one 72 = .ok (.bipush 11, 2)) (by decide)
theorem oX13_one_74 : OpS mX13_one 74 (o_callV mX13_is 13 2 77) := s_callV ceX13_is clsX13 (Or.inl wd_1375) wd_1377 selX13_is (by decide +kernel : decode cX13_one 74 = .ok (.invokevirtual 137, 3))
theorem oX13_one_77 : OpS mX13_one 77 (o_if (fun x => x = 0) 111 80) := s_if_eq (by decide +kernel : decode cX13_one 77 = .ok (.ifCond .eq 34, 3)) (by decide)
theorem oX13_one_80 : OpS mX13_one 80 (o_aload 0 81) := s_aload_n (by decide +kernel : decode cX13_one 80 = .ok (.aload_n 0, 1)) rfl
theorem oX13_one_81 : OpS mX13_one 81 (o_dup 82) := s_dup (by decide +kernel : decode cX13_one 81 = .ok (.dup, 1))
theorem oX13_one_82 : OpS mX13_one 82 (o_getI 13 12 85) := s_getI (k := 12) clsX13 (by decide) rfl (Or.inl wd_1256) (by decide +kernel : decode cX13_one 82 = .ok (.getfield 130, 3)) rfl
theorem oX13_one_85 : OpS mX13_one 85 (o_const (.int 1) 86) := s_iconst (by decide +kernel : decode cX13_one 85 = .ok (.iconst 1, 1)) (by decide)
theorem oX13_one_86 : OpS mX13_one 86 (o_ibin (fun x y => x + y) 87) := s_iadd (by decide +kernel : decode cX13_one 86 = .ok (.iadd, 1))
theorem oX13_one_87 : OpS mX13_one 87 (o_putI 13 12 90) := s_putI (k := 12) clsX13 (by decide) rfl (Or.inl ⟨wd_1256, Or.inl rfl⟩) (by decide +kernel : decode cX13_one 87 = .ok (.putfield 130, 3)) rfl rfl
theorem oX13_one_90 : OpS mX13_one 90 (o_aload 0 91) := s_aload_n (by decide +kernel : decode cX13_one 90 = .ok (.aload_n 0, 1)) rfl
theorem oX13_one_91 : OpS mX13_one 91 (o_getP 13 9 94) := s_getP (k := 9) clsX13 (by decide) rfl (Or.inl wd_1253) (by decide +kernel : decode cX13_one 91 = .ok (.getfield 91, 3)) rfl
theorem oX13_one_94 : OpS mX13_one 94 (o_aload 0 95) := s_aload_n (by decide +kernel : decode cX13_one 94 = .ok (.aload_n 0, 1)) rfl
theorem oX13_one_95 : OpS mX13_one 95 (o_getP 13 5 98) := s_getP (k := 5) clsX13 (by decide) rfl (Or.inl wd_1249) (by decide +kernel : decode cX13_one 95 = .ok (.getfield 42, 3)) rfl
theorem oX13_one_98 : OpS mX13_one 98 (o_aload 0 99) := s_aload_n (by decide +kernel : decode cX13_one 98 = .ok (.aload_n 0, 1)) rfl
theorem oX13_one_99 : OpS mX13_one 99 (o_getI 13 12 102) := s_getI (k := 12) clsX13 (by decide) rfl (Or.inl wd_1256) (by decide +kernel : decode cX13_one 99 = .ok (.getfield 130, 3)) rfl
theorem oX13_one_102 : OpS mX13_one 102 (o_const (.int 1) 103) := s_iconst (by decide +kernel : decode cX13_one 102 = .ok (.iconst 1, 1)) (by decide)
theorem oX13_one_103 : OpS mX13_one 103 (o_ibin (fun x y => x - y) 104) := s_isub (by decide +kernel : decode cX13_one 103 = .ok (.isub, 1))
theorem oX13_one_104 : OpS mX13_one 104 (o_iald 105) := s_iald (by decide +kernel : decode cX13_one 104 = .ok (.iaload, 1))
theorem oX13_one_105 : OpS mX13_one 105 (o_const (.int 0) 106) := s_iconst (by decide +kernel : decode cX13_one 105 = .ok (.iconst 0, 1)) (by decide)
theorem oX13_one_106 : OpS mX13_one 106 (o_const (.int 0) 107) := s_iconst (by decide +kernel : decode cX13_one 106 = .ok (.iconst 0, 1)) (by decide)
theorem oX13_one_107 : OpS mX13_one 107 (o_callV mX12_node 12 3 110) := s_callV ceX12_node clsX12 (Or.inl wd_1449) wd_1450 selX12_node (by decide +kernel : decode cX13_one 107 = .ok (.invokevirtual 169, 3))
theorem oX13_one_110 : OpS mX13_one 110 (o_iret) := s_iret rfl (by decide +kernel : decode cX13_one 110 = .ok (.ireturn, 1))
theorem oX13_one_111 : OpS mX13_one 111 (o_aload 0 112) := s_aload_n (by decide +kernel : decode cX13_one 111 = .ok (.aload_n 0, 1)) rfl
theorem oX13_one_112 : OpS mX13_one 112 (o_const (.int 2) 113) := s_iconst (by decide +kernel : decode cX13_one 112 = .ok (.iconst 2, 1)) (by decide)
theorem oX13_one_113 : OpS mX13_one 113 (o_const (.int 2) 114) := s_iconst (by decide +kernel : decode cX13_one 113 = .ok (.iconst 2, 1)) (by decide)
theorem oX13_one_114 : OpS mX13_one 114 (o_callV mX13_is 13 2 117) := s_callV ceX13_is clsX13 (Or.inl wd_1375) wd_1377 selX13_is (by decide +kernel : decode cX13_one 114 = .ok (.invokevirtual 137, 3))
theorem oX13_one_117 : OpS mX13_one 117 (o_if (fun x => x = 0) 155 120) := s_if_eq (by decide +kernel : decode cX13_one 117 = .ok (.ifCond .eq 38, 3)) (by decide)
theorem oX13_one_120 : OpS mX13_one 120 (o_aload 0 121) := s_aload_n (by decide +kernel : decode cX13_one 120 = .ok (.aload_n 0, 1)) rfl
theorem oX13_one_121 : OpS mX13_one 121 (o_dup 122) := s_dup (by decide +kernel : decode cX13_one 121 = .ok (.dup, 1))
theorem oX13_one_122 : OpS mX13_one 122 (o_getI 13 12 125) := s_getI (k := 12) clsX13 (by decide) rfl (Or.inl wd_1256) (by decide +kernel : decode cX13_one 122 = .ok (.getfield 130, 3)) rfl
theorem oX13_one_125 : OpS mX13_one 125 (o_const (.int 1) 126) := s_iconst (by decide +kernel : decode cX13_one 125 = .ok (.iconst 1, 1)) (by decide)
theorem oX13_one_126 : OpS mX13_one 126 (o_ibin (fun x y => x + y) 127) := s_iadd (by decide +kernel : decode cX13_one 126 = .ok (.iadd, 1))
theorem oX13_one_127 : OpS mX13_one 127 (o_putI 13 12 130) := s_putI (k := 12) clsX13 (by decide) rfl (Or.inl ⟨wd_1256, Or.inl rfl⟩) (by decide +kernel : decode cX13_one 127 = .ok (.putfield 130, 3)) rfl rfl
theorem oX13_one_130 : OpS mX13_one 130 (o_aload 0 131) := s_aload_n (by decide +kernel : decode cX13_one 130 = .ok (.aload_n 0, 1)) rfl
theorem oX13_one_131 : OpS mX13_one 131 (o_getP 13 9 134) := s_getP (k := 9) clsX13 (by decide) rfl (Or.inl wd_1253) (by decide +kernel : decode cX13_one 131 = .ok (.getfield 91, 3)) rfl
theorem oX13_one_134 : OpS mX13_one 134 (o_const (.int 2) 135) := s_iconst (by decide +kernel : decode cX13_one 134 = .ok (.iconst 2, 1)) (by decide)
theorem oX13_one_135 : OpS mX13_one 135 (o_aload 0 136) := s_aload_n (by decide +kernel : decode cX13_one 135 = .ok (.aload_n 0, 1)) rfl
theorem oX13_one_136 : OpS mX13_one 136 (o_aload 0 137) := s_aload_n (by decide +kernel : decode cX13_one 136 = .ok (.aload_n 0, 1)) rfl
theorem oX13_one_137 : OpS mX13_one 137 (o_getP 13 11 140) := s_getP (k := 11) clsX13 (by decide) rfl (Or.inl wd_1255) (by decide +kernel : decode cX13_one 137 = .ok (.getfield 97, 3)) rfl
theorem oX13_one_140 : OpS mX13_one 140 (o_aload 0 141) := s_aload_n (by decide +kernel : decode cX13_one 140 = .ok (.aload_n 0, 1)) rfl
theorem oX13_one_141 : OpS mX13_one 141 (o_getP 13 9 144) := s_getP (k := 9) clsX13 (by decide) rfl (Or.inl wd_1253) (by decide +kernel : decode cX13_one 141 = .ok (.getfield 91, 3)) rfl
theorem oX13_one_144 : OpS mX13_one 144 (o_getI 12 1 147) := s_getI (k := 1) clsX12 (by decide) rfl (Or.inr ⟨_, wd_1179⟩) (by decide +kernel : decode cX13_one 144 = .ok (.getfield 181, 3)) rfl
theorem oX13_one_147 : OpS mX13_one 147 (o_callV mX13_known 13 2 150) := s_callV ceX13_known clsX13 (Or.inl wd_1419) wd_1421 selX13_known (by decide +kernel : decode cX13_one 147 = .ok (.invokevirtual 184, 3))
theorem oX13_one_150 : OpS mX13_one 150 (o_const (.int 0) 151) := s_iconst (by decide +kernel : decode cX13_one 150 = .ok (.iconst 0, 1)) (by decide)
theorem oX13_one_151 : OpS mX13_one 151 (o_callV mX12_node 12 3 154) := s_callV ceX12_node clsX12 (Or.inl wd_1449) wd_1450 selX12_node (by decide +kernel : decode cX13_one 151 = .ok (.invokevirtual 169, 3))
theorem oX13_one_154 : OpS mX13_one 154 (o_iret) := s_iret rfl (by decide +kernel : decode cX13_one 154 = .ok (.ireturn, 1))
theorem oX13_one_155 : OpS mX13_one 155 (o_aload 0 156) := s_aload_n (by decide +kernel : decode cX13_one 155 = .ok (.aload_n 0, 1)) rfl
theorem oX13_one_156 : OpS mX13_one 156 (o_const (.int 4) 157) := s_iconst (by decide +kernel : decode cX13_one 156 = .ok (.iconst 4, 1)) (by decide)
theorem oX13_one_157 : OpS mX13_one 157 (o_const (.int 45) 159) := s_bipush (by decide +kernel : decode cX13_one 157 = .ok (.bipush 45, 2)) (by decide)
theorem oX13_one_159 : OpS mX13_one 159 (o_callV mX13_is 13 2 162) := s_callV ceX13_is clsX13 (Or.inl wd_1375) wd_1377 selX13_is (by decide +kernel : decode cX13_one 159 = .ok (.invokevirtual 137, 3))
theorem oX13_one_162 : OpS mX13_one 162 (o_if (fun x => x = 0) 206 165) := s_if_eq (by decide +kernel : decode cX13_one 162 = .ok (.ifCond .eq 44, 3)) (by decide)
theorem oX13_one_165 : OpS mX13_one 165 (o_aload 0 166) := s_aload_n (by decide +kernel : decode cX13_one 165 = .ok (.aload_n 0, 1)) rfl
theorem oX13_one_166 : OpS mX13_one 166 (o_callV mX13_deeper 13 0 169) := s_callV ceX13_deeper clsX13 (Or.inl wd_1453) wd_1455 selX13_deeper (by decide +kernel : decode cX13_one 166 = .ok (.invokevirtual 188, 3))
theorem oX13_one_169 : OpS mX13_one 169 (o_aload 0 170) := s_aload_n (by decide +kernel : decode cX13_one 169 = .ok (.aload_n 0, 1)) rfl
theorem oX13_one_170 : OpS mX13_one 170 (o_dup 171) := s_dup (by decide +kernel : decode cX13_one 170 = .ok (.dup, 1))
theorem oX13_one_171 : OpS mX13_one 171 (o_getI 13 12 174) := s_getI (k := 12) clsX13 (by decide) rfl (Or.inl wd_1256) (by decide +kernel : decode cX13_one 171 = .ok (.getfield 130, 3)) rfl
theorem oX13_one_174 : OpS mX13_one 174 (o_const (.int 1) 175) := s_iconst (by decide +kernel : decode cX13_one 174 = .ok (.iconst 1, 1)) (by decide)
theorem oX13_one_175 : OpS mX13_one 175 (o_ibin (fun x y => x + y) 176) := s_iadd (by decide +kernel : decode cX13_one 175 = .ok (.iadd, 1))
theorem oX13_one_176 : OpS mX13_one 176 (o_putI 13 12 179) := s_putI (k := 12) clsX13 (by decide) rfl (Or.inl ⟨wd_1256, Or.inl rfl⟩) (by decide +kernel : decode cX13_one 176 = .ok (.putfield 130, 3)) rfl rfl
theorem oX13_one_179 : OpS mX13_one 179 (o_aload 0 180) := s_aload_n (by decide +kernel : decode cX13_one 179 = .ok (.aload_n 0, 1)) rfl
theorem oX13_one_180 : OpS mX13_one 180 (o_getP 13 9 183) := s_getP (k := 9) clsX13 (by decide) rfl (Or.inl wd_1253) (by decide +kernel : decode cX13_one 180 = .ok (.getfield 91, 3)) rfl
theorem oX13_one_183 : OpS mX13_one 183 (o_const (.int 110) 185) := s_bipush (by decide +kernel : decode cX13_one 183 = .ok (.bipush 110, 2)) (by decide)
theorem oX13_one_185 : OpS mX13_one 185 (o_aload 0 186) := s_aload_n (by decide +kernel : decode cX13_one 185 = .ok (.aload_n 0, 1)) rfl
theorem oX13_one_186 : OpS mX13_one 186 (o_callV mX13_one 13 0 189) := s_callV ceX13_one clsX13 (Or.inl wd_1444) wd_1446 selX13_one (by decide +kernel : decode cX13_one 186 = .ok (.invokevirtual 173, 3))
theorem oX13_one_189 : OpS mX13_one 189 (o_const (.int 0) 190) := s_iconst (by decide +kernel : decode cX13_one 189 = .ok (.iconst 0, 1)) (by decide)
theorem oX13_one_190 : OpS mX13_one 190 (o_callV mX12_node 12 3 193) := s_callV ceX12_node clsX12 (Or.inl wd_1449) wd_1450 selX12_node (by decide +kernel : decode cX13_one 190 = .ok (.invokevirtual 169, 3))
theorem oX13_one_193 : OpS mX13_one 193 (o_istore 1 2 194) := s_istore_n (by decide +kernel : decode cX13_one 193 = .ok (.istore_n 1, 1)) rfl rfl
theorem oX13_one_194 : OpS mX13_one 194 (o_aload 0 195) := s_aload_n (by decide +kernel : decode cX13_one 194 = .ok (.aload_n 0, 1)) rfl
theorem oX13_one_195 : OpS mX13_one 195 (o_dup 196) := s_dup (by decide +kernel : decode cX13_one 195 = .ok (.dup, 1))
theorem oX13_one_196 : OpS mX13_one 196 (o_getI 13 13 199) := s_getI (k := 13) clsX13 (by decide) rfl (Or.inl wd_1257) (by decide +kernel : decode cX13_one 196 = .ok (.getfield 150, 3)) rfl
theorem oX13_one_199 : OpS mX13_one 199 (o_const (.int 1) 200) := s_iconst (by decide +kernel : decode cX13_one 199 = .ok (.iconst 1, 1)) (by decide)
theorem oX13_one_200 : OpS mX13_one 200 (o_ibin (fun x y => x - y) 201) := s_isub (by decide +kernel : decode cX13_one 200 = .ok (.isub, 1))
theorem oX13_one_201 : OpS mX13_one 201 (o_putI 13 13 204) := s_putI (k := 13) clsX13 (by decide) rfl (Or.inl ⟨wd_1257, Or.inl rfl⟩) (by decide +kernel : decode cX13_one 201 = .ok (.putfield 150, 3)) rfl rfl
theorem oX13_one_204 : OpS mX13_one 204 (o_iload 1 205) := s_iload_n (by decide +kernel : decode cX13_one 204 = .ok (.iload_n 1, 1)) rfl
theorem oX13_one_205 : OpS mX13_one 205 (o_iret) := s_iret rfl (by decide +kernel : decode cX13_one 205 = .ok (.ireturn, 1))
theorem oX13_one_206 : OpS mX13_one 206 (o_aload 0 207) := s_aload_n (by decide +kernel : decode cX13_one 206 = .ok (.aload_n 0, 1)) rfl
theorem oX13_one_207 : OpS mX13_one 207 (o_const (.int 4) 208) := s_iconst (by decide +kernel : decode cX13_one 207 = .ok (.iconst 4, 1)) (by decide)
theorem oX13_one_208 : OpS mX13_one 208 (o_const (.int 40) 210) := s_bipush (by decide +kernel : decode cX13_one 208 = .ok (.bipush 40, 2)) (by decide)
theorem oX13_one_210 : OpS mX13_one 210 (o_callV mX13_is 13 2 213) := s_callV ceX13_is clsX13 (Or.inl wd_1375) wd_1377 selX13_is (by decide +kernel : decode cX13_one 210 = .ok (.invokevirtual 137, 3))
theorem oX13_one_213 : OpS mX13_one 213 (o_if (fun x => x = 0) 221 216) := s_if_eq (by decide +kernel : decode cX13_one 213 = .ok (.ifCond .eq 8, 3)) (by decide)
theorem oX13_one_216 : OpS mX13_one 216 (o_aload 0 217) := s_aload_n (by decide +kernel : decode cX13_one 216 = .ok (.aload_n 0, 1)) rfl
theorem oX13_one_217 : OpS mX13_one 217 (o_callV mX13_inner 13 0 220) := s_callV ceX13_inner clsX13 (Or.inl wd_1457) wd_1459 selX13_inner (by decide +kernel : decode cX13_one 217 = .ok (.invokevirtual 191, 3))
theorem oX13_one_220 : OpS mX13_one 220 (o_iret) := s_iret rfl (by decide +kernel : decode cX13_one 220 = .ok (.ireturn, 1))
theorem oX13_one_221 : OpS mX13_one 221 (o_aload 0 222) := s_aload_n (by decide +kernel : decode cX13_one 221 = .ok (.aload_n 0, 1)) rfl
theorem oX13_one_222 : OpS mX13_one 222 (o_const (.int 2) 223) := s_iconst (by decide +kernel : decode cX13_one 222 = .ok (.iconst 2, 1)) (by decide)
theorem oX13_one_223 : OpS mX13_one 223 (o_const (.int 17) 225) := s_bipush (by decide +kernel : decode cX13_one 223 = .ok (.bipush 17, 2)) (by decide)
theorem oX13_one_225 : OpS mX13_one 225 (o_callV mX13_is 13 2 228) := s_callV ceX13_is clsX13 (Or.inl wd_1375) wd_1377 selX13_is (by decide +kernel : decode cX13_one 225 = .ok (.invokevirtual 137, 3))
theorem oX13_one_228 : OpS mX13_one 228 (o_if (fun x => x = 0) 231 241) := s_if_ne (by decide +kernel : decode cX13_one 228 = .ok (.ifCond .ne 13, 3)) (by decide)
theorem oX13_one_231 : OpS mX13_one 231 (o_aload 0 232) := s_aload_n (by decide +kernel : decode cX13_one 231 = .ok (.aload_n 0, 1)) rfl
theorem oX13_one_232 : OpS mX13_one 232 (o_const (.int 2) 233) := s_iconst (by decide +kernel : decode cX13_one 232 = .ok (.iconst 2, 1)) (by decide)
theorem oX13_one_233 : OpS mX13_one 233 (o_const (.int 18) 235) := s_bipush (by decide +kernel : decode cX13_one 233 = .ok (.bipush 18, 2)) (by decide)
theorem oX13_one_235 : OpS mX13_one 235 (o_callV mX13_is 13 2 238) := s_callV ceX13_is clsX13 (Or.inl wd_1375) wd_1377 selX13_is (by decide +kernel : decode cX13_one 235 = .ok (.invokevirtual 137, 3))
theorem oX13_one_238 : OpS mX13_one 238 (o_if (fun x => x = 0) 255 241) := s_if_eq (by decide +kernel : decode cX13_one 238 = .ok (.ifCond .eq 17, 3)) (by decide)
theorem oX13_one_241 : OpS mX13_one 241 (o_aload 0 242) := s_aload_n (by decide +kernel : decode cX13_one 241 = .ok (.aload_n 0, 1)) rfl
theorem oX13_one_242 : OpS mX13_one 242 (o_aload 0 243) := s_aload_n (by decide +kernel : decode cX13_one 242 = .ok (.aload_n 0, 1)) rfl
theorem oX13_one_243 : OpS mX13_one 243 (o_getP 13 5 246) := s_getP (k := 5) clsX13 (by decide) rfl (Or.inl wd_1249) (by decide +kernel : decode cX13_one 243 = .ok (.getfield 42, 3)) rfl
theorem oX13_one_246 : OpS mX13_one 246 (o_aload 0 247) := s_aload_n (by decide +kernel : decode cX13_one 246 = .ok (.aload_n 0, 1)) rfl
theorem oX13_one_247 : OpS mX13_one 247 (o_getI 13 12 250) := s_getI (k := 12) clsX13 (by decide) rfl (Or.inl wd_1256) (by decide +kernel : decode cX13_one 247 = .ok (.getfield 130, 3)) rfl
theorem oX13_one_250 : OpS mX13_one 250 (o_iald 251) := s_iald (by decide +kernel : decode cX13_one 250 = .ok (.iaload, 1))
theorem oX13_one_251 : OpS mX13_one 251 (o_callV mX13_both 13 1 254) := s_callV ceX13_both clsX13 (Or.inl wd_1461) wd_1463 selX13_both (by decide +kernel : decode cX13_one 251 = .ok (.invokevirtual 194, 3))
theorem oX13_one_254 : OpS mX13_one 254 (o_iret) := s_iret rfl (by decide +kernel : decode cX13_one 254 = .ok (.ireturn, 1))
theorem oX13_one_255 : OpS mX13_one 255 (o_aload 0 256) := s_aload_n (by decide +kernel : decode cX13_one 255 = .ok (.aload_n 0, 1)) rfl
theorem oX13_one_256 : OpS mX13_one 256 (o_callV mX13_fail 13 0 259) := s_callV ceX13_fail clsX13 (Or.inl wd_1391) wd_1393 selX13_fail (by decide +kernel : decode cX13_one 256 = .ok (.invokevirtual 141, 3))
theorem oX13_one_259 : OpS mX13_one 259 (o_const (.int 0) 260) := s_iconst (by decide +kernel : decode cX13_one 259 = .ok (.iconst 0, 1)) (by decide)
theorem oX13_one_260 : OpS mX13_one 260 (o_iret) := s_iret rfl (by decide +kernel : decode cX13_one 260 = .ok (.ireturn, 1))
theorem oX13_inner_0 : OpS mX13_inner 0 (o_aload 0 1) := s_aload_n (by decide +kernel : decode cX13_inner 0 = .ok (.aload_n 0, 1)) rfl
theorem oX13_inner_1 : OpS mX13_inner 1 (o_callV mX13_deeper 13 0 4) := s_callV ceX13_deeper clsX13 (Or.inl wd_1453) wd_1455 selX13_deeper (by decide +kernel : decode cX13_inner 1 = .ok (.invokevirtual 188, 3))
theorem oX13_inner_4 : OpS mX13_inner 4 (o_aload 0 5) := s_aload_n (by decide +kernel : decode cX13_inner 4 = .ok (.aload_n 0, 1)) rfl
theorem oX13_inner_5 : OpS mX13_inner 5 (o_dup 6) := s_dup (by decide +kernel : decode cX13_inner 5 = .ok (.dup, 1))
theorem oX13_inner_6 : OpS mX13_inner 6 (o_getI 13 12 9) := s_getI (k := 12) clsX13 (by decide) rfl (Or.inl wd_1256) (by decide +kernel : decode cX13_inner 6 = .ok (.getfield 130, 3)) rfl
theorem oX13_inner_9 : OpS mX13_inner 9 (o_const (.int 1) 10) := s_iconst (by decide +kernel : decode cX13_inner 9 = .ok (.iconst 1, 1)) (by decide)
theorem oX13_inner_10 : OpS mX13_inner 10 (o_ibin (fun x y => x + y) 11) := s_iadd (by decide +kernel : decode cX13_inner 10 = .ok (.iadd, 1))
theorem oX13_inner_11 : OpS mX13_inner 11 (o_putI 13 12 14) := s_putI (k := 12) clsX13 (by decide) rfl (Or.inl ⟨wd_1256, Or.inl rfl⟩) (by decide +kernel : decode cX13_inner 11 = .ok (.putfield 130, 3)) rfl rfl
theorem oX13_inner_14 : OpS mX13_inner 14 (o_aload 0 15) := s_aload_n (by decide +kernel : decode cX13_inner 14 = .ok (.aload_n 0, 1)) rfl
theorem oX13_inner_15 : OpS mX13_inner 15 (o_callV mX13_sum 13 0 18) := s_callV ceX13_sum clsX13 (Or.inl wd_1436) wd_1438 selX13_sum (by decide +kernel : decode cX13_inner 15 = .ok (.invokevirtual 197, 3))
theorem oX13_inner_18 : OpS mX13_inner 18 (o_istore 1 2 19) := s_istore_n (by decide +kernel : decode cX13_inner 18 = .ok (.istore_n 1, 1)) rfl rfl
theorem oX13_inner_19 : OpS mX13_inner 19 (o_aload 0 20) := s_aload_n (by decide +kernel : decode cX13_inner 19 = .ok (.aload_n 0, 1)) rfl
theorem oX13_inner_20 : OpS mX13_inner 20 (o_const (.int 4) 21) := s_iconst (by decide +kernel : decode cX13_inner 20 = .ok (.iconst 4, 1)) (by decide)
theorem oX13_inner_21 : OpS mX13_inner 21 (o_const (.int 41) 23) := s_bipush (by decide +kernel : decode cX13_inner 21 = .ok (.bipush 41, 2)) (by decide)
theorem oX13_inner_23 : OpS mX13_inner 23 (o_callV mX13_take 13 2 26) := s_callV ceX13_take clsX13 (Or.inl wd_1411) wd_1413 selX13_take (by decide +kernel : decode cX13_inner 23 = .ok (.invokevirtual 200, 3))
theorem oX13_inner_26 : OpS mX13_inner 26 (o_aload 0 27) := s_aload_n (by decide +kernel : decode cX13_inner 26 = .ok (.aload_n 0, 1)) rfl
theorem oX13_inner_27 : OpS mX13_inner 27 (o_dup 28) := s_dup (by decide +kernel : decode cX13_inner 27 = .ok (.dup, 1))
theorem oX13_inner_28 : OpS mX13_inner 28 (o_getI 13 13 31) := s_getI (k := 13) clsX13 (by decide) rfl (Or.inl wd_1257) (by decide +kernel : decode cX13_inner 28 = .ok (.getfield 150, 3)) rfl
theorem oX13_inner_31 : OpS mX13_inner 31 (o_const (.int 1) 32) := s_iconst (by decide +kernel : decode cX13_inner 31 = .ok (.iconst 1, 1)) (by decide)
theorem oX13_inner_32 : OpS mX13_inner 32 (o_ibin (fun x y => x - y) 33) := s_isub (by decide +kernel : decode cX13_inner 32 = .ok (.isub, 1))
theorem oX13_inner_33 : OpS mX13_inner 33 (o_putI 13 13 36) := s_putI (k := 13) clsX13 (by decide) rfl (Or.inl ⟨wd_1257, Or.inl rfl⟩) (by decide +kernel : decode cX13_inner 33 = .ok (.putfield 150, 3)) rfl rfl
theorem oX13_inner_36 : OpS mX13_inner 36 (o_iload 1 37) := s_iload_n (by decide +kernel : decode cX13_inner 36 = .ok (.iload_n 1, 1)) rfl
theorem oX13_inner_37 : OpS mX13_inner 37 (o_iret) := s_iret rfl (by decide +kernel : decode cX13_inner 37 = .ok (.ireturn, 1))
theorem oX13_both_0 : OpS mX13_both 0 (o_aload 0 1) := s_aload_n (by decide +kernel : decode cX13_both 0 = .ok (.aload_n 0, 1)) rfl
theorem oX13_both_1 : OpS mX13_both 1 (o_dup 2) := s_dup (by decide +kernel : decode cX13_both 1 = .ok (.dup, 1))
theorem oX13_both_2 : OpS mX13_both 2 (o_getI 13 12 5) := s_getI (k := 12) clsX13 (by decide) rfl (Or.inl wd_1256) (by decide +kernel : decode cX13_both 2 = .ok (.getfield 130, 3)) rfl
theorem oX13_both_5 : OpS mX13_both 5 (o_const (.int 1) 6) := s_iconst (by decide +kernel : decode cX13_both 5 = .ok (.iconst 1, 1)) (by decide)
theorem oX13_both_6 : OpS mX13_both 6 (o_ibin (fun x y => x + y) 7) := s_iadd (by decide +kernel : decode cX13_both 6 = .ok (.iadd, 1))
theorem oX13_both_7 : OpS mX13_both 7 (o_putI 13 12 10) := s_putI (k := 12) clsX13 (by decide) rfl (Or.inl ⟨wd_1256, Or.inl rfl⟩) (by decide +kernel : decode cX13_both 7 = .ok (.putfield 130, 3)) rfl rfl
theorem oX13_both_10 : OpS mX13_both 10 (o_aload 0 11) := s_aload_n (by decide +kernel : decode cX13_both 10 = .ok (.aload_n 0, 1)) rfl
theorem oX13_both_11 : OpS mX13_both 11 (o_const (.int 4) 12) := s_iconst (by decide +kernel : decode cX13_both 11 = .ok (.iconst 4, 1)) (by decide)
theorem oX13_both_12 : OpS mX13_both 12 (o_const (.int 40) 14) := s_bipush (by decide +kernel : decode cX13_both 12 = .ok (.bipush 40, 2)) (by decide)
theorem oX13_both_14 : OpS mX13_both 14 (o_callV mX13_is 13 2 17) := s_callV ceX13_is clsX13 (Or.inl wd_1375) wd_1377 selX13_is (by decide +kernel : decode cX13_both 14 = .ok (.invokevirtual 137, 3))
theorem oX13_both_17 : OpS mX13_both 17 (o_if (fun x => x = 0) 20 26) := s_if_ne (by decide +kernel : decode cX13_both 17 = .ok (.ifCond .ne 9, 3)) (by decide)
theorem oX13_both_20 : OpS mX13_both 20 (o_aload 0 21) := s_aload_n (by decide +kernel : decode cX13_both 20 = .ok (.aload_n 0, 1)) rfl
theorem oX13_both_21 : OpS mX13_both 21 (o_callV mX13_fail 13 0 24) := s_callV ceX13_fail clsX13 (Or.inl wd_1391) wd_1393 selX13_fail (by decide +kernel : decode cX13_both 21 = .ok (.invokevirtual 141, 3))
theorem oX13_both_24 : OpS mX13_both 24 (o_const (.int 0) 25) := s_iconst (by decide +kernel : decode cX13_both 24 = .ok (.iconst 0, 1)) (by decide)
theorem oX13_both_25 : OpS mX13_both 25 (o_iret) := s_iret rfl (by decide +kernel : decode cX13_both 25 = .ok (.ireturn, 1))
theorem oX13_both_26 : OpS mX13_both 26 (o_aload 0 27) := s_aload_n (by decide +kernel : decode cX13_both 26 = .ok (.aload_n 0, 1)) rfl
theorem oX13_both_27 : OpS mX13_both 27 (o_callV mX13_deeper 13 0 30) := s_callV ceX13_deeper clsX13 (Or.inl wd_1453) wd_1455 selX13_deeper (by decide +kernel : decode cX13_both 27 = .ok (.invokevirtual 188, 3))
theorem oX13_both_30 : OpS mX13_both 30 (o_aload 0 31) := s_aload_n (by decide +kernel : decode cX13_both 30 = .ok (.aload_n 0, 1)) rfl
theorem oX13_both_31 : OpS mX13_both 31 (o_dup 32) := s_dup (by decide +kernel : decode cX13_both 31 = .ok (.dup, 1))
theorem oX13_both_32 : OpS mX13_both 32 (o_getI 13 12 35) := s_getI (k := 12) clsX13 (by decide) rfl (Or.inl wd_1256) (by decide +kernel : decode cX13_both 32 = .ok (.getfield 130, 3)) rfl
theorem oX13_both_35 : OpS mX13_both 35 (o_const (.int 1) 36) := s_iconst (by decide +kernel : decode cX13_both 35 = .ok (.iconst 1, 1)) (by decide)
theorem oX13_both_36 : OpS mX13_both 36 (o_ibin (fun x y => x + y) 37) := s_iadd (by decide +kernel : decode cX13_both 36 = .ok (.iadd, 1))
theorem oX13_both_37 : OpS mX13_both 37 (o_putI 13 12 40) := s_putI (k := 12) clsX13 (by decide) rfl (Or.inl ⟨wd_1256, Or.inl rfl⟩) (by decide +kernel : decode cX13_both 37 = .ok (.putfield 130, 3)) rfl rfl
theorem oX13_both_40 : OpS mX13_both 40 (o_aload 0 41) := s_aload_n (by decide +kernel : decode cX13_both 40 = .ok (.aload_n 0, 1)) rfl
theorem oX13_both_41 : OpS mX13_both 41 (o_callV mX13_sum 13 0 44) := s_callV ceX13_sum clsX13 (Or.inl wd_1436) wd_1438 selX13_sum (by decide +kernel : decode cX13_both 41 = .ok (.invokevirtual 197, 3))
theorem oX13_both_44 : OpS mX13_both 44 (o_istore 2 4 45) := s_istore_n (by decide +kernel : decode cX13_both 44 = .ok (.istore_n 2, 1)) rfl rfl
theorem oX13_both_45 : OpS mX13_both 45 (o_aload 0 46) := s_aload_n (by decide +kernel : decode cX13_both 45 = .ok (.aload_n 0, 1)) rfl
theorem oX13_both_46 : OpS mX13_both 46 (o_const (.int 4) 47) := s_iconst (by decide +kernel : decode cX13_both 46 = .ok (.iconst 4, 1)) (by decide)
theorem oX13_both_47 : OpS mX13_both 47 (o_const (.int 44) 49) := s_bipush (by decide +kernel : decode cX13_both 47 = .ok (.bipush 44, 2)) (by decide)
theorem oX13_both_49 : OpS mX13_both 49 (o_callV mX13_take 13 2 52) := s_callV ceX13_take clsX13 (Or.inl wd_1411) wd_1413 selX13_take (by decide +kernel : decode cX13_both 49 = .ok (.invokevirtual 200, 3))
theorem oX13_both_52 : OpS mX13_both 52 (o_aload 0 53) := s_aload_n (by decide +kernel : decode cX13_both 52 = .ok (.aload_n 0, 1)) rfl
theorem oX13_both_53 : OpS mX13_both 53 (o_callV mX13_sum 13 0 56) := s_callV ceX13_sum clsX13 (Or.inl wd_1436) wd_1438 selX13_sum (by decide +kernel : decode cX13_both 53 = .ok (.invokevirtual 197, 3))
theorem oX13_both_56 : OpS mX13_both 56 (o_istore 3 4 57) := s_istore_n (by decide +kernel : decode cX13_both 56 = .ok (.istore_n 3, 1)) rfl rfl
theorem oX13_both_57 : OpS mX13_both 57 (o_aload 0 58) := s_aload_n (by decide +kernel : decode cX13_both 57 = .ok (.aload_n 0, 1)) rfl
theorem oX13_both_58 : OpS mX13_both 58 (o_const (.int 4) 59) := s_iconst (by decide +kernel : decode cX13_both 58 = .ok (.iconst 4, 1)) (by decide)
theorem oX13_both_59 : OpS mX13_both 59 (o_const (.int 41) 61) := s_bipush (by decide +kernel : decode cX13_both 59 = .ok (.bipush 41, 2)) (by decide)
theorem oX13_both_61 : OpS mX13_both 61 (o_callV mX13_take 13 2 64) := s_callV ceX13_take clsX13 (Or.inl wd_1411) wd_1413 selX13_take (by decide +kernel : decode cX13_both 61 = .ok (.invokevirtual 200, 3))
theorem oX13_both_64 : OpS mX13_both 64 (o_aload 0 65) := s_aload_n (by decide +kernel : decode cX13_both 64 = .ok (.aload_n 0, 1)) rfl
theorem oX13_both_65 : OpS mX13_both 65 (o_dup 66) := s_dup (by decide +kernel : decode cX13_both 65 = .ok (.dup, 1))
theorem oX13_both_66 : OpS mX13_both 66 (o_getI 13 13 69) := s_getI (k := 13) clsX13 (by decide) rfl (Or.inl wd_1257) (by decide +kernel : decode cX13_both 66 = .ok (.getfield 150, 3)) rfl
theorem oX13_both_69 : OpS mX13_both 69 (o_const (.int 1) 70) := s_iconst (by decide +kernel : decode cX13_both 69 = .ok (.iconst 1, 1)) (by decide)
theorem oX13_both_70 : OpS mX13_both 70 (o_ibin (fun x y => x - y) 71) := s_isub (by decide +kernel : decode cX13_both 70 = .ok (.isub, 1))
theorem oX13_both_71 : OpS mX13_both 71 (o_putI 13 13 74) := s_putI (k := 13) clsX13 (by decide) rfl (Or.inl ⟨wd_1257, Or.inl rfl⟩) (by decide +kernel : decode cX13_both 71 = .ok (.putfield 150, 3)) rfl rfl
theorem oX13_both_74 : OpS mX13_both 74 (o_aload 0 75) := s_aload_n (by decide +kernel : decode cX13_both 74 = .ok (.aload_n 0, 1)) rfl
theorem oX13_both_75 : OpS mX13_both 75 (o_getP 13 9 78) := s_getP (k := 9) clsX13 (by decide) rfl (Or.inl wd_1253) (by decide +kernel : decode cX13_both 75 = .ok (.getfield 91, 3)) rfl
theorem oX13_both_78 : OpS mX13_both 78 (o_iload 1 79) := s_iload_n (by decide +kernel : decode cX13_both 78 = .ok (.iload_n 1, 1)) rfl
theorem oX13_both_79 : OpS mX13_both 79 (o_iload 2 80) := s_iload_n (by decide +kernel : decode cX13_both 79 = .ok (.iload_n 2, 1)) rfl
theorem oX13_both_80 : OpS mX13_both 80 (o_iload 3 81) := s_iload_n (by decide +kernel : decode cX13_both 80 = .ok (.iload_n 3, 1)) rfl
theorem oX13_both_81 : OpS mX13_both 81 (o_callV mX12_node 12 3 84) := s_callV ceX12_node clsX12 (Or.inl wd_1449) wd_1450 selX12_node (by decide +kernel : decode cX13_both 81 = .ok (.invokevirtual 169, 3))
theorem oX13_both_84 : OpS mX13_both 84 (o_iret) := s_iret rfl (by decide +kernel : decode cX13_both 84 = .ok (.ireturn, 1))
theorem oX13_test_0 : OpS mX13_test 0 (o_aload 0 1) := s_aload_n (by decide +kernel : decode cX13_test 0 = .ok (.aload_n 0, 1)) rfl
theorem oX13_test_1 : OpS mX13_test 1 (o_callV mX13_pair 13 0 4) := s_callV ceX13_pair clsX13 (Or.inl wd_1469) wd_1471 selX13_pair (by decide +kernel : decode cX13_test 1 = .ok (.invokevirtual 203, 3))
theorem oX13_test_4 : OpS mX13_test 4 (o_istore 1 2 5) := s_istore_n (by decide +kernel : decode cX13_test 4 = .ok (.istore_n 1, 1)) rfl rfl
theorem oX13_test_5 : OpS mX13_test 5 (o_aload 0 6) := s_aload_n (by decide +kernel : decode cX13_test 5 = .ok (.aload_n 0, 1)) rfl
theorem oX13_test_6 : OpS mX13_test 6 (o_const (.int 2) 7) := s_iconst (by decide +kernel : decode cX13_test 6 = .ok (.iconst 2, 1)) (by decide)
theorem oX13_test_7 : OpS mX13_test 7 (o_const (.int 16) 9) := s_bipush (by decide +kernel : decode cX13_test 7 = .ok (.bipush 16, 2)) (by decide)
theorem oX13_test_9 : OpS mX13_test 9 (o_callV mX13_is 13 2 12) := s_callV ceX13_is clsX13 (Or.inl wd_1375) wd_1377 selX13_is (by decide +kernel : decode cX13_test 9 = .ok (.invokevirtual 137, 3))
theorem oX13_test_12 : OpS mX13_test 12 (o_if (fun x => x = 0) 43 15) := s_if_eq (by decide +kernel : decode cX13_test 12 = .ok (.ifCond .eq 31, 3)) (by decide)
theorem oX13_test_15 : OpS mX13_test 15 (o_aload 0 16) := s_aload_n (by decide +kernel : decode cX13_test 15 = .ok (.aload_n 0, 1)) rfl
theorem oX13_test_16 : OpS mX13_test 16 (o_dup 17) := s_dup (by decide +kernel : decode cX13_test 16 = .ok (.dup, 1))
theorem oX13_test_17 : OpS mX13_test 17 (o_getI 13 12 20) := s_getI (k := 12) clsX13 (by decide) rfl (Or.inl wd_1256) (by decide +kernel : decode cX13_test 17 = .ok (.getfield 130, 3)) rfl
theorem oX13_test_20 : OpS mX13_test 20 (o_const (.int 1) 21) := s_iconst (by decide +kernel : decode cX13_test 20 = .ok (.iconst 1, 1)) (by decide)
theorem oX13_test_21 : OpS mX13_test 21 (o_ibin (fun x y => x + y) 22) := s_iadd (by decide +kernel : decode cX13_test 21 = .ok (.iadd, 1))
theorem oX13_test_22 : OpS mX13_test 22 (o_putI 13 12 25) := s_putI (k := 12) clsX13 (by decide) rfl (Or.inl ⟨wd_1256, Or.inl rfl⟩) (by decide +kernel : decode cX13_test 22 = .ok (.putfield 130, 3)) rfl rfl
theorem oX13_test_25 : OpS mX13_test 25 (o_aload 0 26) := s_aload_n (by decide +kernel : decode cX13_test 25 = .ok (.aload_n 0, 1)) rfl
theorem oX13_test_26 : OpS mX13_test 26 (o_getP 13 9 29) := s_getP (k := 9) clsX13 (by decide) rfl (Or.inl wd_1253) (by decide +kernel : decode cX13_test 26 = .ok (.getfield 91, 3)) rfl
theorem oX13_test_29 : OpS mX13_test 29 (o_const (.int 16) 31) := s_bipush (by decide +kernel : decode cX13_test 29 = .ok (.bipush 16, 2)) (by decide)
theorem oX13_test_31 : OpS mX13_test 31 (o_iload 1 32) := s_iload_n (by decide +kernel : decode cX13_test 31 = .ok (.iload_n 1, 1)) rfl
theorem oX13_test_32 : OpS mX13_test 32 (o_aload 0 33) := s_aload_n (by decide +kernel : decode cX13_test 32 = .ok (.aload_n 0, 1)) rfl
theorem oX13_test_33 : OpS mX13_test 33 (o_callV mX13_pair 13 0 36) := s_callV ceX13_pair clsX13 (Or.inl wd_1469) wd_1471 selX13_pair (by decide +kernel : decode cX13_test 33 = .ok (.invokevirtual 203, 3))
theorem oX13_test_36 : OpS mX13_test 36 (o_callV mX12_node 12 3 39) := s_callV ceX12_node clsX12 (Or.inl wd_1449) wd_1450 selX12_node (by decide +kernel : decode cX13_test 36 = .ok (.invokevirtual 169, 3))
theorem oX13_test_39 : OpS mX13_test 39 (o_istore 1 2 40) := s_istore_n (by decide +kernel : decode cX13_test 39 = .ok (.istore_n 1, 1)) rfl rfl
theorem oX13_test_40 : OpS mX13_test 40 (o_goto 5) := s_goto (by decide +kernel : decode cX13_test 40 = .ok (.goto (-35), 3)) (by decide)
theorem oX13_test_43 : OpS mX13_test 43 (o_iload 1 44) := s_iload_n (by decide +kernel : decode cX13_test 43 = .ok (.iload_n 1, 1)) rfl
theorem oX13_test_44 : OpS mX13_test 44 (o_iret) := s_iret rfl (by decide +kernel : decode cX13_test 44 = .ok (.ireturn, 1))
theorem oX13_pair_0 : OpS mX13_pair 0 (o_aload 0 1) := s_aload_n (by decide +kernel : decode cX13_pair 0 = .ok (.aload_n 0, 1)) rfl
theorem oX13_pair_1 : OpS mX13_pair 1 (o_callV mX13_single 13 0 4) := s_callV ceX13_single clsX13 (Or.inl wd_1473) wd_1475 selX13_single (by decide +kernel : decode cX13_pair 1 = .ok (.invokevirtual 206, 3))
theorem oX13_pair_4 : OpS mX13_pair 4 (o_istore 1 2 5) := s_istore_n (by decide +kernel : decode cX13_pair 4 = .ok (.istore_n 1, 1)) rfl rfl
theorem oX13_pair_5 : OpS mX13_pair 5 (o_aload 0 6) := s_aload_n (by decide +kernel : decode cX13_pair 5 = .ok (.aload_n 0, 1)) rfl
theorem oX13_pair_6 : OpS mX13_pair 6 (o_const (.int 2) 7) := s_iconst (by decide +kernel : decode cX13_pair 6 = .ok (.iconst 2, 1)) (by decide)
theorem oX13_pair_7 : OpS mX13_pair 7 (o_const (.int 15) 9) := s_bipush (by decide +kernel : decode cX13_pair 7 = .ok (.bipush 15, 2)) (by decide)
theorem oX13_pair_9 : OpS mX13_pair 9 (o_callV mX13_is 13 2 12) := s_callV ceX13_is clsX13 (Or.inl wd_1375) wd_1377 selX13_is (by decide +kernel : decode cX13_pair 9 = .ok (.invokevirtual 137, 3))
theorem oX13_pair_12 : OpS mX13_pair 12 (o_if (fun x => x = 0) 43 15) := s_if_eq (by decide +kernel : decode cX13_pair 12 = .ok (.ifCond .eq 31, 3)) (by decide)
theorem oX13_pair_15 : OpS mX13_pair 15 (o_aload 0 16) := s_aload_n (by decide +kernel : decode cX13_pair 15 = .ok (.aload_n 0, 1)) rfl
theorem oX13_pair_16 : OpS mX13_pair 16 (o_dup 17) := s_dup (by decide +kernel : decode cX13_pair 16 = .ok (.dup, 1))
theorem oX13_pair_17 : OpS mX13_pair 17 (o_getI 13 12 20) := s_getI (k := 12) clsX13 (by decide) rfl (Or.inl wd_1256) (by decide +kernel : decode cX13_pair 17 = .ok (.getfield 130, 3)) rfl
theorem oX13_pair_20 : OpS mX13_pair 20 (o_const (.int 1) 21) := s_iconst (by decide +kernel : decode cX13_pair 20 = .ok (.iconst 1, 1)) (by decide)
theorem oX13_pair_21 : OpS mX13_pair 21 (o_ibin (fun x y => x + y) 22) := s_iadd (by decide +kernel : decode cX13_pair 21 = .ok (.iadd, 1))
theorem oX13_pair_22 : OpS mX13_pair 22 (o_putI 13 12 25) := s_putI (k := 12) clsX13 (by decide) rfl (Or.inl ⟨wd_1256, Or.inl rfl⟩) (by decide +kernel : decode cX13_pair 22 = .ok (.putfield 130, 3)) rfl rfl
theorem oX13_pair_25 : OpS mX13_pair 25 (o_aload 0 26) := s_aload_n (by decide +kernel : decode cX13_pair 25 = .ok (.aload_n 0, 1)) rfl
theorem oX13_pair_26 : OpS mX13_pair 26 (o_getP 13 9 29) := s_getP (k := 9) clsX13 (by decide) rfl (Or.inl wd_1253) (by decide +kernel : decode cX13_pair 26 = .ok (.getfield 91, 3)) rfl
theorem oX13_pair_29 : OpS mX13_pair 29 (o_const (.int 15) 31) := s_bipush (by decide +kernel : decode cX13_pair 29 = .ok (.bipush 15, 2)) (by decide)
theorem oX13_pair_31 : OpS mX13_pair 31 (o_iload 1 32) := s_iload_n (by decide +kernel : decode cX13_pair 31 = .ok (.iload_n 1, 1)) rfl
theorem oX13_pair_32 : OpS mX13_pair 32 (o_aload 0 33) := s_aload_n (by decide +kernel : decode cX13_pair 32 = .ok (.aload_n 0, 1)) rfl
theorem oX13_pair_33 : OpS mX13_pair 33 (o_callV mX13_single 13 0 36) := s_callV ceX13_single clsX13 (Or.inl wd_1473) wd_1475 selX13_single (by decide +kernel : decode cX13_pair 33 = .ok (.invokevirtual 206, 3))
theorem oX13_pair_36 : OpS mX13_pair 36 (o_callV mX12_node 12 3 39) := s_callV ceX12_node clsX12 (Or.inl wd_1449) wd_1450 selX12_node (by decide +kernel : decode cX13_pair 36 = .ok (.invokevirtual 169, 3))
theorem oX13_pair_39 : OpS mX13_pair 39 (o_istore 1 2 40) := s_istore_n (by decide +kernel : decode cX13_pair 39 = .ok (.istore_n 1, 1)) rfl rfl
theorem oX13_pair_40 : OpS mX13_pair 40 (o_goto 5) := s_goto (by decide +kernel : decode cX13_pair 40 = .ok (.goto (-35), 3)) (by decide)
theorem oX13_pair_43 : OpS mX13_pair 43 (o_iload 1 44) := s_iload_n (by decide +kernel : decode cX13_pair 43 = .ok (.iload_n 1, 1)) rfl
theorem oX13_pair_44 : OpS mX13_pair 44 (o_iret) := s_iret rfl (by decide +kernel : decode cX13_pair 44 = .ok (.ireturn, 1))
theorem oX13_single_0 : OpS mX13_single 0 (o_aload 0 1) := s_aload_n (by decide +kernel : decode cX13_single 0 = .ok (.aload_n 0, 1)) rfl
theorem oX13_single_1 : OpS mX13_single 1 (o_const (.int 2) 2) := s_iconst (by decide +kernel : decode cX13_single 1 = .ok (.iconst 2, 1)) (by decide)
theorem oX13_single_2 : OpS mX13_single 2 (o_const (.int 14) 4) := s_bipush (by decide +kernel : decode cX13_single 2 = .ok (.bipush 14, 2)) (by decide)
theorem oX13_single_4 : OpS mX13_single 4 (o_callV mX13_is 13 2 7) := s_callV ceX13_is clsX13 (Or.inl wd_1375) wd_1377 selX13_is (by decide +kernel : decode cX13_single 4 = .ok (.invokevirtual 137, 3))
theorem oX13_single_7 : OpS mX13_single 7 (o_if (fun x => x = 0) 51 10) := s_if_eq (by decide +kernel : decode cX13_single 7 = .ok (.ifCond .eq 44, 3)) (by decide)
theorem oX13_single_10 : OpS mX13_single 10 (o_aload 0 11) := s_aload_n (by decide +kernel : decode cX13_single 10 = .ok (.aload_n 0, 1)) rfl
theorem oX13_single_11 : OpS mX13_single 11 (o_callV mX13_deeper 13 0 14) := s_callV ceX13_deeper clsX13 (Or.inl wd_1453) wd_1455 selX13_deeper (by decide +kernel : decode cX13_single 11 = .ok (.invokevirtual 188, 3))
theorem oX13_single_14 : OpS mX13_single 14 (o_aload 0 15) := s_aload_n (by decide +kernel : decode cX13_single 14 = .ok (.aload_n 0, 1)) rfl
theorem oX13_single_15 : OpS mX13_single 15 (o_dup 16) := s_dup (by decide +kernel : decode cX13_single 15 = .ok (.dup, 1))
theorem oX13_single_16 : OpS mX13_single 16 (o_getI 13 12 19) := s_getI (k := 12) clsX13 (by decide) rfl (Or.inl wd_1256) (by decide +kernel : decode cX13_single 16 = .ok (.getfield 130, 3)) rfl
theorem oX13_single_19 : OpS mX13_single 19 (o_const (.int 1) 20) := s_iconst (by decide +kernel : decode cX13_single 19 = .ok (.iconst 1, 1)) (by decide)
theorem oX13_single_20 : OpS mX13_single 20 (o_ibin (fun x y => x + y) 21) := s_iadd (by decide +kernel : decode cX13_single 20 = .ok (.iadd, 1))
theorem oX13_single_21 : OpS mX13_single 21 (o_putI 13 12 24) := s_putI (k := 12) clsX13 (by decide) rfl (Or.inl ⟨wd_1256, Or.inl rfl⟩) (by decide +kernel : decode cX13_single 21 = .ok (.putfield 130, 3)) rfl rfl
theorem oX13_single_24 : OpS mX13_single 24 (o_aload 0 25) := s_aload_n (by decide +kernel : decode cX13_single 24 = .ok (.aload_n 0, 1)) rfl
theorem oX13_single_25 : OpS mX13_single 25 (o_getP 13 9 28) := s_getP (k := 9) clsX13 (by decide) rfl (Or.inl wd_1253) (by decide +kernel : decode cX13_single 25 = .ok (.getfield 91, 3)) rfl
theorem oX13_single_28 : OpS mX13_single 28 (o_const (.int 14) 30) := s_bipush (by decide +kernel : decode cX13_single 28 = .ok (.bipush 14, 2)) (by decide)
theorem oX13_single_30 : OpS mX13_single 30 (o_aload 0 31) := s_aload_n (by decide +kernel : decode cX13_single 30 = .ok (.aload_n 0, 1)) rfl
theorem oX13_single_31 : OpS mX13_single 31 (o_callV mX13_single 13 0 34) := s_callV ceX13_single clsX13 (Or.inl wd_1473) wd_1475 selX13_single (by decide +kernel : decode cX13_single 31 = .ok (.invokevirtual 206, 3))
theorem oX13_single_34 : OpS mX13_single 34 (o_const (.int 0) 35) := s_iconst (by decide +kernel : decode cX13_single 34 = .ok (.iconst 0, 1)) (by decide)
theorem oX13_single_35 : OpS mX13_single 35 (o_callV mX12_node 12 3 38) := s_callV ceX12_node clsX12 (Or.inl wd_1449) wd_1450 selX12_node (by decide +kernel : decode cX13_single 35 = .ok (.invokevirtual 169, 3))
theorem oX13_single_38 : OpS mX13_single 38 (o_istore 1 3 39) := s_istore_n (by decide +kernel : decode cX13_single 38 = .ok (.istore_n 1, 1)) rfl rfl
theorem oX13_single_39 : OpS mX13_single 39 (o_aload 0 40) := s_aload_n (by decide +kernel : decode cX13_single 39 = .ok (.aload_n 0, 1)) rfl
theorem oX13_single_40 : OpS mX13_single 40 (o_dup 41) := s_dup (by decide +kernel : decode cX13_single 40 = .ok (.dup, 1))
theorem oX13_single_41 : OpS mX13_single 41 (o_getI 13 13 44) := s_getI (k := 13) clsX13 (by decide) rfl (Or.inl wd_1257) (by decide +kernel : decode cX13_single 41 = .ok (.getfield 150, 3)) rfl
theorem oX13_single_44 : OpS mX13_single 44 (o_const (.int 1) 45) := s_iconst (by decide +kernel : decode cX13_single 44 = .ok (.iconst 1, 1)) (by decide)
theorem oX13_single_45 : OpS mX13_single 45 (o_ibin (fun x y => x - y) 46) := s_isub (by decide +kernel : decode cX13_single 45 = .ok (.isub, 1))
theorem oX13_single_46 : OpS mX13_single 46 (o_putI 13 13 49) := s_putI (k := 13) clsX13 (by decide) rfl (Or.inl ⟨wd_1257, Or.inl rfl⟩) (by decide +kernel : decode cX13_single 46 = .ok (.putfield 150, 3)) rfl rfl
theorem oX13_single_49 : OpS mX13_single 49 (o_iload 1 50) := s_iload_n (by decide +kernel : decode cX13_single 49 = .ok (.iload_n 1, 1)) rfl
theorem oX13_single_50 : OpS mX13_single 50 (o_iret) := s_iret rfl (by decide +kernel : decode cX13_single 50 = .ok (.ireturn, 1))
theorem oX13_single_51 : OpS mX13_single 51 (o_aload 0 52) := s_aload_n (by decide +kernel : decode cX13_single 51 = .ok (.aload_n 0, 1)) rfl
theorem oX13_single_52 : OpS mX13_single 52 (o_const (.int 4) 53) := s_iconst (by decide +kernel : decode cX13_single 52 = .ok (.iconst 4, 1)) (by decide)
theorem oX13_single_53 : OpS mX13_single 53 (o_const (.int 91) 55) := s_bipush (by decide +kernel : decode cX13_single 53 = .ok (.bipush 91, 2)) (by decide)
theorem oX13_single_55 : OpS mX13_single 55 (o_callV mX13_is 13 2 58) := s_callV ceX13_is clsX13 (Or.inl wd_1375) wd_1377 selX13_is (by decide +kernel : decode cX13_single 55 = .ok (.invokevirtual 137, 3))
theorem oX13_single_58 : OpS mX13_single 58 (o_if (fun x => x = 0) 99 61) := s_if_eq (by decide +kernel : decode cX13_single 58 = .ok (.ifCond .eq 41, 3)) (by decide)
theorem oX13_single_61 : OpS mX13_single 61 (o_aload 0 62) := s_aload_n (by decide +kernel : decode cX13_single 61 = .ok (.aload_n 0, 1)) rfl
theorem oX13_single_62 : OpS mX13_single 62 (o_callV mX13_deeper 13 0 65) := s_callV ceX13_deeper clsX13 (Or.inl wd_1453) wd_1455 selX13_deeper (by decide +kernel : decode cX13_single 62 = .ok (.invokevirtual 188, 3))
theorem oX13_single_65 : OpS mX13_single 65 (o_aload 0 66) := s_aload_n (by decide +kernel : decode cX13_single 65 = .ok (.aload_n 0, 1)) rfl
theorem oX13_single_66 : OpS mX13_single 66 (o_dup 67) := s_dup (by decide +kernel : decode cX13_single 66 = .ok (.dup, 1))
theorem oX13_single_67 : OpS mX13_single 67 (o_getI 13 12 70) := s_getI (k := 12) clsX13 (by decide) rfl (Or.inl wd_1256) (by decide +kernel : decode cX13_single 67 = .ok (.getfield 130, 3)) rfl
theorem oX13_single_70 : OpS mX13_single 70 (o_const (.int 1) 71) := s_iconst (by decide +kernel : decode cX13_single 70 = .ok (.iconst 1, 1)) (by decide)
theorem oX13_single_71 : OpS mX13_single 71 (o_ibin (fun x y => x + y) 72) := s_iadd (by decide +kernel : decode cX13_single 71 = .ok (.iadd, 1))
theorem oX13_single_72 : OpS mX13_single 72 (o_putI 13 12 75) := s_putI (k := 12) clsX13 (by decide) rfl (Or.inl ⟨wd_1256, Or.inl rfl⟩) (by decide +kernel : decode cX13_single 72 = .ok (.putfield 130, 3)) rfl rfl
theorem oX13_single_75 : OpS mX13_single 75 (o_aload 0 76) := s_aload_n (by decide +kernel : decode cX13_single 75 = .ok (.aload_n 0, 1)) rfl
theorem oX13_single_76 : OpS mX13_single 76 (o_callV mX13_test 13 0 79) := s_callV ceX13_test clsX13 (Or.inl wd_1465) wd_1467 selX13_test (by decide +kernel : decode cX13_single 76 = .ok (.invokevirtual 209, 3))
theorem oX13_single_79 : OpS mX13_single 79 (o_istore 1 3 80) := s_istore_n (by decide +kernel : decode cX13_single 79 = .ok (.istore_n 1, 1)) rfl rfl
theorem oX13_single_80 : OpS mX13_single 80 (o_aload 0 81) := s_aload_n (by decide +kernel : decode cX13_single 80 = .ok (.aload_n 0, 1)) rfl
theorem oX13_single_81 : OpS mX13_single 81 (o_const (.int 4) 82) := s_iconst (by decide +kernel : decode cX13_single 81 = .ok (.iconst 4, 1)) (by decide)
theorem oX13_single_82 : OpS mX13_single 82 (o_const (.int 93) 84) := s_bipush (by decide +kernel : decode cX13_single 82 = .ok (.bipush 93, 2)) (by decide)
theorem oX13_single_84 : OpS mX13_single 84 (o_callV mX13_take 13 2 87) := s_callV ceX13_take clsX13 (Or.inl wd_1411) wd_1413 selX13_take (by decide +kernel : decode cX13_single 84 = .ok (.invokevirtual 200, 3))
theorem oX13_single_87 : OpS mX13_single 87 (o_aload 0 88) := s_aload_n (by decide +kernel : decode cX13_single 87 = .ok (.aload_n 0, 1)) rfl
theorem oX13_single_88 : OpS mX13_single 88 (o_dup 89) := s_dup (by decide +kernel : decode cX13_single 88 = .ok (.dup, 1))
theorem oX13_single_89 : OpS mX13_single 89 (o_getI 13 13 92) := s_getI (k := 13) clsX13 (by decide) rfl (Or.inl wd_1257) (by decide +kernel : decode cX13_single 89 = .ok (.getfield 150, 3)) rfl
theorem oX13_single_92 : OpS mX13_single 92 (o_const (.int 1) 93) := s_iconst (by decide +kernel : decode cX13_single 92 = .ok (.iconst 1, 1)) (by decide)
theorem oX13_single_93 : OpS mX13_single 93 (o_ibin (fun x y => x - y) 94) := s_isub (by decide +kernel : decode cX13_single 93 = .ok (.isub, 1))
theorem oX13_single_94 : OpS mX13_single 94 (o_putI 13 13 97) := s_putI (k := 13) clsX13 (by decide) rfl (Or.inl ⟨wd_1257, Or.inl rfl⟩) (by decide +kernel : decode cX13_single 94 = .ok (.putfield 150, 3)) rfl rfl
theorem oX13_single_97 : OpS mX13_single 97 (o_iload 1 98) := s_iload_n (by decide +kernel : decode cX13_single 97 = .ok (.iload_n 1, 1)) rfl
theorem oX13_single_98 : OpS mX13_single 98 (o_iret) := s_iret rfl (by decide +kernel : decode cX13_single 98 = .ok (.ireturn, 1))
theorem oX13_single_99 : OpS mX13_single 99 (o_aload 0 100) := s_aload_n (by decide +kernel : decode cX13_single 99 = .ok (.aload_n 0, 1)) rfl
theorem oX13_single_100 : OpS mX13_single 100 (o_const (.int 2) 101) := s_iconst (by decide +kernel : decode cX13_single 100 = .ok (.iconst 2, 1)) (by decide)
theorem oX13_single_101 : OpS mX13_single 101 (o_const (.int 12) 103) := s_bipush (by decide +kernel : decode cX13_single 101 = .ok (.bipush 12, 2)) (by decide)
theorem oX13_single_103 : OpS mX13_single 103 (o_callV mX13_is 13 2 106) := s_callV ceX13_is clsX13 (Or.inl wd_1375) wd_1377 selX13_is (by decide +kernel : decode cX13_single 103 = .ok (.invokevirtual 137, 3))
theorem oX13_single_106 : OpS mX13_single 106 (o_if (fun x => x = 0) 145 109) := s_if_eq (by decide +kernel : decode cX13_single 106 = .ok (.ifCond .eq 39, 3)) (by decide)
theorem oX13_single_109 : OpS mX13_single 109 (o_aload 0 110) := s_aload_n (by decide +kernel : decode cX13_single 109 = .ok (.aload_n 0, 1)) rfl
theorem oX13_single_110 : OpS mX13_single 110 (o_dup 111) := s_dup (by decide +kernel : decode cX13_single 110 = .ok (.dup, 1))
theorem oX13_single_111 : OpS mX13_single 111 (o_getI 13 12 114) := s_getI (k := 12) clsX13 (by decide) rfl (Or.inl wd_1256) (by decide +kernel : decode cX13_single 111 = .ok (.getfield 130, 3)) rfl
theorem oX13_single_114 : OpS mX13_single 114 (o_const (.int 1) 115) := s_iconst (by decide +kernel : decode cX13_single 114 = .ok (.iconst 1, 1)) (by decide)
theorem oX13_single_115 : OpS mX13_single 115 (o_ibin (fun x y => x + y) 116) := s_iadd (by decide +kernel : decode cX13_single 115 = .ok (.iadd, 1))
theorem oX13_single_116 : OpS mX13_single 116 (o_putI 13 12 119) := s_putI (k := 12) clsX13 (by decide) rfl (Or.inl ⟨wd_1256, Or.inl rfl⟩) (by decide +kernel : decode cX13_single 116 = .ok (.putfield 130, 3)) rfl rfl
theorem oX13_single_119 : OpS mX13_single 119 (o_aload 0 120) := s_aload_n (by decide +kernel : decode cX13_single 119 = .ok (.aload_n 0, 1)) rfl
theorem oX13_single_120 : OpS mX13_single 120 (o_getP 13 9 123) := s_getP (k := 9) clsX13 (by decide) rfl (Or.inl wd_1253) (by decide +kernel : decode cX13_single 120 = .ok (.getfield 91, 3)) rfl
theorem oX13_single_123 : OpS mX13_single 123 (o_const (.int 12) 125) := s_bipush (by decide +kernel : decode cX13_single 123 = .ok (.bipush 12, 2)) (by decide)
theorem oX13_single_125 : OpS mX13_single 125 (o_aload 0 126) := s_aload_n (by decide +kernel : decode cX13_single 125 = .ok (.aload_n 0, 1)) rfl
theorem oX13_single_126 : OpS mX13_single 126 (o_aload 0 127) := s_aload_n (by decide +kernel : decode cX13_single 126 = .ok (.aload_n 0, 1)) rfl
theorem oX13_single_127 : OpS mX13_single 127 (o_getP 13 11 130) := s_getP (k := 11) clsX13 (by decide) rfl (Or.inl wd_1255) (by decide +kernel : decode cX13_single 127 = .ok (.getfield 97, 3)) rfl
theorem oX13_single_130 : OpS mX13_single 130 (o_aload 0 131) := s_aload_n (by decide +kernel : decode cX13_single 130 = .ok (.aload_n 0, 1)) rfl
theorem oX13_single_131 : OpS mX13_single 131 (o_getP 13 9 134) := s_getP (k := 9) clsX13 (by decide) rfl (Or.inl wd_1253) (by decide +kernel : decode cX13_single 131 = .ok (.getfield 91, 3)) rfl
theorem oX13_single_134 : OpS mX13_single 134 (o_getI 12 1 137) := s_getI (k := 1) clsX12 (by decide) rfl (Or.inr ⟨_, wd_1179⟩) (by decide +kernel : decode cX13_single 134 = .ok (.getfield 181, 3)) rfl
theorem oX13_single_137 : OpS mX13_single 137 (o_callV mX13_known 13 2 140) := s_callV ceX13_known clsX13 (Or.inl wd_1419) wd_1421 selX13_known (by decide +kernel : decode cX13_single 137 = .ok (.invokevirtual 184, 3))
theorem oX13_single_140 : OpS mX13_single 140 (o_const (.int 0) 141) := s_iconst (by decide +kernel : decode cX13_single 140 = .ok (.iconst 0, 1)) (by decide)
theorem oX13_single_141 : OpS mX13_single 141 (o_callV mX12_node 12 3 144) := s_callV ceX12_node clsX12 (Or.inl wd_1449) wd_1450 selX12_node (by decide +kernel : decode cX13_single 141 = .ok (.invokevirtual 169, 3))
theorem oX13_single_144 : OpS mX13_single 144 (o_iret) := s_iret rfl (by decide +kernel : decode cX13_single 144 = .ok (.ireturn, 1))
theorem oX13_single_145 : OpS mX13_single 145 (o_aload 0 146) := s_aload_n (by decide +kernel : decode cX13_single 145 = .ok (.aload_n 0, 1)) rfl
theorem oX13_single_146 : OpS mX13_single 146 (o_const (.int 2) 147) := s_iconst (by decide +kernel : decode cX13_single 146 = .ok (.iconst 2, 1)) (by decide)
theorem oX13_single_147 : OpS mX13_single 147 (o_const (.int 13) 149) := s_bipush (by decide +kernel : decode cX13_single 147 = .ok (.bipush 13, 2)) (by decide)
theorem oX13_single_149 : OpS mX13_single 149 (o_callV mX13_is 13 2 152) := s_callV ceX13_is clsX13 (Or.inl wd_1375) wd_1377 selX13_is (by decide +kernel : decode cX13_single 149 = .ok (.invokevirtual 137, 3))
theorem oX13_single_152 : OpS mX13_single 152 (o_if (fun x => x = 0) 160 155) := s_if_eq (by decide +kernel : decode cX13_single 152 = .ok (.ifCond .eq 8, 3)) (by decide)
theorem oX13_single_155 : OpS mX13_single 155 (o_aload 0 156) := s_aload_n (by decide +kernel : decode cX13_single 155 = .ok (.aload_n 0, 1)) rfl
theorem oX13_single_156 : OpS mX13_single 156 (o_callV mX13_begins 13 0 159) := s_callV ceX13_begins clsX13 (Or.inl wd_1477) wd_1479 selX13_begins (by decide +kernel : decode cX13_single 156 = .ok (.invokevirtual 212, 3))
theorem oX13_single_159 : OpS mX13_single 159 (o_iret) := s_iret rfl (by decide +kernel : decode cX13_single 159 = .ok (.ireturn, 1))
theorem oX13_single_160 : OpS mX13_single 160 (o_aload 0 161) := s_aload_n (by decide +kernel : decode cX13_single 160 = .ok (.aload_n 0, 1)) rfl
theorem oX13_single_161 : OpS mX13_single 161 (o_callV mX13_sum 13 0 164) := s_callV ceX13_sum clsX13 (Or.inl wd_1436) wd_1438 selX13_sum (by decide +kernel : decode cX13_single 161 = .ok (.invokevirtual 197, 3))
theorem oX13_single_164 : OpS mX13_single 164 (o_istore 1 3 165) := s_istore_n (by decide +kernel : decode cX13_single 164 = .ok (.istore_n 1, 1)) rfl rfl
theorem oX13_single_165 : OpS mX13_single 165 (o_aload 0 166) := s_aload_n (by decide +kernel : decode cX13_single 165 = .ok (.aload_n 0, 1)) rfl
theorem oX13_single_166 : OpS mX13_single 166 (o_const (.int 4) 167) := s_iconst (by decide +kernel : decode cX13_single 166 = .ok (.iconst 4, 1)) (by decide)
theorem oX13_single_167 : OpS mX13_single 167 (o_const (.int 60) 169) := s_bipush (by decide +kernel : decode cX13_single 167 = .ok (.bipush 60, 2)) (by decide)
theorem oX13_single_169 : OpS mX13_single 169 (o_callV mX13_is 13 2 172) := s_callV ceX13_is clsX13 (Or.inl wd_1375) wd_1377 selX13_is (by decide +kernel : decode cX13_single 169 = .ok (.invokevirtual 137, 3))
theorem oX13_single_172 : OpS mX13_single 172 (o_if (fun x => x = 0) 175 221) := s_if_ne (by decide +kernel : decode cX13_single 172 = .ok (.ifCond .ne 49, 3)) (by decide)
theorem oX13_single_175 : OpS mX13_single 175 (o_aload 0 176) := s_aload_n (by decide +kernel : decode cX13_single 175 = .ok (.aload_n 0, 1)) rfl
theorem oX13_single_176 : OpS mX13_single 176 (o_const (.int 4) 177) := s_iconst (by decide +kernel : decode cX13_single 176 = .ok (.iconst 4, 1)) (by decide)
theorem oX13_single_177 : OpS mX13_single 177 (o_const (.int 62) 179) := s_bipush (by decide +kernel : decode cX13_single 177 = .ok (.bipush 62, 2)) (by decide)
theorem oX13_single_179 : OpS mX13_single 179 (o_callV mX13_is 13 2 182) := s_callV ceX13_is clsX13 (Or.inl wd_1375) wd_1377 selX13_is (by decide +kernel : decode cX13_single 179 = .ok (.invokevirtual 137, 3))
theorem oX13_single_182 : OpS mX13_single 182 (o_if (fun x => x = 0) 185 221) := s_if_ne (by decide +kernel : decode cX13_single 182 = .ok (.ifCond .ne 39, 3)) (by decide)
theorem oX13_single_185 : OpS mX13_single 185 (o_aload 0 186) := s_aload_n (by decide +kernel : decode cX13_single 185 = .ok (.aload_n 0, 1)) rfl
theorem oX13_single_186 : OpS mX13_single 186 (o_const (.int 4) 187) := s_iconst (by decide +kernel : decode cX13_single 186 = .ok (.iconst 4, 1)) (by decide)
theorem oX13_single_187 : OpS mX13_single 187 (o_const (.int 61) 189) := s_bipush (by decide +kernel : decode cX13_single 187 = .ok (.bipush 61, 2)) (by decide)
theorem oX13_single_189 : OpS mX13_single 189 (o_callV mX13_is 13 2 192) := s_callV ceX13_is clsX13 (Or.inl wd_1375) wd_1377 selX13_is (by decide +kernel : decode cX13_single 189 = .ok (.invokevirtual 137, 3))
theorem oX13_single_192 : OpS mX13_single 192 (o_if (fun x => x = 0) 195 221) := s_if_ne (by decide +kernel : decode cX13_single 192 = .ok (.ifCond .ne 29, 3)) (by decide)
theorem oX13_single_195 : OpS mX13_single 195 (o_aload 0 196) := s_aload_n (by decide +kernel : decode cX13_single 195 = .ok (.aload_n 0, 1)) rfl
theorem oX13_single_196 : OpS mX13_single 196 (o_const (.int 4) 197) := s_iconst (by decide +kernel : decode cX13_single 196 = .ok (.iconst 4, 1)) (by decide)
theorem oX13_single_197 : OpS mX13_single 197 (o_const (.int 108) 199) := s_bipush (by decide +kernel : decode cX13_single 197 = .ok (.bipush 108, 2)) (by decide)
theorem oX13_single_199 : OpS mX13_single 199 (o_callV mX13_is 13 2 202) := s_callV ceX13_is clsX13 (Or.inl wd_1375) wd_1377 selX13_is (by decide +kernel : decode cX13_single 199 = .ok (.invokevirtual 137, 3))
theorem oX13_single_202 : OpS mX13_single 202 (o_if (fun x => x = 0) 205 221) := s_if_ne (by decide +kernel : decode cX13_single 202 = .ok (.ifCond .ne 19, 3)) (by decide)
theorem oX13_single_205 : OpS mX13_single 205 (o_aload 0 206) := s_aload_n (by decide +kernel : decode cX13_single 205 = .ok (.aload_n 0, 1)) rfl
theorem oX13_single_206 : OpS mX13_single 206 (o_const (.int 4) 207) := s_iconst (by decide +kernel : decode cX13_single 206 = .ok (.iconst 4, 1)) (by decide)
theorem oX13_single_207 : OpS mX13_single 207 (o_const (.int 103) 209) := s_bipush (by decide +kernel : decode cX13_single 207 = .ok (.bipush 103, 2)) (by decide)
theorem oX13_single_209 : OpS mX13_single 209 (o_callV mX13_is 13 2 212) := s_callV ceX13_is clsX13 (Or.inl wd_1375) wd_1377 selX13_is (by decide +kernel : decode cX13_single 209 = .ok (.invokevirtual 137, 3))
theorem oX13_single_212 : OpS mX13_single 212 (o_if (fun x => x = 0) 215 221) := s_if_ne (by decide +kernel : decode cX13_single 212 = .ok (.ifCond .ne 9, 3)) (by decide)
theorem oX13_single_215 : OpS mX13_single 215 (o_aload 0 216) := s_aload_n (by decide +kernel : decode cX13_single 215 = .ok (.aload_n 0, 1)) rfl
theorem oX13_single_216 : OpS mX13_single 216 (o_callV mX13_fail 13 0 219) := s_callV ceX13_fail clsX13 (Or.inl wd_1391) wd_1393 selX13_fail (by decide +kernel : decode cX13_single 216 = .ok (.invokevirtual 141, 3))
theorem oX13_single_219 : OpS mX13_single 219 (o_const (.int 0) 220) := s_iconst (by decide +kernel : decode cX13_single 219 = .ok (.iconst 0, 1)) (by decide)
theorem oX13_single_220 : OpS mX13_single 220 (o_iret) := s_iret rfl (by decide +kernel : decode cX13_single 220 = .ok (.ireturn, 1))
theorem oX13_single_221 : OpS mX13_single 221 (o_aload 0 222) := s_aload_n (by decide +kernel : decode cX13_single 221 = .ok (.aload_n 0, 1)) rfl
theorem oX13_single_222 : OpS mX13_single 222 (o_getP 13 5 225) := s_getP (k := 5) clsX13 (by decide) rfl (Or.inl wd_1249) (by decide +kernel : decode cX13_single 222 = .ok (.getfield 42, 3)) rfl
theorem oX13_single_225 : OpS mX13_single 225 (o_aload 0 226) := s_aload_n (by decide +kernel : decode cX13_single 225 = .ok (.aload_n 0, 1)) rfl
theorem oX13_single_226 : OpS mX13_single 226 (o_getI 13 12 229) := s_getI (k := 12) clsX13 (by decide) rfl (Or.inl wd_1256) (by decide +kernel : decode cX13_single 226 = .ok (.getfield 130, 3)) rfl
theorem oX13_single_229 : OpS mX13_single 229 (o_iald 230) := s_iald (by decide +kernel : decode cX13_single 229 = .ok (.iaload, 1))
theorem oX13_single_230 : OpS mX13_single 230 (o_istore 2 3 231) := s_istore_n (by decide +kernel : decode cX13_single 230 = .ok (.istore_n 2, 1)) rfl rfl
theorem oX13_single_231 : OpS mX13_single 231 (o_aload 0 232) := s_aload_n (by decide +kernel : decode cX13_single 231 = .ok (.aload_n 0, 1)) rfl
theorem oX13_single_232 : OpS mX13_single 232 (o_dup 233) := s_dup (by decide +kernel : decode cX13_single 232 = .ok (.dup, 1))
theorem oX13_single_233 : OpS mX13_single 233 (o_getI 13 12 236) := s_getI (k := 12) clsX13 (by decide) rfl (Or.inl wd_1256) (by decide +kernel : decode cX13_single 233 = .ok (.getfield 130, 3)) rfl
theorem oX13_single_236 : OpS mX13_single 236 (o_const (.int 1) 237) := s_iconst (by decide +kernel : decode cX13_single 236 = .ok (.iconst 1, 1)) (by decide)
theorem oX13_single_237 : OpS mX13_single 237 (o_ibin (fun x y => x + y) 238) := s_iadd (by decide +kernel : decode cX13_single 237 = .ok (.iadd, 1))
theorem oX13_single_238 : OpS mX13_single 238 (o_putI 13 12 241) := s_putI (k := 12) clsX13 (by decide) rfl (Or.inl ⟨wd_1256, Or.inl rfl⟩) (by decide +kernel : decode cX13_single 238 = .ok (.putfield 130, 3)) rfl rfl
theorem oX13_single_241 : OpS mX13_single 241 (o_aload 0 242) := s_aload_n (by decide +kernel : decode cX13_single 241 = .ok (.aload_n 0, 1)) rfl
theorem oX13_single_242 : OpS mX13_single 242 (o_getP 13 9 245) := s_getP (k := 9) clsX13 (by decide) rfl (Or.inl wd_1253) (by decide +kernel : decode cX13_single 242 = .ok (.getfield 91, 3)) rfl
theorem oX13_single_245 : OpS mX13_single 245 (o_iload 2 246) := s_iload_n (by decide +kernel : decode cX13_single 245 = .ok (.iload_n 2, 1)) rfl
theorem oX13_single_246 : OpS mX13_single 246 (o_iload 1 247) := s_iload_n (by decide +kernel : decode cX13_single 246 = .ok (.iload_n 1, 1)) rfl
theorem oX13_single_247 : OpS mX13_single 247 (o_aload 0 248) := s_aload_n (by decide +kernel : decode cX13_single 247 = .ok (.aload_n 0, 1)) rfl
theorem oX13_single_248 : OpS mX13_single 248 (o_callV mX13_sum 13 0 251) := s_callV ceX13_sum clsX13 (Or.inl wd_1436) wd_1438 selX13_sum (by decide +kernel : decode cX13_single 248 = .ok (.invokevirtual 197, 3))
theorem oX13_single_251 : OpS mX13_single 251 (o_callV mX12_node 12 3 254) := s_callV ceX12_node clsX12 (Or.inl wd_1449) wd_1450 selX12_node (by decide +kernel : decode cX13_single 251 = .ok (.invokevirtual 169, 3))
theorem oX13_single_254 : OpS mX13_single 254 (o_iret) := s_iret rfl (by decide +kernel : decode cX13_single 254 = .ok (.ireturn, 1))
theorem oX13_begins_0 : OpS mX13_begins 0 (o_aload 0 1) := s_aload_n (by decide +kernel : decode cX13_begins 0 = .ok (.aload_n 0, 1)) rfl
theorem oX13_begins_1 : OpS mX13_begins 1 (o_dup 2) := s_dup (by decide +kernel : decode cX13_begins 1 = .ok (.dup, 1))
theorem oX13_begins_2 : OpS mX13_begins 2 (o_getI 13 12 5) := s_getI (k := 12) clsX13 (by decide) rfl (Or.inl wd_1256) (by decide +kernel : decode cX13_begins 2 = .ok (.getfield 130, 3)) rfl
theorem oX13_begins_5 : OpS mX13_begins 5 (o_const (.int 1) 6) := s_iconst (by decide +kernel : decode cX13_begins 5 = .ok (.iconst 1, 1)) (by decide)
theorem oX13_begins_6 : OpS mX13_begins 6 (o_ibin (fun x y => x + y) 7) := s_iadd (by decide +kernel : decode cX13_begins 6 = .ok (.iadd, 1))
theorem oX13_begins_7 : OpS mX13_begins 7 (o_putI 13 12 10) := s_putI (k := 12) clsX13 (by decide) rfl (Or.inl ⟨wd_1256, Or.inl rfl⟩) (by decide +kernel : decode cX13_begins 7 = .ok (.putfield 130, 3)) rfl rfl
theorem oX13_begins_10 : OpS mX13_begins 10 (o_aload 0 11) := s_aload_n (by decide +kernel : decode cX13_begins 10 = .ok (.aload_n 0, 1)) rfl
theorem oX13_begins_11 : OpS mX13_begins 11 (o_callV mX13_name 13 0 14) := s_callV ceX13_name clsX13 (Or.inl wd_1387) wd_1389 selX13_name (by decide +kernel : decode cX13_begins 11 = .ok (.invokevirtual 156, 3))
theorem oX13_begins_14 : OpS mX13_begins 14 (o_istore 1 4 15) := s_istore_n (by decide +kernel : decode cX13_begins 14 = .ok (.istore_n 1, 1)) rfl rfl
theorem oX13_begins_15 : OpS mX13_begins 15 (o_aload 0 16) := s_aload_n (by decide +kernel : decode cX13_begins 15 = .ok (.aload_n 0, 1)) rfl
theorem oX13_begins_16 : OpS mX13_begins 16 (o_callV mX13_isOk 13 0 19) := s_callV ceX13_isOk clsX13 (Or.inl wd_1367) wd_1369 selX13_isOk (by decide +kernel : decode cX13_begins 16 = .ok (.invokevirtual 133, 3))
theorem oX13_begins_19 : OpS mX13_begins 19 (o_if (fun x => x = 0) 22 24) := s_if_ne (by decide +kernel : decode cX13_begins 19 = .ok (.ifCond .ne 5, 3)) (by decide)
theorem oX13_begins_22 : OpS mX13_begins 22 (o_const (.int 0) 23) := s_iconst (by decide +kernel : decode cX13_begins 22 = .ok (.iconst 0, 1)) (by decide)
theorem oX13_begins_23 : OpS mX13_begins 23 (o_iret) := s_iret rfl (by decide +kernel : decode cX13_begins 23 = .ok (.ireturn, 1))
theorem oX13_begins_24 : OpS mX13_begins 24 (o_aload 0 25) := s_aload_n (by decide +kernel : decode cX13_begins 24 = .ok (.aload_n 0, 1)) rfl
theorem oX13_begins_25 : OpS mX13_begins 25 (o_getP 13 9 28) := s_getP (k := 9) clsX13 (by decide) rfl (Or.inl wd_1253) (by decide +kernel : decode cX13_begins 25 = .ok (.getfield 91, 3)) rfl
theorem oX13_begins_28 : OpS mX13_begins 28 (o_getI 12 14 31) := s_getI (k := 14) clsX12 (by decide) rfl (Or.inr ⟨_, wd_1204⟩) (by decide +kernel : decode cX13_begins 28 = .ok (.getfield 215, 3)) rfl
theorem oX13_begins_31 : OpS mX13_begins 31 (o_istore 2 4 32) := s_istore_n (by decide +kernel : decode cX13_begins 31 = .ok (.istore_n 2, 1)) rfl rfl
theorem oX13_begins_32 : OpS mX13_begins 32 (o_const (.int 0) 33) := s_iconst (by decide +kernel : decode cX13_begins 32 = .ok (.iconst 0, 1)) (by decide)
theorem oX13_begins_33 : OpS mX13_begins 33 (o_istore 3 4 34) := s_istore_n (by decide +kernel : decode cX13_begins 33 = .ok (.istore_n 3, 1)) rfl rfl
theorem oX13_begins_34 : OpS mX13_begins 34 (o_iload 3 35) := s_iload_n (by decide +kernel : decode cX13_begins 34 = .ok (.iload_n 3, 1)) rfl
theorem oX13_begins_35 : OpS mX13_begins 35 (o_aload 0 36) := s_aload_n (by decide +kernel : decode cX13_begins 35 = .ok (.aload_n 0, 1)) rfl
theorem oX13_begins_36 : OpS mX13_begins 36 (o_getP 13 7 39) := s_getP (k := 7) clsX13 (by decide) rfl (Or.inl wd_1251) (by decide +kernel : decode cX13_begins 36 = .ok (.getfield 39, 3)) rfl
theorem oX13_begins_39 : OpS mX13_begins 39 (o_iload 1 40) := s_iload_n (by decide +kernel : decode cX13_begins 39 = .ok (.iload_n 1, 1)) rfl
theorem oX13_begins_40 : OpS mX13_begins 40 (o_iald 41) := s_iald (by decide +kernel : decode cX13_begins 40 = .ok (.iaload, 1))
theorem oX13_begins_41 : OpS mX13_begins 41 (o_icmp (fun x y => y ≤ x) 91 44) := s_icmp_ge (by decide +kernel : decode cX13_begins 41 = .ok (.if_icmp .ge 50, 3)) (by decide)
theorem oX13_begins_44 : OpS mX13_begins 44 (o_aload 0 45) := s_aload_n (by decide +kernel : decode cX13_begins 44 = .ok (.aload_n 0, 1)) rfl
theorem oX13_begins_45 : OpS mX13_begins 45 (o_getP 13 9 48) := s_getP (k := 9) clsX13 (by decide) rfl (Or.inl wd_1253) (by decide +kernel : decode cX13_begins 45 = .ok (.getfield 91, 3)) rfl
theorem oX13_begins_48 : OpS mX13_begins 48 (o_getP 12 15 51) := s_getP (k := 15) clsX12 (by decide) rfl (Or.inr ⟨_, wd_1206⟩) (by decide +kernel : decode cX13_begins 48 = .ok (.getfield 218, 3)) rfl
theorem oX13_begins_51 : OpS mX13_begins 51 (o_aload 0 52) := s_aload_n (by decide +kernel : decode cX13_begins 51 = .ok (.aload_n 0, 1)) rfl
theorem oX13_begins_52 : OpS mX13_begins 52 (o_getP 13 9 55) := s_getP (k := 9) clsX13 (by decide) rfl (Or.inl wd_1253) (by decide +kernel : decode cX13_begins 52 = .ok (.getfield 91, 3)) rfl
theorem oX13_begins_55 : OpS mX13_begins 55 (o_getI 12 14 58) := s_getI (k := 14) clsX12 (by decide) rfl (Or.inr ⟨_, wd_1204⟩) (by decide +kernel : decode cX13_begins 55 = .ok (.getfield 215, 3)) rfl
theorem oX13_begins_58 : OpS mX13_begins 58 (o_aload 0 59) := s_aload_n (by decide +kernel : decode cX13_begins 58 = .ok (.aload_n 0, 1)) rfl
theorem oX13_begins_59 : OpS mX13_begins 59 (o_getP 13 1 62) := s_getP (k := 1) clsX13 (by decide) rfl (Or.inl wd_1245) (by decide +kernel : decode cX13_begins 59 = .ok (.getfield 18, 3)) rfl
theorem oX13_begins_62 : OpS mX13_begins 62 (o_aload 0 63) := s_aload_n (by decide +kernel : decode cX13_begins 62 = .ok (.aload_n 0, 1)) rfl
theorem oX13_begins_63 : OpS mX13_begins 63 (o_getP 13 6 66) := s_getP (k := 6) clsX13 (by decide) rfl (Or.inl wd_1250) (by decide +kernel : decode cX13_begins 63 = .ok (.getfield 29, 3)) rfl
theorem oX13_begins_66 : OpS mX13_begins 66 (o_iload 1 67) := s_iload_n (by decide +kernel : decode cX13_begins 66 = .ok (.iload_n 1, 1)) rfl
theorem oX13_begins_67 : OpS mX13_begins 67 (o_iald 68) := s_iald (by decide +kernel : decode cX13_begins 67 = .ok (.iaload, 1))
theorem oX13_begins_68 : OpS mX13_begins 68 (o_iload 3 69) := s_iload_n (by decide +kernel : decode cX13_begins 68 = .ok (.iload_n 3, 1)) rfl
theorem oX13_begins_69 : OpS mX13_begins 69 (o_ibin (fun x y => x + y) 70) := s_iadd (by decide +kernel : decode cX13_begins 69 = .ok (.iadd, 1))
theorem oX13_begins_70 : OpS mX13_begins 70 (o_iald 71) := s_iald (by decide +kernel : decode cX13_begins 70 = .ok (.iaload, 1))
theorem oX13_begins_71 : OpS mX13_begins 71 (o_iast 72) := s_iast (by decide +kernel : decode cX13_begins 71 = .ok (.iastore, 1))
theorem oX13_begins_72 : OpS mX13_begins 72 (o_aload 0 73) := s_aload_n (by decide +kernel : decode cX13_begins 72 = .ok (.aload_n 0, 1)) rfl
theorem oX13_begins_73 : OpS mX13_begins 73 (o_getP 13 9 76) := s_getP (k := 9) clsX13 (by decide) rfl (Or.inl wd_1253) (by decide +kernel : decode cX13_begins 73 = .ok (.getfield 91, 3)) rfl
theorem oX13_begins_76 : OpS mX13_begins 76 (o_dup 77) := s_dup (by decide +kernel : decode cX13_begins 76 = .ok (.dup, 1))
theorem oX13_begins_77 : OpS mX13_begins 77 (o_getI 12 14 80) := s_getI (k := 14) clsX12 (by decide) rfl (Or.inr ⟨_, wd_1204⟩) (by decide +kernel : decode cX13_begins 77 = .ok (.getfield 215, 3)) rfl
theorem oX13_begins_80 : OpS mX13_begins 80 (o_const (.int 1) 81) := s_iconst (by decide +kernel : decode cX13_begins 80 = .ok (.iconst 1, 1)) (by decide)
theorem oX13_begins_81 : OpS mX13_begins 81 (o_ibin (fun x y => x + y) 82) := s_iadd (by decide +kernel : decode cX13_begins 81 = .ok (.iadd, 1))
theorem oX13_begins_82 : OpS mX13_begins 82 (o_putI 12 14 85) := s_putI (k := 14) clsX12 (by decide) rfl (Or.inr ⟨rfl, _, wd_1204⟩) (by decide +kernel : decode cX13_begins 82 = .ok (.putfield 215, 3)) rfl rfl
theorem oX13_begins_85 : OpS mX13_begins 85 (o_iinc 3 4 1 88) := s_iinc (by decide +kernel : decode cX13_begins 85 = .ok (.iinc 3 1, 3)) (by decide) rfl
theorem oX13_begins_88 : OpS mX13_begins 88 (o_goto 34) := s_goto (by decide +kernel : decode cX13_begins 88 = .ok (.goto (-54), 3)) (by decide)
theorem oX13_begins_91 : OpS mX13_begins 91 (o_aload 0 92) := s_aload_n (by decide +kernel : decode cX13_begins 91 = .ok (.aload_n 0, 1)) rfl
theorem oX13_begins_92 : OpS mX13_begins 92 (o_getP 13 9 95) := s_getP (k := 9) clsX13 (by decide) rfl (Or.inl wd_1253) (by decide +kernel : decode cX13_begins 92 = .ok (.getfield 91, 3)) rfl
theorem oX13_begins_95 : OpS mX13_begins 95 (o_const (.int 13) 97) := s_bipush (by decide +kernel : decode cX13_begins 95 = .ok (.bipush 13, 2)) (by decide)
theorem oX13_begins_97 : OpS mX13_begins 97 (o_iload 2 98) := s_iload_n (by decide +kernel : decode cX13_begins 97 = .ok (.iload_n 2, 1)) rfl
theorem oX13_begins_98 : OpS mX13_begins 98 (o_aload 0 99) := s_aload_n (by decide +kernel : decode cX13_begins 98 = .ok (.aload_n 0, 1)) rfl
theorem oX13_begins_99 : OpS mX13_begins 99 (o_getP 13 7 102) := s_getP (k := 7) clsX13 (by decide) rfl (Or.inl wd_1251) (by decide +kernel : decode cX13_begins 99 = .ok (.getfield 39, 3)) rfl
theorem oX13_begins_102 : OpS mX13_begins 102 (o_iload 1 103) := s_iload_n (by decide +kernel : decode cX13_begins 102 = .ok (.iload_n 1, 1)) rfl
theorem oX13_begins_103 : OpS mX13_begins 103 (o_iald 104) := s_iald (by decide +kernel : decode cX13_begins 103 = .ok (.iaload, 1))
theorem oX13_begins_104 : OpS mX13_begins 104 (o_callV mX12_node 12 3 107) := s_callV ceX12_node clsX12 (Or.inl wd_1449) wd_1450 selX12_node (by decide +kernel : decode cX13_begins 104 = .ok (.invokevirtual 169, 3))
theorem oX13_begins_107 : OpS mX13_begins 107 (o_iret) := s_iret rfl (by decide +kernel : decode cX13_begins 107 = .ok (.ireturn, 1))
theorem oX13_line_0 : OpS mX13_line 0 (o_aload 0 1) := s_aload_n (by decide +kernel : decode cX13_line 0 = .ok (.aload_n 0, 1)) rfl
theorem oX13_line_1 : OpS mX13_line 1 (o_const (.int 2) 2) := s_iconst (by decide +kernel : decode cX13_line 1 = .ok (.iconst 2, 1)) (by decide)
theorem oX13_line_2 : OpS mX13_line 2 (o_const (.int 0) 3) := s_iconst (by decide +kernel : decode cX13_line 2 = .ok (.iconst 0, 1)) (by decide)
theorem oX13_line_3 : OpS mX13_line 3 (o_callV mX13_is 13 2 6) := s_callV ceX13_is clsX13 (Or.inl wd_1375) wd_1377 selX13_is (by decide +kernel : decode cX13_line 3 = .ok (.invokevirtual 137, 3))
theorem oX13_line_6 : OpS mX13_line 6 (o_if (fun x => x = 0) 16 9) := s_if_eq (by decide +kernel : decode cX13_line 6 = .ok (.ifCond .eq 10, 3)) (by decide)
theorem oX13_line_9 : OpS mX13_line 9 (o_aload 0 10) := s_aload_n (by decide +kernel : decode cX13_line 9 = .ok (.aload_n 0, 1)) rfl
theorem oX13_line_10 : OpS mX13_line 10 (o_callV mX13_readTag 13 0 13) := s_callV ceX13_readTag clsX13 (Or.inl wd_1379) wd_1381 selX13_readTag (by decide +kernel : decode cX13_line 10 = .ok (.invokevirtual 221, 3))
theorem oX13_line_13 : OpS mX13_line 13 (o_goto 68) := s_goto (by decide +kernel : decode cX13_line 13 = .ok (.goto 55, 3)) (by decide)
theorem oX13_line_16 : OpS mX13_line 16 (o_aload 0 17) := s_aload_n (by decide +kernel : decode cX13_line 16 = .ok (.aload_n 0, 1)) rfl
theorem oX13_line_17 : OpS mX13_line 17 (o_const (.int 2) 18) := s_iconst (by decide +kernel : decode cX13_line 17 = .ok (.iconst 2, 1)) (by decide)
theorem oX13_line_18 : OpS mX13_line 18 (o_const (.int 1) 19) := s_iconst (by decide +kernel : decode cX13_line 18 = .ok (.iconst 1, 1)) (by decide)
theorem oX13_line_19 : OpS mX13_line 19 (o_callV mX13_is 13 2 22) := s_callV ceX13_is clsX13 (Or.inl wd_1375) wd_1377 selX13_is (by decide +kernel : decode cX13_line 19 = .ok (.invokevirtual 137, 3))
theorem oX13_line_22 : OpS mX13_line 22 (o_if (fun x => x = 0) 32 25) := s_if_eq (by decide +kernel : decode cX13_line 22 = .ok (.ifCond .eq 10, 3)) (by decide)
theorem oX13_line_25 : OpS mX13_line 25 (o_aload 0 26) := s_aload_n (by decide +kernel : decode cX13_line 25 = .ok (.aload_n 0, 1)) rfl
theorem oX13_line_26 : OpS mX13_line 26 (o_callV mX13_readEntry 13 0 29) := s_callV ceX13_readEntry clsX13 (Or.inl wd_1407) wd_1409 selX13_readEntry (by decide +kernel : decode cX13_line 26 = .ok (.invokevirtual 224, 3))
theorem oX13_line_29 : OpS mX13_line 29 (o_goto 68) := s_goto (by decide +kernel : decode cX13_line 29 = .ok (.goto 39, 3)) (by decide)
theorem oX13_line_32 : OpS mX13_line 32 (o_aload 0 33) := s_aload_n (by decide +kernel : decode cX13_line 32 = .ok (.aload_n 0, 1)) rfl
theorem oX13_line_33 : OpS mX13_line 33 (o_const (.int 2) 34) := s_iconst (by decide +kernel : decode cX13_line 33 = .ok (.iconst 2, 1)) (by decide)
theorem oX13_line_34 : OpS mX13_line 34 (o_const (.int 4) 35) := s_iconst (by decide +kernel : decode cX13_line 34 = .ok (.iconst 4, 1)) (by decide)
theorem oX13_line_35 : OpS mX13_line 35 (o_callV mX13_is 13 2 38) := s_callV ceX13_is clsX13 (Or.inl wd_1375) wd_1377 selX13_is (by decide +kernel : decode cX13_line 35 = .ok (.invokevirtual 137, 3))
theorem oX13_line_38 : OpS mX13_line 38 (o_if (fun x => x = 0) 48 41) := s_if_eq (by decide +kernel : decode cX13_line 38 = .ok (.ifCond .eq 10, 3)) (by decide)
theorem oX13_line_41 : OpS mX13_line 41 (o_aload 0 42) := s_aload_n (by decide +kernel : decode cX13_line 41 = .ok (.aload_n 0, 1)) rfl
theorem oX13_line_42 : OpS mX13_line 42 (o_callV mX13_readRows 13 0 45) := s_callV ceX13_readRows clsX13 (Or.inl wd_1423) wd_1425 selX13_readRows (by decide +kernel : decode cX13_line 42 = .ok (.invokevirtual 227, 3))
theorem oX13_line_45 : OpS mX13_line 45 (o_goto 68) := s_goto (by decide +kernel : decode cX13_line 45 = .ok (.goto 23, 3)) (by decide)
theorem oX13_line_48 : OpS mX13_line 48 (o_aload 0 49) := s_aload_n (by decide +kernel : decode cX13_line 48 = .ok (.aload_n 0, 1)) rfl
theorem oX13_line_49 : OpS mX13_line 49 (o_const (.int 2) 50) := s_iconst (by decide +kernel : decode cX13_line 49 = .ok (.iconst 2, 1)) (by decide)
theorem oX13_line_50 : OpS mX13_line 50 (o_const (.int 5) 51) := s_iconst (by decide +kernel : decode cX13_line 50 = .ok (.iconst 5, 1)) (by decide)
theorem oX13_line_51 : OpS mX13_line 51 (o_callV mX13_is 13 2 54) := s_callV ceX13_is clsX13 (Or.inl wd_1375) wd_1377 selX13_is (by decide +kernel : decode cX13_line 51 = .ok (.invokevirtual 137, 3))
theorem oX13_line_54 : OpS mX13_line 54 (o_if (fun x => x = 0) 64 57) := s_if_eq (by decide +kernel : decode cX13_line 54 = .ok (.ifCond .eq 10, 3)) (by decide)
theorem oX13_line_57 : OpS mX13_line 57 (o_aload 0 58) := s_aload_n (by decide +kernel : decode cX13_line 57 = .ok (.aload_n 0, 1)) rfl
theorem oX13_line_58 : OpS mX13_line 58 (o_callV mX13_readBoost 13 0 61) := s_callV ceX13_readBoost clsX13 (Or.inl wd_1432) wd_1434 selX13_readBoost (by decide +kernel : decode cX13_line 58 = .ok (.invokevirtual 230, 3))
theorem oX13_line_61 : OpS mX13_line 61 (o_goto 68) := s_goto (by decide +kernel : decode cX13_line 61 = .ok (.goto 7, 3)) (by decide)
theorem oX13_line_64 : OpS mX13_line 64 (o_aload 0 65) := s_aload_n (by decide +kernel : decode cX13_line 64 = .ok (.aload_n 0, 1)) rfl
theorem oX13_line_65 : OpS mX13_line 65 (o_callV mX13_fail 13 0 68) := s_callV ceX13_fail clsX13 (Or.inl wd_1391) wd_1393 selX13_fail (by decide +kernel : decode cX13_line 65 = .ok (.invokevirtual 141, 3))
theorem oX13_line_68 : OpS mX13_line 68 (o_aload 0 69) := s_aload_n (by decide +kernel : decode cX13_line 68 = .ok (.aload_n 0, 1)) rfl
theorem oX13_line_69 : OpS mX13_line 69 (o_const (.int 4) 70) := s_iconst (by decide +kernel : decode cX13_line 69 = .ok (.iconst 4, 1)) (by decide)
theorem oX13_line_70 : OpS mX13_line 70 (o_const (.int 59) 72) := s_bipush (by decide +kernel : decode cX13_line 70 = .ok (.bipush 59, 2)) (by decide)
theorem oX13_line_72 : OpS mX13_line 72 (o_callV mX13_take 13 2 75) := s_callV ceX13_take clsX13 (Or.inl wd_1411) wd_1413 selX13_take (by decide +kernel : decode cX13_line 72 = .ok (.invokevirtual 200, 3))
theorem oX13_line_75 : OpS mX13_line 75 (o_vret) := s_vret rfl (by decide +kernel : decode cX13_line 75 = .ok (.return_, 1))
theorem oX13_readTag_0 : OpS mX13_readTag 0 (o_aload 0 1) := s_aload_n (by decide +kernel : decode cX13_readTag 0 = .ok (.aload_n 0, 1)) rfl
theorem oX13_readTag_1 : OpS mX13_readTag 1 (o_dup 2) := s_dup (by decide +kernel : decode cX13_readTag 1 = .ok (.dup, 1))
theorem oX13_readTag_2 : OpS mX13_readTag 2 (o_getI 13 12 5) := s_getI (k := 12) clsX13 (by decide) rfl (Or.inl wd_1256) (by decide +kernel : decode cX13_readTag 2 = .ok (.getfield 130, 3)) rfl
theorem oX13_readTag_5 : OpS mX13_readTag 5 (o_const (.int 1) 6) := s_iconst (by decide +kernel : decode cX13_readTag 5 = .ok (.iconst 1, 1)) (by decide)
theorem oX13_readTag_6 : OpS mX13_readTag 6 (o_ibin (fun x y => x + y) 7) := s_iadd (by decide +kernel : decode cX13_readTag 6 = .ok (.iadd, 1))
theorem oX13_readTag_7 : OpS mX13_readTag 7 (o_putI 13 12 10) := s_putI (k := 12) clsX13 (by decide) rfl (Or.inl ⟨wd_1256, Or.inl rfl⟩) (by decide +kernel : decode cX13_readTag 7 = .ok (.putfield 130, 3)) rfl rfl
theorem oX13_readTag_10 : OpS mX13_readTag 10 (o_aload 0 11) := s_aload_n (by decide +kernel : decode cX13_readTag 10 = .ok (.aload_n 0, 1)) rfl
theorem oX13_readTag_11 : OpS mX13_readTag 11 (o_aload 0 12) := s_aload_n (by decide +kernel : decode cX13_readTag 11 = .ok (.aload_n 0, 1)) rfl
theorem oX13_readTag_12 : OpS mX13_readTag 12 (o_getP 13 10 15) := s_getP (k := 10) clsX13 (by decide) rfl (Or.inl wd_1254) (by decide +kernel : decode cX13_readTag 12 = .ok (.getfield 94, 3)) rfl
theorem oX13_readTag_15 : OpS mX13_readTag 15 (o_aload 0 16) := s_aload_n (by decide +kernel : decode cX13_readTag 15 = .ok (.aload_n 0, 1)) rfl
theorem oX13_readTag_16 : OpS mX13_readTag 16 (o_getP 13 9 19) := s_getP (k := 9) clsX13 (by decide) rfl (Or.inl wd_1253) (by decide +kernel : decode cX13_readTag 16 = .ok (.getfield 91, 3)) rfl
theorem oX13_readTag_19 : OpS mX13_readTag 19 (o_getI 12 0 22) := s_getI (k := 0) clsX12 (by decide) rfl (Or.inr ⟨_, wd_1177⟩) (by decide +kernel : decode cX13_readTag 19 = .ok (.getfield 233, 3)) rfl
theorem oX13_readTag_22 : OpS mX13_readTag 22 (o_const (.int 6) 24) := s_bipush (by decide +kernel : decode cX13_readTag 22 = .ok (.bipush 6, 2)) (by decide)
theorem oX13_readTag_24 : OpS mX13_readTag 24 (o_callV mX13_fresh 13 3 27) := s_callV ceX13_fresh clsX13 (Or.inl wd_1383) wd_1385 selX13_fresh (by decide +kernel : decode cX13_readTag 24 = .ok (.invokevirtual 236, 3))
theorem oX13_readTag_27 : OpS mX13_readTag 27 (o_istore 1 2 28) := s_istore_n (by decide +kernel : decode cX13_readTag 27 = .ok (.istore_n 1, 1)) rfl rfl
theorem oX13_readTag_28 : OpS mX13_readTag 28 (o_aload 0 29) := s_aload_n (by decide +kernel : decode cX13_readTag 28 = .ok (.aload_n 0, 1)) rfl
theorem oX13_readTag_29 : OpS mX13_readTag 29 (o_getP 13 9 32) := s_getP (k := 9) clsX13 (by decide) rfl (Or.inl wd_1253) (by decide +kernel : decode cX13_readTag 29 = .ok (.getfield 91, 3)) rfl
theorem oX13_readTag_32 : OpS mX13_readTag 32 (o_getI 12 0 35) := s_getI (k := 0) clsX12 (by decide) rfl (Or.inr ⟨_, wd_1177⟩) (by decide +kernel : decode cX13_readTag 32 = .ok (.getfield 233, 3)) rfl
theorem oX13_readTag_35 : OpS mX13_readTag 35 (o_const (.int 6) 37) := s_bipush (by decide +kernel : decode cX13_readTag 35 = .ok (.bipush 6, 2)) (by decide)
theorem oX13_readTag_37 : OpS mX13_readTag 37 (o_icmp (fun x y => x = y) 40 41) := s_icmp_ne (by decide +kernel : decode cX13_readTag 37 = .ok (.if_icmp .ne 4, 3)) (by decide)
theorem oX13_readTag_40 : OpS mX13_readTag 40 (o_vret) := s_vret rfl (by decide +kernel : decode cX13_readTag 40 = .ok (.return_, 1))
theorem oX13_readTag_41 : OpS mX13_readTag 41 (o_aload 0 42) := s_aload_n (by decide +kernel : decode cX13_readTag 41 = .ok (.aload_n 0, 1)) rfl
theorem oX13_readTag_42 : OpS mX13_readTag 42 (o_getP 13 10 45) := s_getP (k := 10) clsX13 (by decide) rfl (Or.inl wd_1254) (by decide +kernel : decode cX13_readTag 42 = .ok (.getfield 94, 3)) rfl
theorem oX13_readTag_45 : OpS mX13_readTag 45 (o_aload 0 46) := s_aload_n (by decide +kernel : decode cX13_readTag 45 = .ok (.aload_n 0, 1)) rfl
theorem oX13_readTag_46 : OpS mX13_readTag 46 (o_getP 13 9 49) := s_getP (k := 9) clsX13 (by decide) rfl (Or.inl wd_1253) (by decide +kernel : decode cX13_readTag 46 = .ok (.getfield 91, 3)) rfl
theorem oX13_readTag_49 : OpS mX13_readTag 49 (o_getI 12 0 52) := s_getI (k := 0) clsX12 (by decide) rfl (Or.inr ⟨_, wd_1177⟩) (by decide +kernel : decode cX13_readTag 49 = .ok (.getfield 233, 3)) rfl
theorem oX13_readTag_52 : OpS mX13_readTag 52 (o_iload 1 53) := s_iload_n (by decide +kernel : decode cX13_readTag 52 = .ok (.iload_n 1, 1)) rfl
theorem oX13_readTag_53 : OpS mX13_readTag 53 (o_iast 54) := s_iast (by decide +kernel : decode cX13_readTag 53 = .ok (.iastore, 1))
theorem oX13_readTag_54 : OpS mX13_readTag 54 (o_aload 0 55) := s_aload_n (by decide +kernel : decode cX13_readTag 54 = .ok (.aload_n 0, 1)) rfl
theorem oX13_readTag_55 : OpS mX13_readTag 55 (o_getP 13 9 58) := s_getP (k := 9) clsX13 (by decide) rfl (Or.inl wd_1253) (by decide +kernel : decode cX13_readTag 55 = .ok (.getfield 91, 3)) rfl
theorem oX13_readTag_58 : OpS mX13_readTag 58 (o_dup 59) := s_dup (by decide +kernel : decode cX13_readTag 58 = .ok (.dup, 1))
theorem oX13_readTag_59 : OpS mX13_readTag 59 (o_getI 12 0 62) := s_getI (k := 0) clsX12 (by decide) rfl (Or.inr ⟨_, wd_1177⟩) (by decide +kernel : decode cX13_readTag 59 = .ok (.getfield 233, 3)) rfl
theorem oX13_readTag_62 : OpS mX13_readTag 62 (o_const (.int 1) 63) := s_iconst (by decide +kernel : decode cX13_readTag 62 = .ok (.iconst 1, 1)) (by decide)
theorem oX13_readTag_63 : OpS mX13_readTag 63 (o_ibin (fun x y => x + y) 64) := s_iadd (by decide +kernel : decode cX13_readTag 63 = .ok (.iadd, 1))
theorem oX13_readTag_64 : OpS mX13_readTag 64 (o_putI 12 0 67) := s_putI (k := 0) clsX12 (by decide) rfl (Or.inr ⟨rfl, _, wd_1177⟩) (by decide +kernel : decode cX13_readTag 64 = .ok (.putfield 233, 3)) rfl rfl
theorem oX13_readTag_67 : OpS mX13_readTag 67 (o_vret) := s_vret rfl (by decide +kernel : decode cX13_readTag 67 = .ok (.return_, 1))
theorem oX13_readEntry_0 : OpS mX13_readEntry 0 (o_aload 0 1) := s_aload_n (by decide +kernel : decode cX13_readEntry 0 = .ok (.aload_n 0, 1)) rfl
theorem oX13_readEntry_1 : OpS mX13_readEntry 1 (o_dup 2) := s_dup (by decide +kernel : decode cX13_readEntry 1 = .ok (.dup, 1))
theorem oX13_readEntry_2 : OpS mX13_readEntry 2 (o_getI 13 12 5) := s_getI (k := 12) clsX13 (by decide) rfl (Or.inl wd_1256) (by decide +kernel : decode cX13_readEntry 2 = .ok (.getfield 130, 3)) rfl
theorem oX13_readEntry_5 : OpS mX13_readEntry 5 (o_const (.int 1) 6) := s_iconst (by decide +kernel : decode cX13_readEntry 5 = .ok (.iconst 1, 1)) (by decide)
theorem oX13_readEntry_6 : OpS mX13_readEntry 6 (o_ibin (fun x y => x + y) 7) := s_iadd (by decide +kernel : decode cX13_readEntry 6 = .ok (.iadd, 1))
theorem oX13_readEntry_7 : OpS mX13_readEntry 7 (o_putI 13 12 10) := s_putI (k := 12) clsX13 (by decide) rfl (Or.inl ⟨wd_1256, Or.inl rfl⟩) (by decide +kernel : decode cX13_readEntry 7 = .ok (.putfield 130, 3)) rfl rfl
theorem oX13_readEntry_10 : OpS mX13_readEntry 10 (o_aload 0 11) := s_aload_n (by decide +kernel : decode cX13_readEntry 10 = .ok (.aload_n 0, 1)) rfl
theorem oX13_readEntry_11 : OpS mX13_readEntry 11 (o_aload 0 12) := s_aload_n (by decide +kernel : decode cX13_readEntry 11 = .ok (.aload_n 0, 1)) rfl
theorem oX13_readEntry_12 : OpS mX13_readEntry 12 (o_getP 13 11 15) := s_getP (k := 11) clsX13 (by decide) rfl (Or.inl wd_1255) (by decide +kernel : decode cX13_readEntry 12 = .ok (.getfield 97, 3)) rfl
theorem oX13_readEntry_15 : OpS mX13_readEntry 15 (o_aload 0 16) := s_aload_n (by decide +kernel : decode cX13_readEntry 15 = .ok (.aload_n 0, 1)) rfl
theorem oX13_readEntry_16 : OpS mX13_readEntry 16 (o_getP 13 9 19) := s_getP (k := 9) clsX13 (by decide) rfl (Or.inl wd_1253) (by decide +kernel : decode cX13_readEntry 16 = .ok (.getfield 91, 3)) rfl
theorem oX13_readEntry_19 : OpS mX13_readEntry 19 (o_getI 12 1 22) := s_getI (k := 1) clsX12 (by decide) rfl (Or.inr ⟨_, wd_1179⟩) (by decide +kernel : decode cX13_readEntry 19 = .ok (.getfield 181, 3)) rfl
theorem oX13_readEntry_22 : OpS mX13_readEntry 22 (o_const (.int 40) 24) := s_bipush (by decide +kernel : decode cX13_readEntry 22 = .ok (.bipush 40, 2)) (by decide)
theorem oX13_readEntry_24 : OpS mX13_readEntry 24 (o_callV mX13_fresh 13 3 27) := s_callV ceX13_fresh clsX13 (Or.inl wd_1383) wd_1385 selX13_fresh (by decide +kernel : decode cX13_readEntry 24 = .ok (.invokevirtual 236, 3))
theorem oX13_readEntry_27 : OpS mX13_readEntry 27 (o_istore 1 5 28) := s_istore_n (by decide +kernel : decode cX13_readEntry 27 = .ok (.istore_n 1, 1)) rfl rfl
theorem oX13_readEntry_28 : OpS mX13_readEntry 28 (o_aload 0 29) := s_aload_n (by decide +kernel : decode cX13_readEntry 28 = .ok (.aload_n 0, 1)) rfl
theorem oX13_readEntry_29 : OpS mX13_readEntry 29 (o_const (.int 2) 30) := s_iconst (by decide +kernel : decode cX13_readEntry 29 = .ok (.iconst 2, 1)) (by decide)
theorem oX13_readEntry_30 : OpS mX13_readEntry 30 (o_const (.int 2) 31) := s_iconst (by decide +kernel : decode cX13_readEntry 30 = .ok (.iconst 2, 1)) (by decide)
theorem oX13_readEntry_31 : OpS mX13_readEntry 31 (o_callV mX13_take 13 2 34) := s_callV ceX13_take clsX13 (Or.inl wd_1411) wd_1413 selX13_take (by decide +kernel : decode cX13_readEntry 31 = .ok (.invokevirtual 200, 3))
theorem oX13_readEntry_34 : OpS mX13_readEntry 34 (o_aload 0 35) := s_aload_n (by decide +kernel : decode cX13_readEntry 34 = .ok (.aload_n 0, 1)) rfl
theorem oX13_readEntry_35 : OpS mX13_readEntry 35 (o_const (.int 0) 36) := s_iconst (by decide +kernel : decode cX13_readEntry 35 = .ok (.iconst 0, 1)) (by decide)
theorem oX13_readEntry_36 : OpS mX13_readEntry 36 (o_const (.int 9999) 39) := s_sipush (by decide +kernel : decode cX13_readEntry 36 = .ok (.sipush 9999, 3)) (by decide)
theorem oX13_readEntry_39 : OpS mX13_readEntry 39 (o_callV mX13_number 13 2 42) := s_callV ceX13_number clsX13 (Or.inl wd_1415) wd_1417 selX13_number (by decide +kernel : decode cX13_readEntry 39 = .ok (.invokevirtual 177, 3))
theorem oX13_readEntry_42 : OpS mX13_readEntry 42 (o_istore 2 5 43) := s_istore_n (by decide +kernel : decode cX13_readEntry 42 = .ok (.istore_n 2, 1)) rfl rfl
theorem oX13_readEntry_43 : OpS mX13_readEntry 43 (o_const (.int (-1)) 44) := s_iconst (by decide +kernel : decode cX13_readEntry 43 = .ok (.iconst (-1), 1)) (by decide)
theorem oX13_readEntry_44 : OpS mX13_readEntry 44 (o_istore 3 5 45) := s_istore_n (by decide +kernel : decode cX13_readEntry 44 = .ok (.istore_n 3, 1)) rfl rfl
theorem oX13_readEntry_45 : OpS mX13_readEntry 45 (o_aload 0 46) := s_aload_n (by decide +kernel : decode cX13_readEntry 45 = .ok (.aload_n 0, 1)) rfl
theorem oX13_readEntry_46 : OpS mX13_readEntry 46 (o_const (.int 2) 47) := s_iconst (by decide +kernel : decode cX13_readEntry 46 = .ok (.iconst 2, 1)) (by decide)
theorem oX13_readEntry_47 : OpS mX13_readEntry 47 (o_const (.int 3) 48) := s_iconst (by decide +kernel : decode cX13_readEntry 47 = .ok (.iconst 3, 1)) (by decide)
theorem oX13_readEntry_48 : OpS mX13_readEntry 48 (o_callV mX13_is 13 2 51) := s_callV ceX13_is clsX13 (Or.inl wd_1375) wd_1377 selX13_is (by decide +kernel : decode cX13_readEntry 48 = .ok (.invokevirtual 137, 3))
theorem oX13_readEntry_51 : OpS mX13_readEntry 51 (o_if (fun x => x = 0) 80 54) := s_if_eq (by decide +kernel : decode cX13_readEntry 51 = .ok (.ifCond .eq 29, 3)) (by decide)
theorem oX13_readEntry_54 : OpS mX13_readEntry 54 (o_aload 0 55) := s_aload_n (by decide +kernel : decode cX13_readEntry 54 = .ok (.aload_n 0, 1)) rfl
theorem oX13_readEntry_55 : OpS mX13_readEntry 55 (o_dup 56) := s_dup (by decide +kernel : decode cX13_readEntry 55 = .ok (.dup, 1))
theorem oX13_readEntry_56 : OpS mX13_readEntry 56 (o_getI 13 12 59) := s_getI (k := 12) clsX13 (by decide) rfl (Or.inl wd_1256) (by decide +kernel : decode cX13_readEntry 56 = .ok (.getfield 130, 3)) rfl
theorem oX13_readEntry_59 : OpS mX13_readEntry 59 (o_const (.int 1) 60) := s_iconst (by decide +kernel : decode cX13_readEntry 59 = .ok (.iconst 1, 1)) (by decide)
theorem oX13_readEntry_60 : OpS mX13_readEntry 60 (o_ibin (fun x y => x + y) 61) := s_iadd (by decide +kernel : decode cX13_readEntry 60 = .ok (.iadd, 1))
theorem oX13_readEntry_61 : OpS mX13_readEntry 61 (o_putI 13 12 64) := s_putI (k := 12) clsX13 (by decide) rfl (Or.inl ⟨wd_1256, Or.inl rfl⟩) (by decide +kernel : decode cX13_readEntry 61 = .ok (.putfield 130, 3)) rfl rfl
theorem oX13_readEntry_64 : OpS mX13_readEntry 64 (o_aload 0 65) := s_aload_n (by decide +kernel : decode cX13_readEntry 64 = .ok (.aload_n 0, 1)) rfl
theorem oX13_readEntry_65 : OpS mX13_readEntry 65 (o_aload 0 66) := s_aload_n (by decide +kernel : decode cX13_readEntry 65 = .ok (.aload_n 0, 1)) rfl
theorem oX13_readEntry_66 : OpS mX13_readEntry 66 (o_getP 13 10 69) := s_getP (k := 10) clsX13 (by decide) rfl (Or.inl wd_1254) (by decide +kernel : decode cX13_readEntry 66 = .ok (.getfield 94, 3)) rfl
theorem oX13_readEntry_69 : OpS mX13_readEntry 69 (o_aload 0 70) := s_aload_n (by decide +kernel : decode cX13_readEntry 69 = .ok (.aload_n 0, 1)) rfl
theorem oX13_readEntry_70 : OpS mX13_readEntry 70 (o_getP 13 9 73) := s_getP (k := 9) clsX13 (by decide) rfl (Or.inl wd_1253) (by decide +kernel : decode cX13_readEntry 70 = .ok (.getfield 91, 3)) rfl
theorem oX13_readEntry_73 : OpS mX13_readEntry 73 (o_getI 12 0 76) := s_getI (k := 0) clsX12 (by decide) rfl (Or.inr ⟨_, wd_1177⟩) (by decide +kernel : decode cX13_readEntry 73 = .ok (.getfield 233, 3)) rfl
theorem oX13_readEntry_76 : OpS mX13_readEntry 76 (o_callV mX13_known 13 2 79) := s_callV ceX13_known clsX13 (Or.inl wd_1419) wd_1421 selX13_known (by decide +kernel : decode cX13_readEntry 76 = .ok (.invokevirtual 184, 3))
theorem oX13_readEntry_79 : OpS mX13_readEntry 79 (o_istore 3 5 80) := s_istore_n (by decide +kernel : decode cX13_readEntry 79 = .ok (.istore_n 3, 1)) rfl rfl
theorem oX13_readEntry_80 : OpS mX13_readEntry 80 (o_aload 0 81) := s_aload_n (by decide +kernel : decode cX13_readEntry 80 = .ok (.aload_n 0, 1)) rfl
theorem oX13_readEntry_81 : OpS mX13_readEntry 81 (o_callV mX13_isOk 13 0 84) := s_callV ceX13_isOk clsX13 (Or.inl wd_1367) wd_1369 selX13_isOk (by decide +kernel : decode cX13_readEntry 81 = .ok (.invokevirtual 133, 3))
theorem oX13_readEntry_84 : OpS mX13_readEntry 84 (o_if (fun x => x = 0) 99 87) := s_if_eq (by decide +kernel : decode cX13_readEntry 84 = .ok (.ifCond .eq 15, 3)) (by decide)
theorem oX13_readEntry_87 : OpS mX13_readEntry 87 (o_aload 0 88) := s_aload_n (by decide +kernel : decode cX13_readEntry 87 = .ok (.aload_n 0, 1)) rfl
theorem oX13_readEntry_88 : OpS mX13_readEntry 88 (o_getP 13 9 91) := s_getP (k := 9) clsX13 (by decide) rfl (Or.inl wd_1253) (by decide +kernel : decode cX13_readEntry 88 = .ok (.getfield 91, 3)) rfl
theorem oX13_readEntry_91 : OpS mX13_readEntry 91 (o_getI 12 1 94) := s_getI (k := 1) clsX12 (by decide) rfl (Or.inr ⟨_, wd_1179⟩) (by decide +kernel : decode cX13_readEntry 91 = .ok (.getfield 181, 3)) rfl
theorem oX13_readEntry_94 : OpS mX13_readEntry 94 (o_const (.int 40) 96) := s_bipush (by decide +kernel : decode cX13_readEntry 94 = .ok (.bipush 40, 2)) (by decide)
theorem oX13_readEntry_96 : OpS mX13_readEntry 96 (o_icmp (fun x y => x = y) 99 100) := s_icmp_ne (by decide +kernel : decode cX13_readEntry 96 = .ok (.if_icmp .ne 4, 3)) (by decide)
theorem oX13_readEntry_99 : OpS mX13_readEntry 99 (o_vret) := s_vret rfl (by decide +kernel : decode cX13_readEntry 99 = .ok (.return_, 1))
theorem oX13_readEntry_100 : OpS mX13_readEntry 100 (o_const (.int 0) 101) := s_iconst (by decide +kernel : decode cX13_readEntry 100 = .ok (.iconst 0, 1)) (by decide)
theorem oX13_readEntry_101 : OpS mX13_readEntry 101 (o_istore 4 5 103) := s_istore (by decide +kernel : decode cX13_readEntry 101 = .ok (.istore 4, 2)) rfl
theorem oX13_readEntry_103 : OpS mX13_readEntry 103 (o_iload 4 105) := s_iload (by decide +kernel : decode cX13_readEntry 103 = .ok (.iload 4, 2))
theorem oX13_readEntry_105 : OpS mX13_readEntry 105 (o_aload 0 106) := s_aload_n (by decide +kernel : decode cX13_readEntry 105 = .ok (.aload_n 0, 1)) rfl
theorem oX13_readEntry_106 : OpS mX13_readEntry 106 (o_getP 13 7 109) := s_getP (k := 7) clsX13 (by decide) rfl (Or.inl wd_1251) (by decide +kernel : decode cX13_readEntry 106 = .ok (.getfield 39, 3)) rfl
theorem oX13_readEntry_109 : OpS mX13_readEntry 109 (o_iload 1 110) := s_iload_n (by decide +kernel : decode cX13_readEntry 109 = .ok (.iload_n 1, 1)) rfl
theorem oX13_readEntry_110 : OpS mX13_readEntry 110 (o_iald 111) := s_iald (by decide +kernel : decode cX13_readEntry 110 = .ok (.iaload, 1))
theorem oX13_readEntry_111 : OpS mX13_readEntry 111 (o_icmp (fun x y => y ≤ x) 155 114) := s_icmp_ge (by decide +kernel : decode cX13_readEntry 111 = .ok (.if_icmp .ge 44, 3)) (by decide)
theorem oX13_readEntry_114 : OpS mX13_readEntry 114 (o_aload 0 115) := s_aload_n (by decide +kernel : decode cX13_readEntry 114 = .ok (.aload_n 0, 1)) rfl
theorem oX13_readEntry_115 : OpS mX13_readEntry 115 (o_getP 13 9 118) := s_getP (k := 9) clsX13 (by decide) rfl (Or.inl wd_1253) (by decide +kernel : decode cX13_readEntry 115 = .ok (.getfield 91, 3)) rfl
theorem oX13_readEntry_118 : OpS mX13_readEntry 118 (o_getP 12 4 121) := s_getP (k := 4) clsX12 (by decide) rfl (Or.inr ⟨_, wd_1185⟩) (by decide +kernel : decode cX13_readEntry 118 = .ok (.getfield 239, 3)) rfl
theorem oX13_readEntry_121 : OpS mX13_readEntry 121 (o_const (.int 10) 123) := s_bipush (by decide +kernel : decode cX13_readEntry 121 = .ok (.bipush 10, 2)) (by decide)
theorem oX13_readEntry_123 : OpS mX13_readEntry 123 (o_aload 0 124) := s_aload_n (by decide +kernel : decode cX13_readEntry 123 = .ok (.aload_n 0, 1)) rfl
theorem oX13_readEntry_124 : OpS mX13_readEntry 124 (o_getP 13 9 127) := s_getP (k := 9) clsX13 (by decide) rfl (Or.inl wd_1253) (by decide +kernel : decode cX13_readEntry 124 = .ok (.getfield 91, 3)) rfl
theorem oX13_readEntry_127 : OpS mX13_readEntry 127 (o_getI 12 1 130) := s_getI (k := 1) clsX12 (by decide) rfl (Or.inr ⟨_, wd_1179⟩) (by decide +kernel : decode cX13_readEntry 127 = .ok (.getfield 181, 3)) rfl
theorem oX13_readEntry_130 : OpS mX13_readEntry 130 (o_ibin (fun x y => x * y) 131) := s_imul (by decide +kernel : decode cX13_readEntry 130 = .ok (.imul, 1))
theorem oX13_readEntry_131 : OpS mX13_readEntry 131 (o_iload 4 133) := s_iload (by decide +kernel : decode cX13_readEntry 131 = .ok (.iload 4, 2))
theorem oX13_readEntry_133 : OpS mX13_readEntry 133 (o_ibin (fun x y => x + y) 134) := s_iadd (by decide +kernel : decode cX13_readEntry 133 = .ok (.iadd, 1))
theorem oX13_readEntry_134 : OpS mX13_readEntry 134 (o_aload 0 135) := s_aload_n (by decide +kernel : decode cX13_readEntry 134 = .ok (.aload_n 0, 1)) rfl
theorem oX13_readEntry_135 : OpS mX13_readEntry 135 (o_getP 13 1 138) := s_getP (k := 1) clsX13 (by decide) rfl (Or.inl wd_1245) (by decide +kernel : decode cX13_readEntry 135 = .ok (.getfield 18, 3)) rfl
theorem oX13_readEntry_138 : OpS mX13_readEntry 138 (o_aload 0 139) := s_aload_n (by decide +kernel : decode cX13_readEntry 138 = .ok (.aload_n 0, 1)) rfl
theorem oX13_readEntry_139 : OpS mX13_readEntry 139 (o_getP 13 6 142) := s_getP (k := 6) clsX13 (by decide) rfl (Or.inl wd_1250) (by decide +kernel : decode cX13_readEntry 139 = .ok (.getfield 29, 3)) rfl
theorem oX13_readEntry_142 : OpS mX13_readEntry 142 (o_iload 1 143) := s_iload_n (by decide +kernel : decode cX13_readEntry 142 = .ok (.iload_n 1, 1)) rfl
theorem oX13_readEntry_143 : OpS mX13_readEntry 143 (o_iald 144) := s_iald (by decide +kernel : decode cX13_readEntry 143 = .ok (.iaload, 1))
theorem oX13_readEntry_144 : OpS mX13_readEntry 144 (o_iload 4 146) := s_iload (by decide +kernel : decode cX13_readEntry 144 = .ok (.iload 4, 2))
theorem oX13_readEntry_146 : OpS mX13_readEntry 146 (o_ibin (fun x y => x + y) 147) := s_iadd (by decide +kernel : decode cX13_readEntry 146 = .ok (.iadd, 1))
theorem oX13_readEntry_147 : OpS mX13_readEntry 147 (o_iald 148) := s_iald (by decide +kernel : decode cX13_readEntry 147 = .ok (.iaload, 1))
theorem oX13_readEntry_148 : OpS mX13_readEntry 148 (o_iast 149) := s_iast (by decide +kernel : decode cX13_readEntry 148 = .ok (.iastore, 1))
theorem oX13_readEntry_149 : OpS mX13_readEntry 149 (o_iinc 4 5 1 152) := s_iinc (by decide +kernel : decode cX13_readEntry 149 = .ok (.iinc 4 1, 3)) (by decide) rfl
theorem oX13_readEntry_152 : OpS mX13_readEntry 152 (o_goto 103) := s_goto (by decide +kernel : decode cX13_readEntry 152 = .ok (.goto (-49), 3)) (by decide)
theorem oX13_readEntry_155 : OpS mX13_readEntry 155 (o_aload 0 156) := s_aload_n (by decide +kernel : decode cX13_readEntry 155 = .ok (.aload_n 0, 1)) rfl
theorem oX13_readEntry_156 : OpS mX13_readEntry 156 (o_getP 13 9 159) := s_getP (k := 9) clsX13 (by decide) rfl (Or.inl wd_1253) (by decide +kernel : decode cX13_readEntry 156 = .ok (.getfield 91, 3)) rfl
theorem oX13_readEntry_159 : OpS mX13_readEntry 159 (o_getP 12 5 162) := s_getP (k := 5) clsX12 (by decide) rfl (Or.inr ⟨_, wd_1187⟩) (by decide +kernel : decode cX13_readEntry 159 = .ok (.getfield 242, 3)) rfl
theorem oX13_readEntry_162 : OpS mX13_readEntry 162 (o_aload 0 163) := s_aload_n (by decide +kernel : decode cX13_readEntry 162 = .ok (.aload_n 0, 1)) rfl
theorem oX13_readEntry_163 : OpS mX13_readEntry 163 (o_getP 13 9 166) := s_getP (k := 9) clsX13 (by decide) rfl (Or.inl wd_1253) (by decide +kernel : decode cX13_readEntry 163 = .ok (.getfield 91, 3)) rfl
theorem oX13_readEntry_166 : OpS mX13_readEntry 166 (o_getI 12 1 169) := s_getI (k := 1) clsX12 (by decide) rfl (Or.inr ⟨_, wd_1179⟩) (by decide +kernel : decode cX13_readEntry 166 = .ok (.getfield 181, 3)) rfl
theorem oX13_readEntry_169 : OpS mX13_readEntry 169 (o_aload 0 170) := s_aload_n (by decide +kernel : decode cX13_readEntry 169 = .ok (.aload_n 0, 1)) rfl
theorem oX13_readEntry_170 : OpS mX13_readEntry 170 (o_getP 13 7 173) := s_getP (k := 7) clsX13 (by decide) rfl (Or.inl wd_1251) (by decide +kernel : decode cX13_readEntry 170 = .ok (.getfield 39, 3)) rfl
theorem oX13_readEntry_173 : OpS mX13_readEntry 173 (o_iload 1 174) := s_iload_n (by decide +kernel : decode cX13_readEntry 173 = .ok (.iload_n 1, 1)) rfl
theorem oX13_readEntry_174 : OpS mX13_readEntry 174 (o_iald 175) := s_iald (by decide +kernel : decode cX13_readEntry 174 = .ok (.iaload, 1))
theorem oX13_readEntry_175 : OpS mX13_readEntry 175 (o_iast 176) := s_iast (by decide +kernel : decode cX13_readEntry 175 = .ok (.iastore, 1))
theorem oX13_readEntry_176 : OpS mX13_readEntry 176 (o_aload 0 177) := s_aload_n (by decide +kernel : decode cX13_readEntry 176 = .ok (.aload_n 0, 1)) rfl
theorem oX13_readEntry_177 : OpS mX13_readEntry 177 (o_getP 13 9 180) := s_getP (k := 9) clsX13 (by decide) rfl (Or.inl wd_1253) (by decide +kernel : decode cX13_readEntry 177 = .ok (.getfield 91, 3)) rfl
theorem oX13_readEntry_180 : OpS mX13_readEntry 180 (o_getP 12 6 183) := s_getP (k := 6) clsX12 (by decide) rfl (Or.inr ⟨_, wd_1189⟩) (by decide +kernel : decode cX13_readEntry 180 = .ok (.getfield 243, 3)) rfl
theorem oX13_readEntry_183 : OpS mX13_readEntry 183 (o_aload 0 184) := s_aload_n (by decide +kernel : decode cX13_readEntry 183 = .ok (.aload_n 0, 1)) rfl
theorem oX13_readEntry_184 : OpS mX13_readEntry 184 (o_getP 13 9 187) := s_getP (k := 9) clsX13 (by decide) rfl (Or.inl wd_1253) (by decide +kernel : decode cX13_readEntry 184 = .ok (.getfield 91, 3)) rfl
theorem oX13_readEntry_187 : OpS mX13_readEntry 187 (o_getI 12 1 190) := s_getI (k := 1) clsX12 (by decide) rfl (Or.inr ⟨_, wd_1179⟩) (by decide +kernel : decode cX13_readEntry 187 = .ok (.getfield 181, 3)) rfl
theorem oX13_readEntry_190 : OpS mX13_readEntry 190 (o_iload 2 191) := s_iload_n (by decide +kernel : decode cX13_readEntry 190 = .ok (.iload_n 2, 1)) rfl
theorem oX13_readEntry_191 : OpS mX13_readEntry 191 (o_iast 192) := s_iast (by decide +kernel : decode cX13_readEntry 191 = .ok (.iastore, 1))
theorem oX13_readEntry_192 : OpS mX13_readEntry 192 (o_aload 0 193) := s_aload_n (by decide +kernel : decode cX13_readEntry 192 = .ok (.aload_n 0, 1)) rfl
theorem oX13_readEntry_193 : OpS mX13_readEntry 193 (o_getP 13 9 196) := s_getP (k := 9) clsX13 (by decide) rfl (Or.inl wd_1253) (by decide +kernel : decode cX13_readEntry 193 = .ok (.getfield 91, 3)) rfl
theorem oX13_readEntry_196 : OpS mX13_readEntry 196 (o_getP 12 7 199) := s_getP (k := 7) clsX12 (by decide) rfl (Or.inr ⟨_, wd_1191⟩) (by decide +kernel : decode cX13_readEntry 196 = .ok (.getfield 246, 3)) rfl
theorem oX13_readEntry_199 : OpS mX13_readEntry 199 (o_aload 0 200) := s_aload_n (by decide +kernel : decode cX13_readEntry 199 = .ok (.aload_n 0, 1)) rfl
theorem oX13_readEntry_200 : OpS mX13_readEntry 200 (o_getP 13 9 203) := s_getP (k := 9) clsX13 (by decide) rfl (Or.inl wd_1253) (by decide +kernel : decode cX13_readEntry 200 = .ok (.getfield 91, 3)) rfl
theorem oX13_readEntry_203 : OpS mX13_readEntry 203 (o_getI 12 1 206) := s_getI (k := 1) clsX12 (by decide) rfl (Or.inr ⟨_, wd_1179⟩) (by decide +kernel : decode cX13_readEntry 203 = .ok (.getfield 181, 3)) rfl
theorem oX13_readEntry_206 : OpS mX13_readEntry 206 (o_iload 3 207) := s_iload_n (by decide +kernel : decode cX13_readEntry 206 = .ok (.iload_n 3, 1)) rfl
theorem oX13_readEntry_207 : OpS mX13_readEntry 207 (o_iast 208) := s_iast (by decide +kernel : decode cX13_readEntry 207 = .ok (.iastore, 1))
theorem oX13_readEntry_208 : OpS mX13_readEntry 208 (o_aload 0 209) := s_aload_n (by decide +kernel : decode cX13_readEntry 208 = .ok (.aload_n 0, 1)) rfl
theorem oX13_readEntry_209 : OpS mX13_readEntry 209 (o_getP 13 11 212) := s_getP (k := 11) clsX13 (by decide) rfl (Or.inl wd_1255) (by decide +kernel : decode cX13_readEntry 209 = .ok (.getfield 97, 3)) rfl
theorem oX13_readEntry_212 : OpS mX13_readEntry 212 (o_aload 0 213) := s_aload_n (by decide +kernel : decode cX13_readEntry 212 = .ok (.aload_n 0, 1)) rfl
theorem oX13_readEntry_213 : OpS mX13_readEntry 213 (o_getP 13 9 216) := s_getP (k := 9) clsX13 (by decide) rfl (Or.inl wd_1253) (by decide +kernel : decode cX13_readEntry 213 = .ok (.getfield 91, 3)) rfl
theorem oX13_readEntry_216 : OpS mX13_readEntry 216 (o_getI 12 1 219) := s_getI (k := 1) clsX12 (by decide) rfl (Or.inr ⟨_, wd_1179⟩) (by decide +kernel : decode cX13_readEntry 216 = .ok (.getfield 181, 3)) rfl
theorem oX13_readEntry_219 : OpS mX13_readEntry 219 (o_iload 1 220) := s_iload_n (by decide +kernel : decode cX13_readEntry 219 = .ok (.iload_n 1, 1)) rfl
theorem oX13_readEntry_220 : OpS mX13_readEntry 220 (o_iast 221) := s_iast (by decide +kernel : decode cX13_readEntry 220 = .ok (.iastore, 1))
theorem oX13_readEntry_221 : OpS mX13_readEntry 221 (o_aload 0 222) := s_aload_n (by decide +kernel : decode cX13_readEntry 221 = .ok (.aload_n 0, 1)) rfl
theorem oX13_readEntry_222 : OpS mX13_readEntry 222 (o_getP 13 9 225) := s_getP (k := 9) clsX13 (by decide) rfl (Or.inl wd_1253) (by decide +kernel : decode cX13_readEntry 222 = .ok (.getfield 91, 3)) rfl
theorem oX13_readEntry_225 : OpS mX13_readEntry 225 (o_dup 226) := s_dup (by decide +kernel : decode cX13_readEntry 225 = .ok (.dup, 1))
theorem oX13_readEntry_226 : OpS mX13_readEntry 226 (o_getI 12 1 229) := s_getI (k := 1) clsX12 (by decide) rfl (Or.inr ⟨_, wd_1179⟩) (by decide +kernel : decode cX13_readEntry 226 = .ok (.getfield 181, 3)) rfl
theorem oX13_readEntry_229 : OpS mX13_readEntry 229 (o_const (.int 1) 230) := s_iconst (by decide +kernel : decode cX13_readEntry 229 = .ok (.iconst 1, 1)) (by decide)
theorem oX13_readEntry_230 : OpS mX13_readEntry 230 (o_ibin (fun x y => x + y) 231) := s_iadd (by decide +kernel : decode cX13_readEntry 230 = .ok (.iadd, 1))
theorem oX13_readEntry_231 : OpS mX13_readEntry 231 (o_putI 12 1 234) := s_putI (k := 1) clsX12 (by decide) rfl (Or.inr ⟨rfl, _, wd_1179⟩) (by decide +kernel : decode cX13_readEntry 231 = .ok (.putfield 181, 3)) rfl rfl
theorem oX13_readEntry_234 : OpS mX13_readEntry 234 (o_vret) := s_vret rfl (by decide +kernel : decode cX13_readEntry 234 = .ok (.return_, 1))
theorem oX13_readRows_0 : OpS mX13_readRows 0 (o_aload 0 1) := s_aload_n (by decide +kernel : decode cX13_readRows 0 = .ok (.aload_n 0, 1)) rfl
theorem oX13_readRows_1 : OpS mX13_readRows 1 (o_dup 2) := s_dup (by decide +kernel : decode cX13_readRows 1 = .ok (.dup, 1))
theorem oX13_readRows_2 : OpS mX13_readRows 2 (o_getI 13 12 5) := s_getI (k := 12) clsX13 (by decide) rfl (Or.inl wd_1256) (by decide +kernel : decode cX13_readRows 2 = .ok (.getfield 130, 3)) rfl
theorem oX13_readRows_5 : OpS mX13_readRows 5 (o_const (.int 1) 6) := s_iconst (by decide +kernel : decode cX13_readRows 5 = .ok (.iconst 1, 1)) (by decide)
theorem oX13_readRows_6 : OpS mX13_readRows 6 (o_ibin (fun x y => x + y) 7) := s_iadd (by decide +kernel : decode cX13_readRows 6 = .ok (.iadd, 1))
theorem oX13_readRows_7 : OpS mX13_readRows 7 (o_putI 13 12 10) := s_putI (k := 12) clsX13 (by decide) rfl (Or.inl ⟨wd_1256, Or.inl rfl⟩) (by decide +kernel : decode cX13_readRows 7 = .ok (.putfield 130, 3)) rfl rfl
theorem oX13_readRows_10 : OpS mX13_readRows 10 (o_aload 0 11) := s_aload_n (by decide +kernel : decode cX13_readRows 10 = .ok (.aload_n 0, 1)) rfl
theorem oX13_readRows_11 : OpS mX13_readRows 11 (o_callV mX13_readRow 13 0 14) := s_callV ceX13_readRow clsX13 (Or.inl wd_1427) wd_1429 selX13_readRow (by decide +kernel : decode cX13_readRows 11 = .ok (.invokevirtual 249, 3))
theorem oX13_readRows_14 : OpS mX13_readRows 14 (o_aload 0 15) := s_aload_n (by decide +kernel : decode cX13_readRows 14 = .ok (.aload_n 0, 1)) rfl
theorem oX13_readRows_15 : OpS mX13_readRows 15 (o_const (.int 4) 16) := s_iconst (by decide +kernel : decode cX13_readRows 15 = .ok (.iconst 4, 1)) (by decide)
theorem oX13_readRows_16 : OpS mX13_readRows 16 (o_const (.int 44) 18) := s_bipush (by decide +kernel : decode cX13_readRows 16 = .ok (.bipush 44, 2)) (by decide)
theorem oX13_readRows_18 : OpS mX13_readRows 18 (o_callV mX13_is 13 2 21) := s_callV ceX13_is clsX13 (Or.inl wd_1375) wd_1377 selX13_is (by decide +kernel : decode cX13_readRows 18 = .ok (.invokevirtual 137, 3))
theorem oX13_readRows_21 : OpS mX13_readRows 21 (o_if (fun x => x = 0) 41 24) := s_if_eq (by decide +kernel : decode cX13_readRows 21 = .ok (.ifCond .eq 20, 3)) (by decide)
theorem oX13_readRows_24 : OpS mX13_readRows 24 (o_aload 0 25) := s_aload_n (by decide +kernel : decode cX13_readRows 24 = .ok (.aload_n 0, 1)) rfl
theorem oX13_readRows_25 : OpS mX13_readRows 25 (o_dup 26) := s_dup (by decide +kernel : decode cX13_readRows 25 = .ok (.dup, 1))
theorem oX13_readRows_26 : OpS mX13_readRows 26 (o_getI 13 12 29) := s_getI (k := 12) clsX13 (by decide) rfl (Or.inl wd_1256) (by decide +kernel : decode cX13_readRows 26 = .ok (.getfield 130, 3)) rfl
theorem oX13_readRows_29 : OpS mX13_readRows 29 (o_const (.int 1) 30) := s_iconst (by decide +kernel : decode cX13_readRows 29 = .ok (.iconst 1, 1)) (by decide)
theorem oX13_readRows_30 : OpS mX13_readRows 30 (o_ibin (fun x y => x + y) 31) := s_iadd (by decide +kernel : decode cX13_readRows 30 = .ok (.iadd, 1))
theorem oX13_readRows_31 : OpS mX13_readRows 31 (o_putI 13 12 34) := s_putI (k := 12) clsX13 (by decide) rfl (Or.inl ⟨wd_1256, Or.inl rfl⟩) (by decide +kernel : decode cX13_readRows 31 = .ok (.putfield 130, 3)) rfl rfl
theorem oX13_readRows_34 : OpS mX13_readRows 34 (o_aload 0 35) := s_aload_n (by decide +kernel : decode cX13_readRows 34 = .ok (.aload_n 0, 1)) rfl
theorem oX13_readRows_35 : OpS mX13_readRows 35 (o_callV mX13_readRow 13 0 38) := s_callV ceX13_readRow clsX13 (Or.inl wd_1427) wd_1429 selX13_readRow (by decide +kernel : decode cX13_readRows 35 = .ok (.invokevirtual 249, 3))
theorem oX13_readRows_38 : OpS mX13_readRows 38 (o_goto 14) := s_goto (by decide +kernel : decode cX13_readRows 38 = .ok (.goto (-24), 3)) (by decide)
theorem oX13_readRows_41 : OpS mX13_readRows 41 (o_vret) := s_vret rfl (by decide +kernel : decode cX13_readRows 41 = .ok (.return_, 1))
theorem oX13_readRow_0 : OpS mX13_readRow 0 (o_aload 0 1) := s_aload_n (by decide +kernel : decode cX13_readRow 0 = .ok (.aload_n 0, 1)) rfl
theorem oX13_readRow_1 : OpS mX13_readRow 1 (o_callV mX13_name 13 0 4) := s_callV ceX13_name clsX13 (Or.inl wd_1387) wd_1389 selX13_name (by decide +kernel : decode cX13_readRow 1 = .ok (.invokevirtual 156, 3))
theorem oX13_readRow_4 : OpS mX13_readRow 4 (o_istore 1 4 5) := s_istore_n (by decide +kernel : decode cX13_readRow 4 = .ok (.istore_n 1, 1)) rfl rfl
theorem oX13_readRow_5 : OpS mX13_readRow 5 (o_aload 0 6) := s_aload_n (by decide +kernel : decode cX13_readRow 5 = .ok (.aload_n 0, 1)) rfl
theorem oX13_readRow_6 : OpS mX13_readRow 6 (o_callV mX13_isOk 13 0 9) := s_callV ceX13_isOk clsX13 (Or.inl wd_1367) wd_1369 selX13_isOk (by decide +kernel : decode cX13_readRow 6 = .ok (.invokevirtual 133, 3))
theorem oX13_readRow_9 : OpS mX13_readRow 9 (o_if (fun x => x = 0) 12 13) := s_if_ne (by decide +kernel : decode cX13_readRow 9 = .ok (.ifCond .ne 4, 3)) (by decide)
theorem oX13_readRow_12 : OpS mX13_readRow 12 (o_vret) := s_vret rfl (by decide +kernel : decode cX13_readRow 12 = .ok (.return_, 1))
theorem oX13_readRow_13 : OpS mX13_readRow 13 (o_aload 0 14) := s_aload_n (by decide +kernel : decode cX13_readRow 13 = .ok (.aload_n 0, 1)) rfl
theorem oX13_readRow_14 : OpS mX13_readRow 14 (o_getP 13 9 17) := s_getP (k := 9) clsX13 (by decide) rfl (Or.inl wd_1253) (by decide +kernel : decode cX13_readRow 14 = .ok (.getfield 91, 3)) rfl
theorem oX13_readRow_17 : OpS mX13_readRow 17 (o_getI 12 2 20) := s_getI (k := 2) clsX12 (by decide) rfl (Or.inr ⟨_, wd_1181⟩) (by decide +kernel : decode cX13_readRow 17 = .ok (.getfield 252, 3)) rfl
theorem oX13_readRow_20 : OpS mX13_readRow 20 (o_const (.int 4) 21) := s_iconst (by decide +kernel : decode cX13_readRow 20 = .ok (.iconst 4, 1)) (by decide)
theorem oX13_readRow_21 : OpS mX13_readRow 21 (o_icmp (fun x y => x = y) 24 30) := s_icmp_ne (by decide +kernel : decode cX13_readRow 21 = .ok (.if_icmp .ne 9, 3)) (by decide)
theorem oX13_readRow_24 : OpS mX13_readRow 24 (o_aload 0 25) := s_aload_n (by decide +kernel : decode cX13_readRow 24 = .ok (.aload_n 0, 1)) rfl
theorem oX13_readRow_25 : OpS mX13_readRow 25 (o_const (.int 4) 26) := s_iconst (by decide +kernel : decode cX13_readRow 25 = .ok (.iconst 4, 1)) (by decide)
theorem oX13_readRow_26 : OpS mX13_readRow 26 (o_iload 1 27) := s_iload_n (by decide +kernel : decode cX13_readRow 26 = .ok (.iload_n 1, 1)) rfl
theorem oX13_readRow_27 : OpS mX13_readRow 27 (o_callV mX13_tell 13 2 30) := s_callV ceX13_tell clsX13 (Or.inl wd_1403) wd_1405 selX13_tell (by decide +kernel : decode cX13_readRow 27 = .ok (.invokevirtual 163, 3))
theorem oX13_readRow_30 : OpS mX13_readRow 30 (o_const (.int 0) 31) := s_iconst (by decide +kernel : decode cX13_readRow 30 = .ok (.iconst 0, 1)) (by decide)
theorem oX13_readRow_31 : OpS mX13_readRow 31 (o_istore 2 4 32) := s_istore_n (by decide +kernel : decode cX13_readRow 31 = .ok (.istore_n 2, 1)) rfl rfl
theorem oX13_readRow_32 : OpS mX13_readRow 32 (o_iload 2 33) := s_iload_n (by decide +kernel : decode cX13_readRow 32 = .ok (.iload_n 2, 1)) rfl
theorem oX13_readRow_33 : OpS mX13_readRow 33 (o_aload 0 34) := s_aload_n (by decide +kernel : decode cX13_readRow 33 = .ok (.aload_n 0, 1)) rfl
theorem oX13_readRow_34 : OpS mX13_readRow 34 (o_getP 13 7 37) := s_getP (k := 7) clsX13 (by decide) rfl (Or.inl wd_1251) (by decide +kernel : decode cX13_readRow 34 = .ok (.getfield 39, 3)) rfl
theorem oX13_readRow_37 : OpS mX13_readRow 37 (o_iload 1 38) := s_iload_n (by decide +kernel : decode cX13_readRow 37 = .ok (.iload_n 1, 1)) rfl
theorem oX13_readRow_38 : OpS mX13_readRow 38 (o_iald 39) := s_iald (by decide +kernel : decode cX13_readRow 38 = .ok (.iaload, 1))
theorem oX13_readRow_39 : OpS mX13_readRow 39 (o_icmp (fun x y => y ≤ x) 107 42) := s_icmp_ge (by decide +kernel : decode cX13_readRow 39 = .ok (.if_icmp .ge 68, 3)) (by decide)
theorem oX13_readRow_42 : OpS mX13_readRow 42 (o_aload 0 43) := s_aload_n (by decide +kernel : decode cX13_readRow 42 = .ok (.aload_n 0, 1)) rfl
theorem oX13_readRow_43 : OpS mX13_readRow 43 (o_getP 13 1 46) := s_getP (k := 1) clsX13 (by decide) rfl (Or.inl wd_1245) (by decide +kernel : decode cX13_readRow 43 = .ok (.getfield 18, 3)) rfl
theorem oX13_readRow_46 : OpS mX13_readRow 46 (o_aload 0 47) := s_aload_n (by decide +kernel : decode cX13_readRow 46 = .ok (.aload_n 0, 1)) rfl
theorem oX13_readRow_47 : OpS mX13_readRow 47 (o_getP 13 6 50) := s_getP (k := 6) clsX13 (by decide) rfl (Or.inl wd_1250) (by decide +kernel : decode cX13_readRow 47 = .ok (.getfield 29, 3)) rfl
theorem oX13_readRow_50 : OpS mX13_readRow 50 (o_iload 1 51) := s_iload_n (by decide +kernel : decode cX13_readRow 50 = .ok (.iload_n 1, 1)) rfl
theorem oX13_readRow_51 : OpS mX13_readRow 51 (o_iald 52) := s_iald (by decide +kernel : decode cX13_readRow 51 = .ok (.iaload, 1))
theorem oX13_readRow_52 : OpS mX13_readRow 52 (o_iload 2 53) := s_iload_n (by decide +kernel : decode cX13_readRow 52 = .ok (.iload_n 2, 1)) rfl
theorem oX13_readRow_53 : OpS mX13_readRow 53 (o_ibin (fun x y => x + y) 54) := s_iadd (by decide +kernel : decode cX13_readRow 53 = .ok (.iadd, 1))
theorem oX13_readRow_54 : OpS mX13_readRow 54 (o_iald 55) := s_iald (by decide +kernel : decode cX13_readRow 54 = .ok (.iaload, 1))
theorem oX13_readRow_55 : OpS mX13_readRow 55 (o_istore 3 4 56) := s_istore_n (by decide +kernel : decode cX13_readRow 55 = .ok (.istore_n 3, 1)) rfl rfl
theorem oX13_readRow_56 : OpS mX13_readRow 56 (o_aload 0 57) := s_aload_n (by decide +kernel : decode cX13_readRow 56 = .ok (.aload_n 0, 1)) rfl
theorem oX13_readRow_57 : OpS mX13_readRow 57 (o_getP 13 9 60) := s_getP (k := 9) clsX13 (by decide) rfl (Or.inl wd_1253) (by decide +kernel : decode cX13_readRow 57 = .ok (.getfield 91, 3)) rfl
theorem oX13_readRow_60 : OpS mX13_readRow 60 (o_getP 12 8 63) := s_getP (k := 8) clsX12 (by decide) rfl (Or.inr ⟨_, wd_1193⟩) (by decide +kernel : decode cX13_readRow 60 = .ok (.getfield 255, 3)) rfl
theorem oX13_readRow_63 : OpS mX13_readRow 63 (o_iload 3 64) := s_iload_n (by decide +kernel : decode cX13_readRow 63 = .ok (.iload_n 3, 1)) rfl
theorem oX13_readRow_64 : OpS mX13_readRow 64 (o_iald 65) := s_iald (by decide +kernel : decode cX13_readRow 64 = .ok (.iaload, 1))
theorem oX13_readRow_65 : OpS mX13_readRow 65 (o_const (.int (-1)) 66) := s_iconst (by decide +kernel : decode cX13_readRow 65 = .ok (.iconst (-1), 1)) (by decide)
theorem oX13_readRow_66 : OpS mX13_readRow 66 (o_icmp (fun x y => x = y) 76 69) := s_icmp_eq (by decide +kernel : decode cX13_readRow 66 = .ok (.if_icmp .eq 10, 3)) (by decide)
theorem oX13_readRow_69 : OpS mX13_readRow 69 (o_aload 0 70) := s_aload_n (by decide +kernel : decode cX13_readRow 69 = .ok (.aload_n 0, 1)) rfl
theorem oX13_readRow_70 : OpS mX13_readRow 70 (o_const (.int 6) 72) := s_bipush (by decide +kernel : decode cX13_readRow 70 = .ok (.bipush 6, 2)) (by decide)
theorem oX13_readRow_72 : OpS mX13_readRow 72 (o_iload 1 73) := s_iload_n (by decide +kernel : decode cX13_readRow 72 = .ok (.iload_n 1, 1)) rfl
theorem oX13_readRow_73 : OpS mX13_readRow 73 (o_callV mX13_tell 13 2 76) := s_callV ceX13_tell clsX13 (Or.inl wd_1403) wd_1405 selX13_tell (by decide +kernel : decode cX13_readRow 73 = .ok (.invokevirtual 163, 3))
theorem oX13_readRow_76 : OpS mX13_readRow 76 (o_aload 0 77) := s_aload_n (by decide +kernel : decode cX13_readRow 76 = .ok (.aload_n 0, 1)) rfl
theorem oX13_readRow_77 : OpS mX13_readRow 77 (o_getP 13 9 80) := s_getP (k := 9) clsX13 (by decide) rfl (Or.inl wd_1253) (by decide +kernel : decode cX13_readRow 77 = .ok (.getfield 91, 3)) rfl
theorem oX13_readRow_80 : OpS mX13_readRow 80 (o_getP 12 8 83) := s_getP (k := 8) clsX12 (by decide) rfl (Or.inr ⟨_, wd_1193⟩) (by decide +kernel : decode cX13_readRow 80 = .ok (.getfield 255, 3)) rfl
theorem oX13_readRow_83 : OpS mX13_readRow 83 (o_iload 3 84) := s_iload_n (by decide +kernel : decode cX13_readRow 83 = .ok (.iload_n 3, 1)) rfl
theorem oX13_readRow_84 : OpS mX13_readRow 84 (o_const (.int 16) 86) := s_bipush (by decide +kernel : decode cX13_readRow 84 = .ok (.bipush 16, 2)) (by decide)
theorem oX13_readRow_86 : OpS mX13_readRow 86 (o_const (.int 4) 87) := s_iconst (by decide +kernel : decode cX13_readRow 86 = .ok (.iconst 4, 1)) (by decide)
theorem oX13_readRow_87 : OpS mX13_readRow 87 (o_aload 0 88) := s_aload_n (by decide +kernel : decode cX13_readRow 87 = .ok (.aload_n 0, 1)) rfl
theorem oX13_readRow_88 : OpS mX13_readRow 88 (o_getP 13 9 91) := s_getP (k := 9) clsX13 (by decide) rfl (Or.inl wd_1253) (by decide +kernel : decode cX13_readRow 88 = .ok (.getfield 91, 3)) rfl
theorem oX13_readRow_91 : OpS mX13_readRow 91 (o_getI 12 2 94) := s_getI (k := 2) clsX12 (by decide) rfl (Or.inr ⟨_, wd_1181⟩) (by decide +kernel : decode cX13_readRow 91 = .ok (.getfield 252, 3)) rfl
theorem oX13_readRow_94 : OpS mX13_readRow 94 (o_min 97) := s_min wd_1431 wd_472 wd_3 wd_473 (by decide +kernel : decode cX13_readRow 94 = .ok (.invokestatic 258, 3))
theorem oX13_readRow_97 : OpS mX13_readRow 97 (o_ibin (fun x y => x * y) 98) := s_imul (by decide +kernel : decode cX13_readRow 97 = .ok (.imul, 1))
theorem oX13_readRow_98 : OpS mX13_readRow 98 (o_iload 2 99) := s_iload_n (by decide +kernel : decode cX13_readRow 98 = .ok (.iload_n 2, 1)) rfl
theorem oX13_readRow_99 : OpS mX13_readRow 99 (o_ibin (fun x y => x + y) 100) := s_iadd (by decide +kernel : decode cX13_readRow 99 = .ok (.iadd, 1))
theorem oX13_readRow_100 : OpS mX13_readRow 100 (o_iast 101) := s_iast (by decide +kernel : decode cX13_readRow 100 = .ok (.iastore, 1))
theorem oX13_readRow_101 : OpS mX13_readRow 101 (o_iinc 2 4 1 104) := s_iinc (by decide +kernel : decode cX13_readRow 101 = .ok (.iinc 2 1, 3)) (by decide) rfl
theorem oX13_readRow_104 : OpS mX13_readRow 104 (o_goto 32) := s_goto (by decide +kernel : decode cX13_readRow 104 = .ok (.goto (-72), 3)) (by decide)
theorem oX13_readRow_107 : OpS mX13_readRow 107 (o_aload 0 108) := s_aload_n (by decide +kernel : decode cX13_readRow 107 = .ok (.aload_n 0, 1)) rfl
theorem oX13_readRow_108 : OpS mX13_readRow 108 (o_getP 13 9 111) := s_getP (k := 9) clsX13 (by decide) rfl (Or.inl wd_1253) (by decide +kernel : decode cX13_readRow 108 = .ok (.getfield 91, 3)) rfl
theorem oX13_readRow_111 : OpS mX13_readRow 111 (o_const (.int 4) 112) := s_iconst (by decide +kernel : decode cX13_readRow 111 = .ok (.iconst 4, 1)) (by decide)
theorem oX13_readRow_112 : OpS mX13_readRow 112 (o_aload 0 113) := s_aload_n (by decide +kernel : decode cX13_readRow 112 = .ok (.aload_n 0, 1)) rfl
theorem oX13_readRow_113 : OpS mX13_readRow 113 (o_getP 13 9 116) := s_getP (k := 9) clsX13 (by decide) rfl (Or.inl wd_1253) (by decide +kernel : decode cX13_readRow 113 = .ok (.getfield 91, 3)) rfl
theorem oX13_readRow_116 : OpS mX13_readRow 116 (o_getI 12 2 119) := s_getI (k := 2) clsX12 (by decide) rfl (Or.inr ⟨_, wd_1181⟩) (by decide +kernel : decode cX13_readRow 116 = .ok (.getfield 252, 3)) rfl
theorem oX13_readRow_119 : OpS mX13_readRow 119 (o_const (.int 1) 120) := s_iconst (by decide +kernel : decode cX13_readRow 119 = .ok (.iconst 1, 1)) (by decide)
theorem oX13_readRow_120 : OpS mX13_readRow 120 (o_ibin (fun x y => x + y) 121) := s_iadd (by decide +kernel : decode cX13_readRow 120 = .ok (.iadd, 1))
theorem oX13_readRow_121 : OpS mX13_readRow 121 (o_min 124) := s_min wd_1431 wd_472 wd_3 wd_473 (by decide +kernel : decode cX13_readRow 121 = .ok (.invokestatic 258, 3))
theorem oX13_readRow_124 : OpS mX13_readRow 124 (o_putI 12 2 127) := s_putI (k := 2) clsX12 (by decide) rfl (Or.inr ⟨rfl, _, wd_1181⟩) (by decide +kernel : decode cX13_readRow 124 = .ok (.putfield 252, 3)) rfl rfl
theorem oX13_readRow_127 : OpS mX13_readRow 127 (o_vret) := s_vret rfl (by decide +kernel : decode cX13_readRow 127 = .ok (.return_, 1))
theorem oX13_readBoost_0 : OpS mX13_readBoost 0 (o_aload 0 1) := s_aload_n (by decide +kernel : decode cX13_readBoost 0 = .ok (.aload_n 0, 1)) rfl
theorem oX13_readBoost_1 : OpS mX13_readBoost 1 (o_getP 13 9 4) := s_getP (k := 9) clsX13 (by decide) rfl (Or.inl wd_1253) (by decide +kernel : decode cX13_readBoost 1 = .ok (.getfield 91, 3)) rfl
theorem oX13_readBoost_4 : OpS mX13_readBoost 4 (o_getI 12 3 7) := s_getI (k := 3) clsX12 (by decide) rfl (Or.inr ⟨_, wd_1183⟩) (by decide +kernel : decode cX13_readBoost 4 = .ok (.getfield 263, 3)) rfl
theorem oX13_readBoost_7 : OpS mX13_readBoost 7 (o_const (.int 12) 9) := s_bipush (by decide +kernel : decode cX13_readBoost 7 = .ok (.bipush 12, 2)) (by decide)
theorem oX13_readBoost_9 : OpS mX13_readBoost 9 (o_icmp (fun x y => x = y) 12 21) := s_icmp_ne (by decide +kernel : decode cX13_readBoost 9 = .ok (.if_icmp .ne 12, 3)) (by decide)
theorem oX13_readBoost_12 : OpS mX13_readBoost 12 (o_aload 0 13) := s_aload_n (by decide +kernel : decode cX13_readBoost 12 = .ok (.aload_n 0, 1)) rfl
theorem oX13_readBoost_13 : OpS mX13_readBoost 13 (o_const (.int 4) 14) := s_iconst (by decide +kernel : decode cX13_readBoost 13 = .ok (.iconst 4, 1)) (by decide)
theorem oX13_readBoost_14 : OpS mX13_readBoost 14 (o_aload 0 15) := s_aload_n (by decide +kernel : decode cX13_readBoost 14 = .ok (.aload_n 0, 1)) rfl
theorem oX13_readBoost_15 : OpS mX13_readBoost 15 (o_getI 13 12 18) := s_getI (k := 12) clsX13 (by decide) rfl (Or.inl wd_1256) (by decide +kernel : decode cX13_readBoost 15 = .ok (.getfield 130, 3)) rfl
theorem oX13_readBoost_18 : OpS mX13_readBoost 18 (o_callV mX13_tell 13 2 21) := s_callV ceX13_tell clsX13 (Or.inl wd_1403) wd_1405 selX13_tell (by decide +kernel : decode cX13_readBoost 18 = .ok (.invokevirtual 163, 3))
theorem oX13_readBoost_21 : OpS mX13_readBoost 21 (o_aload 0 22) := s_aload_n (by decide +kernel : decode cX13_readBoost 21 = .ok (.aload_n 0, 1)) rfl
theorem oX13_readBoost_22 : OpS mX13_readBoost 22 (o_dup 23) := s_dup (by decide +kernel : decode cX13_readBoost 22 = .ok (.dup, 1))
theorem oX13_readBoost_23 : OpS mX13_readBoost 23 (o_getI 13 12 26) := s_getI (k := 12) clsX13 (by decide) rfl (Or.inl wd_1256) (by decide +kernel : decode cX13_readBoost 23 = .ok (.getfield 130, 3)) rfl
theorem oX13_readBoost_26 : OpS mX13_readBoost 26 (o_const (.int 1) 27) := s_iconst (by decide +kernel : decode cX13_readBoost 26 = .ok (.iconst 1, 1)) (by decide)
theorem oX13_readBoost_27 : OpS mX13_readBoost 27 (o_ibin (fun x y => x + y) 28) := s_iadd (by decide +kernel : decode cX13_readBoost 27 = .ok (.iadd, 1))
theorem oX13_readBoost_28 : OpS mX13_readBoost 28 (o_putI 13 12 31) := s_putI (k := 12) clsX13 (by decide) rfl (Or.inl ⟨wd_1256, Or.inl rfl⟩) (by decide +kernel : decode cX13_readBoost 28 = .ok (.putfield 130, 3)) rfl rfl
theorem oX13_readBoost_31 : OpS mX13_readBoost 31 (o_aload 0 32) := s_aload_n (by decide +kernel : decode cX13_readBoost 31 = .ok (.aload_n 0, 1)) rfl
theorem oX13_readBoost_32 : OpS mX13_readBoost 32 (o_aload 0 33) := s_aload_n (by decide +kernel : decode cX13_readBoost 32 = .ok (.aload_n 0, 1)) rfl
theorem oX13_readBoost_33 : OpS mX13_readBoost 33 (o_getP 13 10 36) := s_getP (k := 10) clsX13 (by decide) rfl (Or.inl wd_1254) (by decide +kernel : decode cX13_readBoost 33 = .ok (.getfield 94, 3)) rfl
theorem oX13_readBoost_36 : OpS mX13_readBoost 36 (o_aload 0 37) := s_aload_n (by decide +kernel : decode cX13_readBoost 36 = .ok (.aload_n 0, 1)) rfl
theorem oX13_readBoost_37 : OpS mX13_readBoost 37 (o_getP 13 9 40) := s_getP (k := 9) clsX13 (by decide) rfl (Or.inl wd_1253) (by decide +kernel : decode cX13_readBoost 37 = .ok (.getfield 91, 3)) rfl
theorem oX13_readBoost_40 : OpS mX13_readBoost 40 (o_getI 12 0 43) := s_getI (k := 0) clsX12 (by decide) rfl (Or.inr ⟨_, wd_1177⟩) (by decide +kernel : decode cX13_readBoost 40 = .ok (.getfield 233, 3)) rfl
theorem oX13_readBoost_43 : OpS mX13_readBoost 43 (o_callV mX13_known 13 2 46) := s_callV ceX13_known clsX13 (Or.inl wd_1419) wd_1421 selX13_known (by decide +kernel : decode cX13_readBoost 43 = .ok (.invokevirtual 184, 3))
theorem oX13_readBoost_46 : OpS mX13_readBoost 46 (o_istore 1 4 47) := s_istore_n (by decide +kernel : decode cX13_readBoost 46 = .ok (.istore_n 1, 1)) rfl rfl
theorem oX13_readBoost_47 : OpS mX13_readBoost 47 (o_aload 0 48) := s_aload_n (by decide +kernel : decode cX13_readBoost 47 = .ok (.aload_n 0, 1)) rfl
theorem oX13_readBoost_48 : OpS mX13_readBoost 48 (o_const (.int 2) 49) := s_iconst (by decide +kernel : decode cX13_readBoost 48 = .ok (.iconst 2, 1)) (by decide)
theorem oX13_readBoost_49 : OpS mX13_readBoost 49 (o_const (.int 6) 51) := s_bipush (by decide +kernel : decode cX13_readBoost 49 = .ok (.bipush 6, 2)) (by decide)
theorem oX13_readBoost_51 : OpS mX13_readBoost 51 (o_callV mX13_take 13 2 54) := s_callV ceX13_take clsX13 (Or.inl wd_1411) wd_1413 selX13_take (by decide +kernel : decode cX13_readBoost 51 = .ok (.invokevirtual 200, 3))
theorem oX13_readBoost_54 : OpS mX13_readBoost 54 (o_aload 0 55) := s_aload_n (by decide +kernel : decode cX13_readBoost 54 = .ok (.aload_n 0, 1)) rfl
theorem oX13_readBoost_55 : OpS mX13_readBoost 55 (o_callV mX13_sum 13 0 58) := s_callV ceX13_sum clsX13 (Or.inl wd_1436) wd_1438 selX13_sum (by decide +kernel : decode cX13_readBoost 55 = .ok (.invokevirtual 197, 3))
theorem oX13_readBoost_58 : OpS mX13_readBoost 58 (o_istore 2 4 59) := s_istore_n (by decide +kernel : decode cX13_readBoost 58 = .ok (.istore_n 2, 1)) rfl rfl
theorem oX13_readBoost_59 : OpS mX13_readBoost 59 (o_aload 0 60) := s_aload_n (by decide +kernel : decode cX13_readBoost 59 = .ok (.aload_n 0, 1)) rfl
theorem oX13_readBoost_60 : OpS mX13_readBoost 60 (o_const (.int 2) 61) := s_iconst (by decide +kernel : decode cX13_readBoost 60 = .ok (.iconst 2, 1)) (by decide)
theorem oX13_readBoost_61 : OpS mX13_readBoost 61 (o_const (.int 7) 63) := s_bipush (by decide +kernel : decode cX13_readBoost 61 = .ok (.bipush 7, 2)) (by decide)
theorem oX13_readBoost_63 : OpS mX13_readBoost 63 (o_callV mX13_take 13 2 66) := s_callV ceX13_take clsX13 (Or.inl wd_1411) wd_1413 selX13_take (by decide +kernel : decode cX13_readBoost 63 = .ok (.invokevirtual 200, 3))
theorem oX13_readBoost_66 : OpS mX13_readBoost 66 (o_aload 0 67) := s_aload_n (by decide +kernel : decode cX13_readBoost 66 = .ok (.aload_n 0, 1)) rfl
theorem oX13_readBoost_67 : OpS mX13_readBoost 67 (o_callV mX13_test 13 0 70) := s_callV ceX13_test clsX13 (Or.inl wd_1465) wd_1467 selX13_test (by decide +kernel : decode cX13_readBoost 67 = .ok (.invokevirtual 209, 3))
theorem oX13_readBoost_70 : OpS mX13_readBoost 70 (o_istore 3 4 71) := s_istore_n (by decide +kernel : decode cX13_readBoost 70 = .ok (.istore_n 3, 1)) rfl rfl
theorem oX13_readBoost_71 : OpS mX13_readBoost 71 (o_aload 0 72) := s_aload_n (by decide +kernel : decode cX13_readBoost 71 = .ok (.aload_n 0, 1)) rfl
theorem oX13_readBoost_72 : OpS mX13_readBoost 72 (o_getP 13 9 75) := s_getP (k := 9) clsX13 (by decide) rfl (Or.inl wd_1253) (by decide +kernel : decode cX13_readBoost 72 = .ok (.getfield 91, 3)) rfl
theorem oX13_readBoost_75 : OpS mX13_readBoost 75 (o_getI 12 3 78) := s_getI (k := 3) clsX12 (by decide) rfl (Or.inr ⟨_, wd_1183⟩) (by decide +kernel : decode cX13_readBoost 75 = .ok (.getfield 263, 3)) rfl
theorem oX13_readBoost_78 : OpS mX13_readBoost 78 (o_const (.int 12) 80) := s_bipush (by decide +kernel : decode cX13_readBoost 78 = .ok (.bipush 12, 2)) (by decide)
theorem oX13_readBoost_80 : OpS mX13_readBoost 80 (o_icmp (fun x y => x = y) 83 84) := s_icmp_ne (by decide +kernel : decode cX13_readBoost 80 = .ok (.if_icmp .ne 4, 3)) (by decide)
theorem oX13_readBoost_83 : OpS mX13_readBoost 83 (o_vret) := s_vret rfl (by decide +kernel : decode cX13_readBoost 83 = .ok (.return_, 1))
theorem oX13_readBoost_84 : OpS mX13_readBoost 84 (o_aload 0 85) := s_aload_n (by decide +kernel : decode cX13_readBoost 84 = .ok (.aload_n 0, 1)) rfl
theorem oX13_readBoost_85 : OpS mX13_readBoost 85 (o_getP 13 9 88) := s_getP (k := 9) clsX13 (by decide) rfl (Or.inl wd_1253) (by decide +kernel : decode cX13_readBoost 85 = .ok (.getfield 91, 3)) rfl
theorem oX13_readBoost_88 : OpS mX13_readBoost 88 (o_getP 12 9 91) := s_getP (k := 9) clsX12 (by decide) rfl (Or.inr ⟨_, wd_1195⟩) (by decide +kernel : decode cX13_readBoost 88 = .ok (.getfield 266, 3)) rfl
theorem oX13_readBoost_91 : OpS mX13_readBoost 91 (o_const (.int 3) 92) := s_iconst (by decide +kernel : decode cX13_readBoost 91 = .ok (.iconst 3, 1)) (by decide)
theorem oX13_readBoost_92 : OpS mX13_readBoost 92 (o_aload 0 93) := s_aload_n (by decide +kernel : decode cX13_readBoost 92 = .ok (.aload_n 0, 1)) rfl
theorem oX13_readBoost_93 : OpS mX13_readBoost 93 (o_getP 13 9 96) := s_getP (k := 9) clsX13 (by decide) rfl (Or.inl wd_1253) (by decide +kernel : decode cX13_readBoost 93 = .ok (.getfield 91, 3)) rfl
theorem oX13_readBoost_96 : OpS mX13_readBoost 96 (o_getI 12 3 99) := s_getI (k := 3) clsX12 (by decide) rfl (Or.inr ⟨_, wd_1183⟩) (by decide +kernel : decode cX13_readBoost 96 = .ok (.getfield 263, 3)) rfl
theorem oX13_readBoost_99 : OpS mX13_readBoost 99 (o_ibin (fun x y => x * y) 100) := s_imul (by decide +kernel : decode cX13_readBoost 99 = .ok (.imul, 1))
theorem oX13_readBoost_100 : OpS mX13_readBoost 100 (o_iload 1 101) := s_iload_n (by decide +kernel : decode cX13_readBoost 100 = .ok (.iload_n 1, 1)) rfl
theorem oX13_readBoost_101 : OpS mX13_readBoost 101 (o_iast 102) := s_iast (by decide +kernel : decode cX13_readBoost 101 = .ok (.iastore, 1))
theorem oX13_readBoost_102 : OpS mX13_readBoost 102 (o_aload 0 103) := s_aload_n (by decide +kernel : decode cX13_readBoost 102 = .ok (.aload_n 0, 1)) rfl
theorem oX13_readBoost_103 : OpS mX13_readBoost 103 (o_getP 13 9 106) := s_getP (k := 9) clsX13 (by decide) rfl (Or.inl wd_1253) (by decide +kernel : decode cX13_readBoost 103 = .ok (.getfield 91, 3)) rfl
theorem oX13_readBoost_106 : OpS mX13_readBoost 106 (o_getP 12 9 109) := s_getP (k := 9) clsX12 (by decide) rfl (Or.inr ⟨_, wd_1195⟩) (by decide +kernel : decode cX13_readBoost 106 = .ok (.getfield 266, 3)) rfl
theorem oX13_readBoost_109 : OpS mX13_readBoost 109 (o_const (.int 3) 110) := s_iconst (by decide +kernel : decode cX13_readBoost 109 = .ok (.iconst 3, 1)) (by decide)
theorem oX13_readBoost_110 : OpS mX13_readBoost 110 (o_aload 0 111) := s_aload_n (by decide +kernel : decode cX13_readBoost 110 = .ok (.aload_n 0, 1)) rfl
theorem oX13_readBoost_111 : OpS mX13_readBoost 111 (o_getP 13 9 114) := s_getP (k := 9) clsX13 (by decide) rfl (Or.inl wd_1253) (by decide +kernel : decode cX13_readBoost 111 = .ok (.getfield 91, 3)) rfl
theorem oX13_readBoost_114 : OpS mX13_readBoost 114 (o_getI 12 3 117) := s_getI (k := 3) clsX12 (by decide) rfl (Or.inr ⟨_, wd_1183⟩) (by decide +kernel : decode cX13_readBoost 114 = .ok (.getfield 263, 3)) rfl
theorem oX13_readBoost_117 : OpS mX13_readBoost 117 (o_ibin (fun x y => x * y) 118) := s_imul (by decide +kernel : decode cX13_readBoost 117 = .ok (.imul, 1))
theorem oX13_readBoost_118 : OpS mX13_readBoost 118 (o_const (.int 1) 119) := s_iconst (by decide +kernel : decode cX13_readBoost 118 = .ok (.iconst 1, 1)) (by decide)
theorem oX13_readBoost_119 : OpS mX13_readBoost 119 (o_ibin (fun x y => x + y) 120) := s_iadd (by decide +kernel : decode cX13_readBoost 119 = .ok (.iadd, 1))
theorem oX13_readBoost_120 : OpS mX13_readBoost 120 (o_iload 2 121) := s_iload_n (by decide +kernel : decode cX13_readBoost 120 = .ok (.iload_n 2, 1)) rfl
theorem oX13_readBoost_121 : OpS mX13_readBoost 121 (o_iast 122) := s_iast (by decide +kernel : decode cX13_readBoost 121 = .ok (.iastore, 1))
theorem oX13_readBoost_122 : OpS mX13_readBoost 122 (o_aload 0 123) := s_aload_n (by decide +kernel : decode cX13_readBoost 122 = .ok (.aload_n 0, 1)) rfl
theorem oX13_readBoost_123 : OpS mX13_readBoost 123 (o_getP 13 9 126) := s_getP (k := 9) clsX13 (by decide) rfl (Or.inl wd_1253) (by decide +kernel : decode cX13_readBoost 123 = .ok (.getfield 91, 3)) rfl
theorem oX13_readBoost_126 : OpS mX13_readBoost 126 (o_getP 12 9 129) := s_getP (k := 9) clsX12 (by decide) rfl (Or.inr ⟨_, wd_1195⟩) (by decide +kernel : decode cX13_readBoost 126 = .ok (.getfield 266, 3)) rfl
theorem oX13_readBoost_129 : OpS mX13_readBoost 129 (o_const (.int 3) 130) := s_iconst (by decide +kernel : decode cX13_readBoost 129 = .ok (.iconst 3, 1)) (by decide)
theorem oX13_readBoost_130 : OpS mX13_readBoost 130 (o_aload 0 131) := s_aload_n (by decide +kernel : decode cX13_readBoost 130 = .ok (.aload_n 0, 1)) rfl
theorem oX13_readBoost_131 : OpS mX13_readBoost 131 (o_getP 13 9 134) := s_getP (k := 9) clsX13 (by decide) rfl (Or.inl wd_1253) (by decide +kernel : decode cX13_readBoost 131 = .ok (.getfield 91, 3)) rfl
theorem oX13_readBoost_134 : OpS mX13_readBoost 134 (o_getI 12 3 137) := s_getI (k := 3) clsX12 (by decide) rfl (Or.inr ⟨_, wd_1183⟩) (by decide +kernel : decode cX13_readBoost 134 = .ok (.getfield 263, 3)) rfl
theorem oX13_readBoost_137 : OpS mX13_readBoost 137 (o_ibin (fun x y => x * y) 138) := s_imul (by decide +kernel : decode cX13_readBoost 137 = .ok (.imul, 1))
theorem oX13_readBoost_138 : OpS mX13_readBoost 138 (o_const (.int 2) 139) := s_iconst (by decide +kernel : decode cX13_readBoost 138 = .ok (.iconst 2, 1)) (by decide)
theorem oX13_readBoost_139 : OpS mX13_readBoost 139 (o_ibin (fun x y => x + y) 140) := s_iadd (by decide +kernel : decode cX13_readBoost 139 = .ok (.iadd, 1))
theorem oX13_readBoost_140 : OpS mX13_readBoost 140 (o_iload 3 141) := s_iload_n (by decide +kernel : decode cX13_readBoost 140 = .ok (.iload_n 3, 1)) rfl
theorem oX13_readBoost_141 : OpS mX13_readBoost 141 (o_iast 142) := s_iast (by decide +kernel : decode cX13_readBoost 141 = .ok (.iastore, 1))
theorem oX13_readBoost_142 : OpS mX13_readBoost 142 (o_aload 0 143) := s_aload_n (by decide +kernel : decode cX13_readBoost 142 = .ok (.aload_n 0, 1)) rfl
theorem oX13_readBoost_143 : OpS mX13_readBoost 143 (o_getP 13 9 146) := s_getP (k := 9) clsX13 (by decide) rfl (Or.inl wd_1253) (by decide +kernel : decode cX13_readBoost 143 = .ok (.getfield 91, 3)) rfl
theorem oX13_readBoost_146 : OpS mX13_readBoost 146 (o_dup 147) := s_dup (by decide +kernel : decode cX13_readBoost 146 = .ok (.dup, 1))
theorem oX13_readBoost_147 : OpS mX13_readBoost 147 (o_getI 12 3 150) := s_getI (k := 3) clsX12 (by decide) rfl (Or.inr ⟨_, wd_1183⟩) (by decide +kernel : decode cX13_readBoost 147 = .ok (.getfield 263, 3)) rfl
theorem oX13_readBoost_150 : OpS mX13_readBoost 150 (o_const (.int 1) 151) := s_iconst (by decide +kernel : decode cX13_readBoost 150 = .ok (.iconst 1, 1)) (by decide)
theorem oX13_readBoost_151 : OpS mX13_readBoost 151 (o_ibin (fun x y => x + y) 152) := s_iadd (by decide +kernel : decode cX13_readBoost 151 = .ok (.iadd, 1))
theorem oX13_readBoost_152 : OpS mX13_readBoost 152 (o_putI 12 3 155) := s_putI (k := 3) clsX12 (by decide) rfl (Or.inr ⟨rfl, _, wd_1183⟩) (by decide +kernel : decode cX13_readBoost 152 = .ok (.putfield 263, 3)) rfl rfl
theorem oX13_readBoost_155 : OpS mX13_readBoost 155 (o_vret) := s_vret rfl (by decide +kernel : decode cX13_readBoost 155 = .ok (.return_, 1))
theorem oX13_teach_0 : OpS mX13_teach 0 (o_aload 0 1) := s_aload_n (by decide +kernel : decode cX13_teach 0 = .ok (.aload_n 0, 1)) rfl
theorem oX13_teach_1 : OpS mX13_teach 1 (o_const (.int 0) 2) := s_iconst (by decide +kernel : decode cX13_teach 1 = .ok (.iconst 0, 1)) (by decide)
theorem oX13_teach_2 : OpS mX13_teach 2 (o_putI 13 0 5) := s_putI (k := 0) clsX13 (by decide) rfl (Or.inl ⟨wd_1244, Or.inl rfl⟩) (by decide +kernel : decode cX13_teach 2 = .ok (.putfield 1, 3)) rfl rfl
theorem oX13_teach_5 : OpS mX13_teach 5 (o_aload 0 6) := s_aload_n (by decide +kernel : decode cX13_teach 5 = .ok (.aload_n 0, 1)) rfl
theorem oX13_teach_6 : OpS mX13_teach 6 (o_callV mX13_split 13 0 9) := s_callV ceX13_split clsX13 (Or.inl wd_1333) wd_1335 selX13_split (by decide +kernel : decode cX13_teach 6 = .ok (.invokevirtual 269, 3))
theorem oX13_teach_9 : OpS mX13_teach 9 (o_aload 0 10) := s_aload_n (by decide +kernel : decode cX13_teach 9 = .ok (.aload_n 0, 1)) rfl
theorem oX13_teach_10 : OpS mX13_teach 10 (o_getP 13 9 13) := s_getP (k := 9) clsX13 (by decide) rfl (Or.inl wd_1253) (by decide +kernel : decode cX13_teach 10 = .ok (.getfield 91, 3)) rfl
theorem oX13_teach_13 : OpS mX13_teach 13 (o_callV mX12_empty 12 0 16) := s_callV ceX12_empty clsX12 (Or.inl wd_1240) wd_1241 selX12_empty (by decide +kernel : decode cX13_teach 13 = .ok (.invokevirtual 124, 3))
theorem oX13_teach_16 : OpS mX13_teach 16 (o_aload 0 17) := s_aload_n (by decide +kernel : decode cX13_teach 16 = .ok (.aload_n 0, 1)) rfl
theorem oX13_teach_17 : OpS mX13_teach 17 (o_const (.int 0) 18) := s_iconst (by decide +kernel : decode cX13_teach 17 = .ok (.iconst 0, 1)) (by decide)
theorem oX13_teach_18 : OpS mX13_teach 18 (o_putI 13 12 21) := s_putI (k := 12) clsX13 (by decide) rfl (Or.inl ⟨wd_1256, Or.inl rfl⟩) (by decide +kernel : decode cX13_teach 18 = .ok (.putfield 130, 3)) rfl rfl
theorem oX13_teach_21 : OpS mX13_teach 21 (o_aload 0 22) := s_aload_n (by decide +kernel : decode cX13_teach 21 = .ok (.aload_n 0, 1)) rfl
theorem oX13_teach_22 : OpS mX13_teach 22 (o_const (.int 0) 23) := s_iconst (by decide +kernel : decode cX13_teach 22 = .ok (.iconst 0, 1)) (by decide)
theorem oX13_teach_23 : OpS mX13_teach 23 (o_putI 13 13 26) := s_putI (k := 13) clsX13 (by decide) rfl (Or.inl ⟨wd_1257, Or.inl rfl⟩) (by decide +kernel : decode cX13_teach 23 = .ok (.putfield 150, 3)) rfl rfl
theorem oX13_teach_26 : OpS mX13_teach 26 (o_aload 0 27) := s_aload_n (by decide +kernel : decode cX13_teach 26 = .ok (.aload_n 0, 1)) rfl
theorem oX13_teach_27 : OpS mX13_teach 27 (o_const (.int (-1)) 28) := s_iconst (by decide +kernel : decode cX13_teach 27 = .ok (.iconst (-1), 1)) (by decide)
theorem oX13_teach_28 : OpS mX13_teach 28 (o_putI 13 14 31) := s_putI (k := 14) clsX13 (by decide) rfl (Or.inl ⟨wd_1258, Or.inl rfl⟩) (by decide +kernel : decode cX13_teach 28 = .ok (.putfield 127, 3)) rfl rfl
theorem oX13_teach_31 : OpS mX13_teach 31 (o_aload 0 32) := s_aload_n (by decide +kernel : decode cX13_teach 31 = .ok (.aload_n 0, 1)) rfl
theorem oX13_teach_32 : OpS mX13_teach 32 (o_const (.int 0) 33) := s_iconst (by decide +kernel : decode cX13_teach 32 = .ok (.iconst 0, 1)) (by decide)
theorem oX13_teach_33 : OpS mX13_teach 33 (o_putI 13 15 36) := s_putI (k := 15) clsX13 (by decide) rfl (Or.inl ⟨wd_1259, Or.inl rfl⟩) (by decide +kernel : decode cX13_teach 33 = .ok (.putfield 144, 3)) rfl rfl
theorem oX13_teach_36 : OpS mX13_teach 36 (o_aload 0 37) := s_aload_n (by decide +kernel : decode cX13_teach 36 = .ok (.aload_n 0, 1)) rfl
theorem oX13_teach_37 : OpS mX13_teach 37 (o_callV mX13_isOk 13 0 40) := s_callV ceX13_isOk clsX13 (Or.inl wd_1367) wd_1369 selX13_isOk (by decide +kernel : decode cX13_teach 37 = .ok (.invokevirtual 133, 3))
theorem oX13_teach_40 : OpS mX13_teach 40 (o_if (fun x => x = 0) 62 43) := s_if_eq (by decide +kernel : decode cX13_teach 40 = .ok (.ifCond .eq 22, 3)) (by decide)
theorem oX13_teach_43 : OpS mX13_teach 43 (o_aload 0 44) := s_aload_n (by decide +kernel : decode cX13_teach 43 = .ok (.aload_n 0, 1)) rfl
theorem oX13_teach_44 : OpS mX13_teach 44 (o_getP 13 4 47) := s_getP (k := 4) clsX13 (by decide) rfl (Or.inl wd_1248) (by decide +kernel : decode cX13_teach 44 = .ok (.getfield 36, 3)) rfl
theorem oX13_teach_47 : OpS mX13_teach 47 (o_aload 0 48) := s_aload_n (by decide +kernel : decode cX13_teach 47 = .ok (.aload_n 0, 1)) rfl
theorem oX13_teach_48 : OpS mX13_teach 48 (o_getI 13 12 51) := s_getI (k := 12) clsX13 (by decide) rfl (Or.inl wd_1256) (by decide +kernel : decode cX13_teach 48 = .ok (.getfield 130, 3)) rfl
theorem oX13_teach_51 : OpS mX13_teach 51 (o_iald 52) := s_iald (by decide +kernel : decode cX13_teach 51 = .ok (.iaload, 1))
theorem oX13_teach_52 : OpS mX13_teach 52 (o_if (fun x => x = 0) 62 55) := s_if_eq (by decide +kernel : decode cX13_teach 52 = .ok (.ifCond .eq 10, 3)) (by decide)
theorem oX13_teach_55 : OpS mX13_teach 55 (o_aload 0 56) := s_aload_n (by decide +kernel : decode cX13_teach 55 = .ok (.aload_n 0, 1)) rfl
theorem oX13_teach_56 : OpS mX13_teach 56 (o_callV mX13_line 13 0 59) := s_callV ceX13_line clsX13 (Or.inl wd_1371) wd_1373 selX13_line (by decide +kernel : decode cX13_teach 56 = .ok (.invokevirtual 272, 3))
theorem oX13_teach_59 : OpS mX13_teach 59 (o_goto 36) := s_goto (by decide +kernel : decode cX13_teach 59 = .ok (.goto (-23), 3)) (by decide)
theorem oX13_teach_62 : OpS mX13_teach 62 (o_aload 0 63) := s_aload_n (by decide +kernel : decode cX13_teach 62 = .ok (.aload_n 0, 1)) rfl
theorem oX13_teach_63 : OpS mX13_teach 63 (o_callV mX13_isOk 13 0 66) := s_callV ceX13_isOk clsX13 (Or.inl wd_1367) wd_1369 selX13_isOk (by decide +kernel : decode cX13_teach 63 = .ok (.invokevirtual 133, 3))
theorem oX13_teach_66 : OpS mX13_teach 66 (o_if (fun x => x = 0) 76 69) := s_if_eq (by decide +kernel : decode cX13_teach 66 = .ok (.ifCond .eq 10, 3)) (by decide)
theorem oX13_teach_69 : OpS mX13_teach 69 (o_aload 0 70) := s_aload_n (by decide +kernel : decode cX13_teach 69 = .ok (.aload_n 0, 1)) rfl
theorem oX13_teach_70 : OpS mX13_teach 70 (o_getI 13 16 73) := s_getI (k := 16) clsX13 (by decide) rfl (Or.inl wd_1260) (by decide +kernel : decode cX13_teach 70 = .ok (.getfield 147, 3)) rfl
theorem oX13_teach_73 : OpS mX13_teach 73 (o_goto 80) := s_goto (by decide +kernel : decode cX13_teach 73 = .ok (.goto 7, 3)) (by decide)
theorem oX13_teach_76 : OpS mX13_teach 76 (o_aload 0 77) := s_aload_n (by decide +kernel : decode cX13_teach 76 = .ok (.aload_n 0, 1)) rfl
theorem oX13_teach_77 : OpS mX13_teach 77 (o_getI 13 14 80) := s_getI (k := 14) clsX13 (by decide) rfl (Or.inl wd_1258) (by decide +kernel : decode cX13_teach 77 = .ok (.getfield 127, 3)) rfl
theorem oX13_teach_80 : OpS mX13_teach 80 (o_istore 1 3 81) := s_istore_n (by decide +kernel : decode cX13_teach 80 = .ok (.istore_n 1, 1)) rfl rfl
theorem oX13_teach_81 : OpS mX13_teach 81 (o_aload 0 82) := s_aload_n (by decide +kernel : decode cX13_teach 81 = .ok (.aload_n 0, 1)) rfl
theorem oX13_teach_82 : OpS mX13_teach 82 (o_callV mX13_isOk 13 0 85) := s_callV ceX13_isOk clsX13 (Or.inl wd_1367) wd_1369 selX13_isOk (by decide +kernel : decode cX13_teach 82 = .ok (.invokevirtual 133, 3))
theorem oX13_teach_85 : OpS mX13_teach 85 (o_if (fun x => x = 0) 95 88) := s_if_eq (by decide +kernel : decode cX13_teach 85 = .ok (.ifCond .eq 10, 3)) (by decide)
theorem oX13_teach_88 : OpS mX13_teach 88 (o_aload 0 89) := s_aload_n (by decide +kernel : decode cX13_teach 88 = .ok (.aload_n 0, 1)) rfl
theorem oX13_teach_89 : OpS mX13_teach 89 (o_getI 13 15 92) := s_getI (k := 15) clsX13 (by decide) rfl (Or.inl wd_1259) (by decide +kernel : decode cX13_teach 89 = .ok (.getfield 144, 3)) rfl
theorem oX13_teach_92 : OpS mX13_teach 92 (o_goto 96) := s_goto (by decide +kernel : decode cX13_teach 92 = .ok (.goto 4, 3)) (by decide)
theorem oX13_teach_95 : OpS mX13_teach 95 (o_const (.int 1) 96) := s_iconst (by decide +kernel : decode cX13_teach 95 = .ok (.iconst 1, 1)) (by decide)
theorem oX13_teach_96 : OpS mX13_teach 96 (o_istore 2 3 97) := s_istore_n (by decide +kernel : decode cX13_teach 96 = .ok (.istore_n 2, 1)) rfl rfl
theorem oX13_teach_97 : OpS mX13_teach 97 (o_aload 0 98) := s_aload_n (by decide +kernel : decode cX13_teach 97 = .ok (.aload_n 0, 1)) rfl
theorem oX13_teach_98 : OpS mX13_teach 98 (o_iload 2 99) := s_iload_n (by decide +kernel : decode cX13_teach 98 = .ok (.iload_n 2, 1)) rfl
theorem oX13_teach_99 : OpS mX13_teach 99 (o_if (fun x => x = 0) 102 106) := s_if_ne (by decide +kernel : decode cX13_teach 99 = .ok (.ifCond .ne 7, 3)) (by decide)
theorem oX13_teach_102 : OpS mX13_teach 102 (o_const (.int (-1)) 103) := s_iconst (by decide +kernel : decode cX13_teach 102 = .ok (.iconst (-1), 1)) (by decide)
theorem oX13_teach_103 : OpS mX13_teach 103 (o_goto 112) := s_goto (by decide +kernel : decode cX13_teach 103 = .ok (.goto 9, 3)) (by decide)
theorem oX13_teach_106 : OpS mX13_teach 106 (o_aload 0 107) := s_aload_n (by decide +kernel : decode cX13_teach 106 = .ok (.aload_n 0, 1)) rfl
theorem oX13_teach_107 : OpS mX13_teach 107 (o_getP 13 6 110) := s_getP (k := 6) clsX13 (by decide) rfl (Or.inl wd_1250) (by decide +kernel : decode cX13_teach 107 = .ok (.getfield 29, 3)) rfl
theorem oX13_teach_110 : OpS mX13_teach 110 (o_iload 1 111) := s_iload_n (by decide +kernel : decode cX13_teach 110 = .ok (.iload_n 1, 1)) rfl
theorem oX13_teach_111 : OpS mX13_teach 111 (o_iald 112) := s_iald (by decide +kernel : decode cX13_teach 111 = .ok (.iaload, 1))
theorem oX13_teach_112 : OpS mX13_teach 112 (o_putI 13 3 115) := s_putI (k := 3) clsX13 (by decide) rfl (Or.inl ⟨wd_1247, Or.inl rfl⟩) (by decide +kernel : decode cX13_teach 112 = .ok (.putfield 81, 3)) rfl rfl
theorem oX13_teach_115 : OpS mX13_teach 115 (o_aload 0 116) := s_aload_n (by decide +kernel : decode cX13_teach 115 = .ok (.aload_n 0, 1)) rfl
theorem oX13_teach_116 : OpS mX13_teach 116 (o_const (.int 0) 117) := s_iconst (by decide +kernel : decode cX13_teach 116 = .ok (.iconst 0, 1)) (by decide)
theorem oX13_teach_117 : OpS mX13_teach 117 (o_putI 13 2 120) := s_putI (k := 2) clsX13 (by decide) rfl (Or.inl ⟨wd_1246, Or.inl rfl⟩) (by decide +kernel : decode cX13_teach 117 = .ok (.putfield 7, 3)) rfl rfl
theorem oX13_teach_120 : OpS mX13_teach 120 (o_iload 2 121) := s_iload_n (by decide +kernel : decode cX13_teach 120 = .ok (.iload_n 2, 1)) rfl
theorem oX13_teach_121 : OpS mX13_teach 121 (o_if (fun x => x = 0) 124 128) := s_if_ne (by decide +kernel : decode cX13_teach 121 = .ok (.ifCond .ne 7, 3)) (by decide)
theorem oX13_teach_124 : OpS mX13_teach 124 (o_aload 0 125) := s_aload_n (by decide +kernel : decode cX13_teach 124 = .ok (.aload_n 0, 1)) rfl
theorem oX13_teach_125 : OpS mX13_teach 125 (o_callV mX13_change 13 0 128) := s_callV ceX13_change clsX13 (Or.inl wd_1481) wd_1483 selX13_change (by decide +kernel : decode cX13_teach 125 = .ok (.invokevirtual 275, 3))
theorem oX13_teach_128 : OpS mX13_teach 128 (o_iload 2 129) := s_iload_n (by decide +kernel : decode cX13_teach 128 = .ok (.iload_n 2, 1)) rfl
theorem oX13_teach_129 : OpS mX13_teach 129 (o_iret) := s_iret rfl (by decide +kernel : decode cX13_teach 129 = .ok (.ireturn, 1))
theorem oX13_change_0 : OpS mX13_change 0 (o_aload 0 1) := s_aload_n (by decide +kernel : decode cX13_change 0 = .ok (.aload_n 0, 1)) rfl
theorem oX13_change_1 : OpS mX13_change 1 (o_getP 13 8 4) := s_getP (k := 8) clsX13 (by decide) rfl (Or.inl wd_1252) (by decide +kernel : decode cX13_change 1 = .ok (.getfield 87, 3)) rfl
theorem oX13_change_4 : OpS mX13_change 4 (o_astore 1 2 5) := s_astore_n (by decide +kernel : decode cX13_change 4 = .ok (.astore_n 1, 1)) rfl rfl
theorem oX13_change_5 : OpS mX13_change 5 (o_aload 0 6) := s_aload_n (by decide +kernel : decode cX13_change 5 = .ok (.aload_n 0, 1)) rfl
theorem oX13_change_6 : OpS mX13_change 6 (o_aload 0 7) := s_aload_n (by decide +kernel : decode cX13_change 6 = .ok (.aload_n 0, 1)) rfl
theorem oX13_change_7 : OpS mX13_change 7 (o_getP 13 9 10) := s_getP (k := 9) clsX13 (by decide) rfl (Or.inl wd_1253) (by decide +kernel : decode cX13_change 7 = .ok (.getfield 91, 3)) rfl
theorem oX13_change_10 : OpS mX13_change 10 (o_putP 13 8 13) := s_putP (k := 8) clsX13 (by decide) rfl (Or.inl ⟨wd_1252, Or.inl rfl⟩) (by decide +kernel : decode cX13_change 10 = .ok (.putfield 87, 3)) rfl (fun _ => rfl) (fun _ => rfl)
theorem oX13_change_13 : OpS mX13_change 13 (o_aload 0 14) := s_aload_n (by decide +kernel : decode cX13_change 13 = .ok (.aload_n 0, 1)) rfl
theorem oX13_change_14 : OpS mX13_change 14 (o_aload 1 15) := s_aload_n (by decide +kernel : decode cX13_change 14 = .ok (.aload_n 1, 1)) rfl
theorem oX13_change_15 : OpS mX13_change 15 (o_putP 13 9 18) := s_putP (k := 9) clsX13 (by decide) rfl (Or.inl ⟨wd_1253, Or.inl rfl⟩) (by decide +kernel : decode cX13_change 15 = .ok (.putfield 91, 3)) rfl (fun _ => rfl) (fun _ => rfl)
theorem oX13_change_18 : OpS mX13_change 18 (o_aload 0 19) := s_aload_n (by decide +kernel : decode cX13_change 18 = .ok (.aload_n 0, 1)) rfl
theorem oX13_change_19 : OpS mX13_change 19 (o_const (.int 0) 20) := s_iconst (by decide +kernel : decode cX13_change 19 = .ok (.iconst 0, 1)) (by decide)
theorem oX13_change_20 : OpS mX13_change 20 (o_putI 13 18 23) := s_putI (k := 18) clsX13 (by decide) rfl (Or.inl ⟨wd_1262, Or.inl rfl⟩) (by decide +kernel : decode cX13_change 20 = .ok (.putfield 278, 3)) rfl rfl
theorem oX13_change_23 : OpS mX13_change 23 (o_aload 0 24) := s_aload_n (by decide +kernel : decode cX13_change 23 = .ok (.aload_n 0, 1)) rfl
theorem oX13_change_24 : OpS mX13_change 24 (o_const (.int 0) 25) := s_iconst (by decide +kernel : decode cX13_change 24 = .ok (.iconst 0, 1)) (by decide)
theorem oX13_change_25 : OpS mX13_change 25 (o_putI 13 19 28) := s_putI (k := 19) clsX13 (by decide) rfl (Or.inl ⟨wd_1263, Or.inl rfl⟩) (by decide +kernel : decode cX13_change 25 = .ok (.putfield 281, 3)) rfl rfl
theorem oX13_change_28 : OpS mX13_change 28 (o_aload 0 29) := s_aload_n (by decide +kernel : decode cX13_change 28 = .ok (.aload_n 0, 1)) rfl
theorem oX13_change_29 : OpS mX13_change 29 (o_const (.int (-1)) 30) := s_iconst (by decide +kernel : decode cX13_change 29 = .ok (.iconst (-1), 1)) (by decide)
theorem oX13_change_30 : OpS mX13_change 30 (o_putI 13 20 33) := s_putI (k := 20) clsX13 (by decide) rfl (Or.inl ⟨wd_1264, Or.inl rfl⟩) (by decide +kernel : decode cX13_change 30 = .ok (.putfield 103, 3)) rfl rfl
theorem oX13_change_33 : OpS mX13_change 33 (o_vret) := s_vret rfl (by decide +kernel : decode cX13_change 33 = .ok (.return_, 1))
theorem oX13_errorAt_0 : OpS mX13_errorAt 0 (o_aload 0 1) := s_aload_n (by decide +kernel : decode cX13_errorAt 0 = .ok (.aload_n 0, 1)) rfl
theorem oX13_errorAt_1 : OpS mX13_errorAt 1 (o_const (.int 0) 2) := s_iconst (by decide +kernel : decode cX13_errorAt 1 = .ok (.iconst 0, 1)) (by decide)
theorem oX13_errorAt_2 : OpS mX13_errorAt 2 (o_putI 13 0 5) := s_putI (k := 0) clsX13 (by decide) rfl (Or.inl ⟨wd_1244, Or.inl rfl⟩) (by decide +kernel : decode cX13_errorAt 2 = .ok (.putfield 1, 3)) rfl rfl
theorem oX13_errorAt_5 : OpS mX13_errorAt 5 (o_aload 0 6) := s_aload_n (by decide +kernel : decode cX13_errorAt 5 = .ok (.aload_n 0, 1)) rfl
theorem oX13_errorAt_6 : OpS mX13_errorAt 6 (o_getI 13 3 9) := s_getI (k := 3) clsX13 (by decide) rfl (Or.inl wd_1247) (by decide +kernel : decode cX13_errorAt 6 = .ok (.getfield 81, 3)) rfl
theorem oX13_errorAt_9 : OpS mX13_errorAt 9 (o_iret) := s_iret rfl (by decide +kernel : decode cX13_errorAt 9 = .ok (.ireturn, 1))
theorem oX13_keyOf_0 : OpS mX13_keyOf 0 (o_iload 1 1) := s_iload_n (by decide +kernel : decode cX13_keyOf 0 = .ok (.iload_n 1, 1)) rfl
theorem oX13_keyOf_1 : OpS mX13_keyOf 1 (o_const (.int 0) 2) := s_iconst (by decide +kernel : decode cX13_keyOf 1 = .ok (.iconst 0, 1)) (by decide)
theorem oX13_keyOf_2 : OpS mX13_keyOf 2 (o_const (.int 127) 4) := s_bipush (by decide +kernel : decode cX13_keyOf 2 = .ok (.bipush 127, 2)) (by decide)
theorem oX13_keyOf_4 : OpS mX13_keyOf 4 (o_callS mX13_isIn 3 7) := s_callS ceX13_isIn (Or.inl wd_1162) wd_1163 (by decide +kernel : decode cX13_keyOf 4 = .ok (.invokestatic 22, 3))
theorem oX13_keyOf_7 : OpS mX13_keyOf 7 (o_if (fun x => x = 0) 22 10) := s_if_eq (by decide +kernel : decode cX13_keyOf 7 = .ok (.ifCond .eq 15, 3)) (by decide)
theorem oX13_keyOf_10 : OpS mX13_keyOf 10 (o_aload 0 11) := s_aload_n (by decide +kernel : decode cX13_keyOf 10 = .ok (.aload_n 0, 1)) rfl
theorem oX13_keyOf_11 : OpS mX13_keyOf 11 (o_getP 13 8 14) := s_getP (k := 8) clsX13 (by decide) rfl (Or.inl wd_1252) (by decide +kernel : decode cX13_keyOf 11 = .ok (.getfield 87, 3)) rfl
theorem oX13_keyOf_14 : OpS mX13_keyOf 14 (o_getP 12 8 17) := s_getP (k := 8) clsX12 (by decide) rfl (Or.inr ⟨_, wd_1193⟩) (by decide +kernel : decode cX13_keyOf 14 = .ok (.getfield 255, 3)) rfl
theorem oX13_keyOf_17 : OpS mX13_keyOf 17 (o_iload 1 18) := s_iload_n (by decide +kernel : decode cX13_keyOf 17 = .ok (.iload_n 1, 1)) rfl
theorem oX13_keyOf_18 : OpS mX13_keyOf 18 (o_iald 19) := s_iald (by decide +kernel : decode cX13_keyOf 18 = .ok (.iaload, 1))
theorem oX13_keyOf_19 : OpS mX13_keyOf 19 (o_goto 23) := s_goto (by decide +kernel : decode cX13_keyOf 19 = .ok (.goto 4, 3)) (by decide)
theorem oX13_keyOf_22 : OpS mX13_keyOf 22 (o_const (.int (-1)) 23) := s_iconst (by decide +kernel : decode cX13_keyOf 22 = .ok (.iconst (-1), 1)) (by decide)
theorem oX13_keyOf_23 : OpS mX13_keyOf 23 (o_iret) := s_iret rfl (by decide +kernel : decode cX13_keyOf 23 = .ok (.ireturn, 1))
theorem oX13_isNear_0 : OpS mX13_isNear 0 (o_aload 0 1) := s_aload_n (by decide +kernel : decode cX13_isNear 0 = .ok (.aload_n 0, 1)) rfl
theorem oX13_isNear_1 : OpS mX13_isNear 1 (o_iload 1 2) := s_iload_n (by decide +kernel : decode cX13_isNear 1 = .ok (.iload_n 1, 1)) rfl
theorem oX13_isNear_2 : OpS mX13_isNear 2 (o_callV mX13_keyOf 13 1 5) := s_callV ceX13_keyOf clsX13 (Or.inl wd_1517) wd_1519 selX13_keyOf (by decide +kernel : decode cX13_isNear 2 = .ok (.invokevirtual 284, 3))
theorem oX13_isNear_5 : OpS mX13_isNear 5 (o_istore 3 7 6) := s_istore_n (by decide +kernel : decode cX13_isNear 5 = .ok (.istore_n 3, 1)) rfl rfl
theorem oX13_isNear_6 : OpS mX13_isNear 6 (o_aload 0 7) := s_aload_n (by decide +kernel : decode cX13_isNear 6 = .ok (.aload_n 0, 1)) rfl
theorem oX13_isNear_7 : OpS mX13_isNear 7 (o_iload 2 8) := s_iload_n (by decide +kernel : decode cX13_isNear 7 = .ok (.iload_n 2, 1)) rfl
theorem oX13_isNear_8 : OpS mX13_isNear 8 (o_callV mX13_keyOf 13 1 11) := s_callV ceX13_keyOf clsX13 (Or.inl wd_1517) wd_1519 selX13_keyOf (by decide +kernel : decode cX13_isNear 8 = .ok (.invokevirtual 284, 3))
theorem oX13_isNear_11 : OpS mX13_isNear 11 (o_istore 4 7 13) := s_istore (by decide +kernel : decode cX13_isNear 11 = .ok (.istore 4, 2)) rfl
theorem oX13_isNear_13 : OpS mX13_isNear 13 (o_iload 3 14) := s_iload_n (by decide +kernel : decode cX13_isNear 13 = .ok (.iload_n 3, 1)) rfl
theorem oX13_isNear_14 : OpS mX13_isNear 14 (o_const (.int (-1)) 15) := s_iconst (by decide +kernel : decode cX13_isNear 14 = .ok (.iconst (-1), 1)) (by decide)
theorem oX13_isNear_15 : OpS mX13_isNear 15 (o_icmp (fun x y => x = y) 24 18) := s_icmp_eq (by decide +kernel : decode cX13_isNear 15 = .ok (.if_icmp .eq 9, 3)) (by decide)
theorem oX13_isNear_18 : OpS mX13_isNear 18 (o_iload 4 20) := s_iload (by decide +kernel : decode cX13_isNear 18 = .ok (.iload 4, 2))
theorem oX13_isNear_20 : OpS mX13_isNear 20 (o_const (.int (-1)) 21) := s_iconst (by decide +kernel : decode cX13_isNear 20 = .ok (.iconst (-1), 1)) (by decide)
theorem oX13_isNear_21 : OpS mX13_isNear 21 (o_icmp (fun x y => x = y) 24 26) := s_icmp_ne (by decide +kernel : decode cX13_isNear 21 = .ok (.if_icmp .ne 5, 3)) (by decide)
theorem oX13_isNear_24 : OpS mX13_isNear 24 (o_const (.int 0) 25) := s_iconst (by decide +kernel : decode cX13_isNear 24 = .ok (.iconst 0, 1)) (by decide)
theorem oX13_isNear_25 : OpS mX13_isNear 25 (o_zret) := s_zret rfl (by decide +kernel : decode cX13_isNear 25 = .ok (.ireturn, 1))
theorem oX13_isNear_26 : OpS mX13_isNear 26 (o_iload 3 27) := s_iload_n (by decide +kernel : decode cX13_isNear 26 = .ok (.iload_n 3, 1)) rfl
theorem oX13_isNear_27 : OpS mX13_isNear 27 (o_iload 4 29) := s_iload (by decide +kernel : decode cX13_isNear 27 = .ok (.iload 4, 2))
theorem oX13_isNear_29 : OpS mX13_isNear 29 (o_max 32) := s_max wd_1521 wd_43 wd_3 wd_44 (by decide +kernel : decode cX13_isNear 29 = .ok (.invokestatic 287, 3))
theorem oX13_isNear_32 : OpS mX13_isNear 32 (o_istore 5 7 34) := s_istore (by decide +kernel : decode cX13_isNear 32 = .ok (.istore 5, 2)) rfl
theorem oX13_isNear_34 : OpS mX13_isNear 34 (o_iload 3 35) := s_iload_n (by decide +kernel : decode cX13_isNear 34 = .ok (.iload_n 3, 1)) rfl
theorem oX13_isNear_35 : OpS mX13_isNear 35 (o_iload 4 37) := s_iload (by decide +kernel : decode cX13_isNear 35 = .ok (.iload 4, 2))
theorem oX13_isNear_37 : OpS mX13_isNear 37 (o_min 40) := s_min wd_1431 wd_472 wd_3 wd_473 (by decide +kernel : decode cX13_isNear 37 = .ok (.invokestatic 258, 3))
theorem oX13_isNear_40 : OpS mX13_isNear 40 (o_istore 6 7 42) := s_istore (by decide +kernel : decode cX13_isNear 40 = .ok (.istore 6, 2)) rfl
theorem oX13_isNear_42 : OpS mX13_isNear 42 (o_iload 5 44) := s_iload (by decide +kernel : decode cX13_isNear 42 = .ok (.iload 5, 2))
theorem oX13_isNear_44 : OpS mX13_isNear 44 (o_const (.int 16) 46) := s_bipush (by decide +kernel : decode cX13_isNear 44 = .ok (.bipush 16, 2)) (by decide)
theorem oX13_isNear_46 : OpS mX13_isNear 46 (o_idiv 47) := s_idiv (by decide +kernel : decode cX13_isNear 46 = .ok (.idiv, 1))
theorem oX13_isNear_47 : OpS mX13_isNear 47 (o_iload 6 49) := s_iload (by decide +kernel : decode cX13_isNear 47 = .ok (.iload 6, 2))
theorem oX13_isNear_49 : OpS mX13_isNear 49 (o_const (.int 16) 51) := s_bipush (by decide +kernel : decode cX13_isNear 49 = .ok (.bipush 16, 2)) (by decide)
theorem oX13_isNear_51 : OpS mX13_isNear 51 (o_idiv 52) := s_idiv (by decide +kernel : decode cX13_isNear 51 = .ok (.idiv, 1))
theorem oX13_isNear_52 : OpS mX13_isNear 52 (o_icmp (fun x y => x = y) 55 70) := s_icmp_ne (by decide +kernel : decode cX13_isNear 52 = .ok (.if_icmp .ne 18, 3)) (by decide)
theorem oX13_isNear_55 : OpS mX13_isNear 55 (o_iload 5 57) := s_iload (by decide +kernel : decode cX13_isNear 55 = .ok (.iload 5, 2))
theorem oX13_isNear_57 : OpS mX13_isNear 57 (o_iload 6 59) := s_iload (by decide +kernel : decode cX13_isNear 57 = .ok (.iload 6, 2))
theorem oX13_isNear_59 : OpS mX13_isNear 59 (o_ibin (fun x y => x - y) 60) := s_isub (by decide +kernel : decode cX13_isNear 59 = .ok (.isub, 1))
theorem oX13_isNear_60 : OpS mX13_isNear 60 (o_const (.int 1) 61) := s_iconst (by decide +kernel : decode cX13_isNear 60 = .ok (.iconst 1, 1)) (by decide)
theorem oX13_isNear_61 : OpS mX13_isNear 61 (o_icmp (fun x y => x = y) 64 68) := s_icmp_ne (by decide +kernel : decode cX13_isNear 61 = .ok (.if_icmp .ne 7, 3)) (by decide)
theorem oX13_isNear_64 : OpS mX13_isNear 64 (o_const (.int 1) 65) := s_iconst (by decide +kernel : decode cX13_isNear 64 = .ok (.iconst 1, 1)) (by decide)
theorem oX13_isNear_65 : OpS mX13_isNear 65 (o_goto 69) := s_goto (by decide +kernel : decode cX13_isNear 65 = .ok (.goto 4, 3)) (by decide)
theorem oX13_isNear_68 : OpS mX13_isNear 68 (o_const (.int 0) 69) := s_iconst (by decide +kernel : decode cX13_isNear 68 = .ok (.iconst 0, 1)) (by decide)
theorem oX13_isNear_69 : OpS mX13_isNear 69 (o_zret) := s_zret rfl (by decide +kernel : decode cX13_isNear 69 = .ok (.ireturn, 1))
theorem oX13_isNear_70 : OpS mX13_isNear 70 (o_iload 5 72) := s_iload (by decide +kernel : decode cX13_isNear 70 = .ok (.iload 5, 2))
theorem oX13_isNear_72 : OpS mX13_isNear 72 (o_const (.int 16) 74) := s_bipush (by decide +kernel : decode cX13_isNear 72 = .ok (.bipush 16, 2)) (by decide)
theorem oX13_isNear_74 : OpS mX13_isNear 74 (o_idiv 75) := s_idiv (by decide +kernel : decode cX13_isNear 74 = .ok (.idiv, 1))
theorem oX13_isNear_75 : OpS mX13_isNear 75 (o_iload 6 77) := s_iload (by decide +kernel : decode cX13_isNear 75 = .ok (.iload 6, 2))
theorem oX13_isNear_77 : OpS mX13_isNear 77 (o_const (.int 16) 79) := s_bipush (by decide +kernel : decode cX13_isNear 77 = .ok (.bipush 16, 2)) (by decide)
theorem oX13_isNear_79 : OpS mX13_isNear 79 (o_idiv 80) := s_idiv (by decide +kernel : decode cX13_isNear 79 = .ok (.idiv, 1))
theorem oX13_isNear_80 : OpS mX13_isNear 80 (o_const (.int 1) 81) := s_iconst (by decide +kernel : decode cX13_isNear 80 = .ok (.iconst 1, 1)) (by decide)
theorem oX13_isNear_81 : OpS mX13_isNear 81 (o_ibin (fun x y => x + y) 82) := s_iadd (by decide +kernel : decode cX13_isNear 81 = .ok (.iadd, 1))
theorem oX13_isNear_82 : OpS mX13_isNear 82 (o_icmp (fun x y => x = y) 85 108) := s_icmp_ne (by decide +kernel : decode cX13_isNear 82 = .ok (.if_icmp .ne 26, 3)) (by decide)
theorem oX13_isNear_85 : OpS mX13_isNear 85 (o_iload 6 87) := s_iload (by decide +kernel : decode cX13_isNear 85 = .ok (.iload 6, 2))
theorem oX13_isNear_87 : OpS mX13_isNear 87 (o_const (.int 16) 89) := s_bipush (by decide +kernel : decode cX13_isNear 87 = .ok (.bipush 16, 2)) (by decide)
theorem oX13_isNear_89 : OpS mX13_isNear 89 (o_irem 90) := s_irem (by decide +kernel : decode cX13_isNear 89 = .ok (.irem, 1))
theorem oX13_isNear_90 : OpS mX13_isNear 90 (o_iload 5 92) := s_iload (by decide +kernel : decode cX13_isNear 90 = .ok (.iload 5, 2))
theorem oX13_isNear_92 : OpS mX13_isNear 92 (o_const (.int 16) 94) := s_bipush (by decide +kernel : decode cX13_isNear 92 = .ok (.bipush 16, 2)) (by decide)
theorem oX13_isNear_94 : OpS mX13_isNear 94 (o_irem 95) := s_irem (by decide +kernel : decode cX13_isNear 94 = .ok (.irem, 1))
theorem oX13_isNear_95 : OpS mX13_isNear 95 (o_ibin (fun x y => x - y) 96) := s_isub (by decide +kernel : decode cX13_isNear 95 = .ok (.isub, 1))
theorem oX13_isNear_96 : OpS mX13_isNear 96 (o_const (.int 0) 97) := s_iconst (by decide +kernel : decode cX13_isNear 96 = .ok (.iconst 0, 1)) (by decide)
theorem oX13_isNear_97 : OpS mX13_isNear 97 (o_const (.int 1) 98) := s_iconst (by decide +kernel : decode cX13_isNear 97 = .ok (.iconst 1, 1)) (by decide)
theorem oX13_isNear_98 : OpS mX13_isNear 98 (o_callS mX13_isIn 3 101) := s_callS ceX13_isIn (Or.inl wd_1162) wd_1163 (by decide +kernel : decode cX13_isNear 98 = .ok (.invokestatic 22, 3))
theorem oX13_isNear_101 : OpS mX13_isNear 101 (o_if (fun x => x = 0) 108 104) := s_if_eq (by decide +kernel : decode cX13_isNear 101 = .ok (.ifCond .eq 7, 3)) (by decide)
theorem oX13_isNear_104 : OpS mX13_isNear 104 (o_const (.int 1) 105) := s_iconst (by decide +kernel : decode cX13_isNear 104 = .ok (.iconst 1, 1)) (by decide)
theorem oX13_isNear_105 : OpS mX13_isNear 105 (o_goto 109) := s_goto (by decide +kernel : decode cX13_isNear 105 = .ok (.goto 4, 3)) (by decide)
theorem oX13_isNear_108 : OpS mX13_isNear 108 (o_const (.int 0) 109) := s_iconst (by decide +kernel : decode cX13_isNear 108 = .ok (.iconst 0, 1)) (by decide)
theorem oX13_isNear_109 : OpS mX13_isNear 109 (o_zret) := s_zret rfl (by decide +kernel : decode cX13_isNear 109 = .ok (.ireturn, 1))
theorem oX13_farOf_0 : OpS mX13_farOf 0 (o_const (.int 0) 1) := s_iconst (by decide +kernel : decode cX13_farOf 0 = .ok (.iconst 0, 1)) (by decide)
theorem oX13_farOf_1 : OpS mX13_farOf 1 (o_istore 2 7 2) := s_istore_n (by decide +kernel : decode cX13_farOf 1 = .ok (.istore_n 2, 1)) rfl rfl
theorem oX13_farOf_2 : OpS mX13_farOf 2 (o_iload 2 3) := s_iload_n (by decide +kernel : decode cX13_farOf 2 = .ok (.iload_n 2, 1)) rfl
theorem oX13_farOf_3 : OpS mX13_farOf 3 (o_aload 0 4) := s_aload_n (by decide +kernel : decode cX13_farOf 3 = .ok (.aload_n 0, 1)) rfl
theorem oX13_farOf_4 : OpS mX13_farOf 4 (o_getP 13 8 7) := s_getP (k := 8) clsX13 (by decide) rfl (Or.inl wd_1252) (by decide +kernel : decode cX13_farOf 4 = .ok (.getfield 87, 3)) rfl
theorem oX13_farOf_7 : OpS mX13_farOf 7 (o_getP 12 5 10) := s_getP (k := 5) clsX12 (by decide) rfl (Or.inr ⟨_, wd_1187⟩) (by decide +kernel : decode cX13_farOf 7 = .ok (.getfield 242, 3)) rfl
theorem oX13_farOf_10 : OpS mX13_farOf 10 (o_iload 1 11) := s_iload_n (by decide +kernel : decode cX13_farOf 10 = .ok (.iload_n 1, 1)) rfl
theorem oX13_farOf_11 : OpS mX13_farOf 11 (o_iald 12) := s_iald (by decide +kernel : decode cX13_farOf 11 = .ok (.iaload, 1))
theorem oX13_farOf_12 : OpS mX13_farOf 12 (o_icmp (fun x y => y < x) 30 15) := s_icmp_gt (by decide +kernel : decode cX13_farOf 12 = .ok (.if_icmp .gt 18, 3)) (by decide)
theorem oX13_farOf_15 : OpS mX13_farOf 15 (o_aload 0 16) := s_aload_n (by decide +kernel : decode cX13_farOf 15 = .ok (.aload_n 0, 1)) rfl
theorem oX13_farOf_16 : OpS mX13_farOf 16 (o_getP 13 23 19) := s_getP (k := 23) clsX13 (by decide) rfl (Or.inl wd_1267) (by decide +kernel : decode cX13_farOf 16 = .ok (.getfield 112, 3)) rfl
theorem oX13_farOf_19 : OpS mX13_farOf 19 (o_iload 2 20) := s_iload_n (by decide +kernel : decode cX13_farOf 19 = .ok (.iload_n 2, 1)) rfl
theorem oX13_farOf_20 : OpS mX13_farOf 20 (o_const (.int 3) 21) := s_iconst (by decide +kernel : decode cX13_farOf 20 = .ok (.iconst 3, 1)) (by decide)
theorem oX13_farOf_21 : OpS mX13_farOf 21 (o_iload 2 22) := s_iload_n (by decide +kernel : decode cX13_farOf 21 = .ok (.iload_n 2, 1)) rfl
theorem oX13_farOf_22 : OpS mX13_farOf 22 (o_ibin (fun x y => x * y) 23) := s_imul (by decide +kernel : decode cX13_farOf 22 = .ok (.imul, 1))
theorem oX13_farOf_23 : OpS mX13_farOf 23 (o_iast 24) := s_iast (by decide +kernel : decode cX13_farOf 23 = .ok (.iastore, 1))
theorem oX13_farOf_24 : OpS mX13_farOf 24 (o_iinc 2 7 1 27) := s_iinc (by decide +kernel : decode cX13_farOf 24 = .ok (.iinc 2 1, 3)) (by decide) rfl
theorem oX13_farOf_27 : OpS mX13_farOf 27 (o_goto 2) := s_goto (by decide +kernel : decode cX13_farOf 27 = .ok (.goto (-25), 3)) (by decide)
theorem oX13_farOf_30 : OpS mX13_farOf 30 (o_const (.int 0) 31) := s_iconst (by decide +kernel : decode cX13_farOf 30 = .ok (.iconst 0, 1)) (by decide)
theorem oX13_farOf_31 : OpS mX13_farOf 31 (o_istore 2 7 32) := s_istore_n (by decide +kernel : decode cX13_farOf 31 = .ok (.istore_n 2, 1)) rfl rfl
theorem oX13_farOf_32 : OpS mX13_farOf 32 (o_iload 2 33) := s_iload_n (by decide +kernel : decode cX13_farOf 32 = .ok (.iload_n 2, 1)) rfl
theorem oX13_farOf_33 : OpS mX13_farOf 33 (o_aload 0 34) := s_aload_n (by decide +kernel : decode cX13_farOf 33 = .ok (.aload_n 0, 1)) rfl
theorem oX13_farOf_34 : OpS mX13_farOf 34 (o_getI 13 18 37) := s_getI (k := 18) clsX13 (by decide) rfl (Or.inl wd_1262) (by decide +kernel : decode cX13_farOf 34 = .ok (.getfield 278, 3)) rfl
theorem oX13_farOf_37 : OpS mX13_farOf 37 (o_icmp (fun x y => y ≤ x) 182 40) := s_icmp_ge (by decide +kernel : decode cX13_farOf 37 = .ok (.if_icmp .ge 145, 3)) (by decide)
theorem oX13_farOf_40 : OpS mX13_farOf 40 (o_aload 0 41) := s_aload_n (by decide +kernel : decode cX13_farOf 40 = .ok (.aload_n 0, 1)) rfl
theorem oX13_farOf_41 : OpS mX13_farOf 41 (o_getP 13 23 44) := s_getP (k := 23) clsX13 (by decide) rfl (Or.inl wd_1267) (by decide +kernel : decode cX13_farOf 41 = .ok (.getfield 112, 3)) rfl
theorem oX13_farOf_44 : OpS mX13_farOf 44 (o_const (.int 0) 45) := s_iconst (by decide +kernel : decode cX13_farOf 44 = .ok (.iconst 0, 1)) (by decide)
theorem oX13_farOf_45 : OpS mX13_farOf 45 (o_iald 46) := s_iald (by decide +kernel : decode cX13_farOf 45 = .ok (.iaload, 1))
theorem oX13_farOf_46 : OpS mX13_farOf 46 (o_istore 3 7 47) := s_istore_n (by decide +kernel : decode cX13_farOf 46 = .ok (.istore_n 3, 1)) rfl rfl
theorem oX13_farOf_47 : OpS mX13_farOf 47 (o_aload 0 48) := s_aload_n (by decide +kernel : decode cX13_farOf 47 = .ok (.aload_n 0, 1)) rfl
theorem oX13_farOf_48 : OpS mX13_farOf 48 (o_getP 13 23 51) := s_getP (k := 23) clsX13 (by decide) rfl (Or.inl wd_1267) (by decide +kernel : decode cX13_farOf 48 = .ok (.getfield 112, 3)) rfl
theorem oX13_farOf_51 : OpS mX13_farOf 51 (o_const (.int 0) 52) := s_iconst (by decide +kernel : decode cX13_farOf 51 = .ok (.iconst 0, 1)) (by decide)
theorem oX13_farOf_52 : OpS mX13_farOf 52 (o_dup2 53) := s_dup2 (by decide +kernel : decode cX13_farOf 52 = .ok (.dup2, 1))
theorem oX13_farOf_53 : OpS mX13_farOf 53 (o_iald 54) := s_iald (by decide +kernel : decode cX13_farOf 53 = .ok (.iaload, 1))
theorem oX13_farOf_54 : OpS mX13_farOf 54 (o_const (.int 3) 55) := s_iconst (by decide +kernel : decode cX13_farOf 54 = .ok (.iconst 3, 1)) (by decide)
theorem oX13_farOf_55 : OpS mX13_farOf 55 (o_ibin (fun x y => x + y) 56) := s_iadd (by decide +kernel : decode cX13_farOf 55 = .ok (.iadd, 1))
theorem oX13_farOf_56 : OpS mX13_farOf 56 (o_iast 57) := s_iast (by decide +kernel : decode cX13_farOf 56 = .ok (.iastore, 1))
theorem oX13_farOf_57 : OpS mX13_farOf 57 (o_const (.int 1) 58) := s_iconst (by decide +kernel : decode cX13_farOf 57 = .ok (.iconst 1, 1)) (by decide)
theorem oX13_farOf_58 : OpS mX13_farOf 58 (o_istore 4 7 60) := s_istore (by decide +kernel : decode cX13_farOf 58 = .ok (.istore 4, 2)) rfl
theorem oX13_farOf_60 : OpS mX13_farOf 60 (o_iload 4 62) := s_iload (by decide +kernel : decode cX13_farOf 60 = .ok (.iload 4, 2))
theorem oX13_farOf_62 : OpS mX13_farOf 62 (o_aload 0 63) := s_aload_n (by decide +kernel : decode cX13_farOf 62 = .ok (.aload_n 0, 1)) rfl
theorem oX13_farOf_63 : OpS mX13_farOf 63 (o_getP 13 8 66) := s_getP (k := 8) clsX13 (by decide) rfl (Or.inl wd_1252) (by decide +kernel : decode cX13_farOf 63 = .ok (.getfield 87, 3)) rfl
theorem oX13_farOf_66 : OpS mX13_farOf 66 (o_getP 12 5 69) := s_getP (k := 5) clsX12 (by decide) rfl (Or.inr ⟨_, wd_1187⟩) (by decide +kernel : decode cX13_farOf 66 = .ok (.getfield 242, 3)) rfl
theorem oX13_farOf_69 : OpS mX13_farOf 69 (o_iload 1 70) := s_iload_n (by decide +kernel : decode cX13_farOf 69 = .ok (.iload_n 1, 1)) rfl
theorem oX13_farOf_70 : OpS mX13_farOf 70 (o_iald 71) := s_iald (by decide +kernel : decode cX13_farOf 70 = .ok (.iaload, 1))
theorem oX13_farOf_71 : OpS mX13_farOf 71 (o_icmp (fun x y => y < x) 176 74) := s_icmp_gt (by decide +kernel : decode cX13_farOf 71 = .ok (.if_icmp .gt 105, 3)) (by decide)
theorem oX13_farOf_74 : OpS mX13_farOf 74 (o_aload 0 75) := s_aload_n (by decide +kernel : decode cX13_farOf 74 = .ok (.aload_n 0, 1)) rfl
theorem oX13_farOf_75 : OpS mX13_farOf 75 (o_getP 13 8 78) := s_getP (k := 8) clsX13 (by decide) rfl (Or.inl wd_1252) (by decide +kernel : decode cX13_farOf 75 = .ok (.getfield 87, 3)) rfl
theorem oX13_farOf_78 : OpS mX13_farOf 78 (o_iload 1 79) := s_iload_n (by decide +kernel : decode cX13_farOf 78 = .ok (.iload_n 1, 1)) rfl
theorem oX13_farOf_79 : OpS mX13_farOf 79 (o_iload 4 81) := s_iload (by decide +kernel : decode cX13_farOf 79 = .ok (.iload 4, 2))
theorem oX13_farOf_81 : OpS mX13_farOf 81 (o_const (.int 1) 82) := s_iconst (by decide +kernel : decode cX13_farOf 81 = .ok (.iconst 1, 1)) (by decide)
theorem oX13_farOf_82 : OpS mX13_farOf 82 (o_ibin (fun x y => x - y) 83) := s_isub (by decide +kernel : decode cX13_farOf 82 = .ok (.isub, 1))
theorem oX13_farOf_83 : OpS mX13_farOf 83 (o_callV mX12_byteOf 12 2 86) := s_callV ceX12_byteOf clsX12 (Or.inl wd_1509) wd_1510 selX12_byteOf (by decide +kernel : decode cX13_farOf 83 = .ok (.invokevirtual 290, 3))
theorem oX13_farOf_86 : OpS mX13_farOf 86 (o_istore 5 7 88) := s_istore (by decide +kernel : decode cX13_farOf 86 = .ok (.istore 5, 2)) rfl
theorem oX13_farOf_88 : OpS mX13_farOf 88 (o_iload 3 89) := s_iload_n (by decide +kernel : decode cX13_farOf 88 = .ok (.iload_n 3, 1)) rfl
theorem oX13_farOf_89 : OpS mX13_farOf 89 (o_iload 5 91) := s_iload (by decide +kernel : decode cX13_farOf 89 = .ok (.iload 5, 2))
theorem oX13_farOf_91 : OpS mX13_farOf 91 (o_aload 0 92) := s_aload_n (by decide +kernel : decode cX13_farOf 91 = .ok (.aload_n 0, 1)) rfl
theorem oX13_farOf_92 : OpS mX13_farOf 92 (o_getP 13 17 95) := s_getP (k := 17) clsX13 (by decide) rfl (Or.inl wd_1261) (by decide +kernel : decode cX13_farOf 92 = .ok (.getfield 100, 3)) rfl
theorem oX13_farOf_95 : OpS mX13_farOf 95 (o_iload 2 96) := s_iload_n (by decide +kernel : decode cX13_farOf 95 = .ok (.iload_n 2, 1)) rfl
theorem oX13_farOf_96 : OpS mX13_farOf 96 (o_iald 97) := s_iald (by decide +kernel : decode cX13_farOf 96 = .ok (.iaload, 1))
theorem oX13_farOf_97 : OpS mX13_farOf 97 (o_icmp (fun x y => x = y) 100 104) := s_icmp_ne (by decide +kernel : decode cX13_farOf 97 = .ok (.if_icmp .ne 7, 3)) (by decide)
theorem oX13_farOf_100 : OpS mX13_farOf 100 (o_const (.int 0) 101) := s_iconst (by decide +kernel : decode cX13_farOf 100 = .ok (.iconst 0, 1)) (by decide)
theorem oX13_farOf_101 : OpS mX13_farOf 101 (o_goto 126) := s_goto (by decide +kernel : decode cX13_farOf 101 = .ok (.goto 25, 3)) (by decide)
theorem oX13_farOf_104 : OpS mX13_farOf 104 (o_aload 0 105) := s_aload_n (by decide +kernel : decode cX13_farOf 104 = .ok (.aload_n 0, 1)) rfl
theorem oX13_farOf_105 : OpS mX13_farOf 105 (o_iload 5 107) := s_iload (by decide +kernel : decode cX13_farOf 105 = .ok (.iload 5, 2))
theorem oX13_farOf_107 : OpS mX13_farOf 107 (o_aload 0 108) := s_aload_n (by decide +kernel : decode cX13_farOf 107 = .ok (.aload_n 0, 1)) rfl
theorem oX13_farOf_108 : OpS mX13_farOf 108 (o_getP 13 17 111) := s_getP (k := 17) clsX13 (by decide) rfl (Or.inl wd_1261) (by decide +kernel : decode cX13_farOf 108 = .ok (.getfield 100, 3)) rfl
theorem oX13_farOf_111 : OpS mX13_farOf 111 (o_iload 2 112) := s_iload_n (by decide +kernel : decode cX13_farOf 111 = .ok (.iload_n 2, 1)) rfl
theorem oX13_farOf_112 : OpS mX13_farOf 112 (o_iald 113) := s_iald (by decide +kernel : decode cX13_farOf 112 = .ok (.iaload, 1))
theorem oX13_farOf_113 : OpS mX13_farOf 113 (o_callV mX13_isNear 13 2 116) := s_callV ceX13_isNear clsX13 (Or.inl wd_1513) wd_1515 selX13_isNear (by decide +kernel : decode cX13_farOf 113 = .ok (.invokevirtual 293, 3))
theorem oX13_farOf_116 : OpS mX13_farOf 116 (o_if (fun x => x = 0) 123 119) := s_if_eq (by decide +kernel : decode cX13_farOf 116 = .ok (.ifCond .eq 7, 3)) (by decide)
theorem oX13_farOf_119 : OpS mX13_farOf 119 (o_const (.int 2) 120) := s_iconst (by decide +kernel : decode cX13_farOf 119 = .ok (.iconst 2, 1)) (by decide)
theorem oX13_farOf_120 : OpS mX13_farOf 120 (o_goto 126) := s_goto (by decide +kernel : decode cX13_farOf 120 = .ok (.goto 6, 3)) (by decide)
theorem oX13_farOf_123 : OpS mX13_farOf 123 (o_const (.int 999) 126) := s_sipush (by decide +kernel : decode cX13_farOf 123 = .ok (.sipush 999, 3)) (by decide)
theorem oX13_farOf_126 : OpS mX13_farOf 126 (o_ibin (fun x y => x + y) 127) := s_iadd (by decide +kernel : decode cX13_farOf 126 = .ok (.iadd, 1))
theorem oX13_farOf_127 : OpS mX13_farOf 127 (o_istore 6 7 129) := s_istore (by decide +kernel : decode cX13_farOf 127 = .ok (.istore 6, 2)) rfl
theorem oX13_farOf_129 : OpS mX13_farOf 129 (o_aload 0 130) := s_aload_n (by decide +kernel : decode cX13_farOf 129 = .ok (.aload_n 0, 1)) rfl
theorem oX13_farOf_130 : OpS mX13_farOf 130 (o_getP 13 23 133) := s_getP (k := 23) clsX13 (by decide) rfl (Or.inl wd_1267) (by decide +kernel : decode cX13_farOf 130 = .ok (.getfield 112, 3)) rfl
theorem oX13_farOf_133 : OpS mX13_farOf 133 (o_iload 4 135) := s_iload (by decide +kernel : decode cX13_farOf 133 = .ok (.iload 4, 2))
theorem oX13_farOf_135 : OpS mX13_farOf 135 (o_iald 136) := s_iald (by decide +kernel : decode cX13_farOf 135 = .ok (.iaload, 1))
theorem oX13_farOf_136 : OpS mX13_farOf 136 (o_istore 3 7 137) := s_istore_n (by decide +kernel : decode cX13_farOf 136 = .ok (.istore_n 3, 1)) rfl rfl
theorem oX13_farOf_137 : OpS mX13_farOf 137 (o_aload 0 138) := s_aload_n (by decide +kernel : decode cX13_farOf 137 = .ok (.aload_n 0, 1)) rfl
theorem oX13_farOf_138 : OpS mX13_farOf 138 (o_getP 13 23 141) := s_getP (k := 23) clsX13 (by decide) rfl (Or.inl wd_1267) (by decide +kernel : decode cX13_farOf 138 = .ok (.getfield 112, 3)) rfl
theorem oX13_farOf_141 : OpS mX13_farOf 141 (o_iload 4 143) := s_iload (by decide +kernel : decode cX13_farOf 141 = .ok (.iload 4, 2))
theorem oX13_farOf_143 : OpS mX13_farOf 143 (o_iload 6 145) := s_iload (by decide +kernel : decode cX13_farOf 143 = .ok (.iload 6, 2))
theorem oX13_farOf_145 : OpS mX13_farOf 145 (o_const (.int 3) 146) := s_iconst (by decide +kernel : decode cX13_farOf 145 = .ok (.iconst 3, 1)) (by decide)
theorem oX13_farOf_146 : OpS mX13_farOf 146 (o_aload 0 147) := s_aload_n (by decide +kernel : decode cX13_farOf 146 = .ok (.aload_n 0, 1)) rfl
theorem oX13_farOf_147 : OpS mX13_farOf 147 (o_getP 13 23 150) := s_getP (k := 23) clsX13 (by decide) rfl (Or.inl wd_1267) (by decide +kernel : decode cX13_farOf 147 = .ok (.getfield 112, 3)) rfl
theorem oX13_farOf_150 : OpS mX13_farOf 150 (o_iload 4 152) := s_iload (by decide +kernel : decode cX13_farOf 150 = .ok (.iload 4, 2))
theorem oX13_farOf_152 : OpS mX13_farOf 152 (o_iald 153) := s_iald (by decide +kernel : decode cX13_farOf 152 = .ok (.iaload, 1))
theorem oX13_farOf_153 : OpS mX13_farOf 153 (o_aload 0 154) := s_aload_n (by decide +kernel : decode cX13_farOf 153 = .ok (.aload_n 0, 1)) rfl
theorem oX13_farOf_154 : OpS mX13_farOf 154 (o_getP 13 23 157) := s_getP (k := 23) clsX13 (by decide) rfl (Or.inl wd_1267) (by decide +kernel : decode cX13_farOf 154 = .ok (.getfield 112, 3)) rfl
theorem oX13_farOf_157 : OpS mX13_farOf 157 (o_iload 4 159) := s_iload (by decide +kernel : decode cX13_farOf 157 = .ok (.iload 4, 2))
theorem oX13_farOf_159 : OpS mX13_farOf 159 (o_const (.int 1) 160) := s_iconst (by decide +kernel : decode cX13_farOf 159 = .ok (.iconst 1, 1)) (by decide)
theorem oX13_farOf_160 : OpS mX13_farOf 160 (o_ibin (fun x y => x - y) 161) := s_isub (by decide +kernel : decode cX13_farOf 160 = .ok (.isub, 1))
theorem oX13_farOf_161 : OpS mX13_farOf 161 (o_iald 162) := s_iald (by decide +kernel : decode cX13_farOf 161 = .ok (.iaload, 1))
theorem oX13_farOf_162 : OpS mX13_farOf 162 (o_min 165) := s_min wd_1431 wd_472 wd_3 wd_473 (by decide +kernel : decode cX13_farOf 162 = .ok (.invokestatic 258, 3))
theorem oX13_farOf_165 : OpS mX13_farOf 165 (o_ibin (fun x y => x + y) 166) := s_iadd (by decide +kernel : decode cX13_farOf 165 = .ok (.iadd, 1))
theorem oX13_farOf_166 : OpS mX13_farOf 166 (o_min 169) := s_min wd_1431 wd_472 wd_3 wd_473 (by decide +kernel : decode cX13_farOf 166 = .ok (.invokestatic 258, 3))
theorem oX13_farOf_169 : OpS mX13_farOf 169 (o_iast 170) := s_iast (by decide +kernel : decode cX13_farOf 169 = .ok (.iastore, 1))
theorem oX13_farOf_170 : OpS mX13_farOf 170 (o_iinc 4 7 1 173) := s_iinc (by decide +kernel : decode cX13_farOf 170 = .ok (.iinc 4 1, 3)) (by decide) rfl
theorem oX13_farOf_173 : OpS mX13_farOf 173 (o_goto 60) := s_goto (by decide +kernel : decode cX13_farOf 173 = .ok (.goto (-113), 3)) (by decide)
theorem oX13_farOf_176 : OpS mX13_farOf 176 (o_iinc 2 7 1 179) := s_iinc (by decide +kernel : decode cX13_farOf 176 = .ok (.iinc 2 1, 3)) (by decide) rfl
theorem oX13_farOf_179 : OpS mX13_farOf 179 (o_goto 32) := s_goto (by decide +kernel : decode cX13_farOf 179 = .ok (.goto (-147), 3)) (by decide)
theorem oX13_farOf_182 : OpS mX13_farOf 182 (o_aload 0 183) := s_aload_n (by decide +kernel : decode cX13_farOf 182 = .ok (.aload_n 0, 1)) rfl
theorem oX13_farOf_183 : OpS mX13_farOf 183 (o_getP 13 23 186) := s_getP (k := 23) clsX13 (by decide) rfl (Or.inl wd_1267) (by decide +kernel : decode cX13_farOf 183 = .ok (.getfield 112, 3)) rfl
theorem oX13_farOf_186 : OpS mX13_farOf 186 (o_const (.int 0) 187) := s_iconst (by decide +kernel : decode cX13_farOf 186 = .ok (.iconst 0, 1)) (by decide)
theorem oX13_farOf_187 : OpS mX13_farOf 187 (o_iald 188) := s_iald (by decide +kernel : decode cX13_farOf 187 = .ok (.iaload, 1))
theorem oX13_farOf_188 : OpS mX13_farOf 188 (o_istore 2 7 189) := s_istore_n (by decide +kernel : decode cX13_farOf 188 = .ok (.istore_n 2, 1)) rfl rfl
theorem oX13_farOf_189 : OpS mX13_farOf 189 (o_const (.int 1) 190) := s_iconst (by decide +kernel : decode cX13_farOf 189 = .ok (.iconst 1, 1)) (by decide)
theorem oX13_farOf_190 : OpS mX13_farOf 190 (o_istore 3 7 191) := s_istore_n (by decide +kernel : decode cX13_farOf 190 = .ok (.istore_n 3, 1)) rfl rfl
theorem oX13_farOf_191 : OpS mX13_farOf 191 (o_iload 3 192) := s_iload_n (by decide +kernel : decode cX13_farOf 191 = .ok (.iload_n 3, 1)) rfl
theorem oX13_farOf_192 : OpS mX13_farOf 192 (o_aload 0 193) := s_aload_n (by decide +kernel : decode cX13_farOf 192 = .ok (.aload_n 0, 1)) rfl
theorem oX13_farOf_193 : OpS mX13_farOf 193 (o_getP 13 8 196) := s_getP (k := 8) clsX13 (by decide) rfl (Or.inl wd_1252) (by decide +kernel : decode cX13_farOf 193 = .ok (.getfield 87, 3)) rfl
theorem oX13_farOf_196 : OpS mX13_farOf 196 (o_getP 12 5 199) := s_getP (k := 5) clsX12 (by decide) rfl (Or.inr ⟨_, wd_1187⟩) (by decide +kernel : decode cX13_farOf 196 = .ok (.getfield 242, 3)) rfl
theorem oX13_farOf_199 : OpS mX13_farOf 199 (o_iload 1 200) := s_iload_n (by decide +kernel : decode cX13_farOf 199 = .ok (.iload_n 1, 1)) rfl
theorem oX13_farOf_200 : OpS mX13_farOf 200 (o_iald 201) := s_iald (by decide +kernel : decode cX13_farOf 200 = .ok (.iaload, 1))
theorem oX13_farOf_201 : OpS mX13_farOf 201 (o_icmp (fun x y => y < x) 221 204) := s_icmp_gt (by decide +kernel : decode cX13_farOf 201 = .ok (.if_icmp .gt 20, 3)) (by decide)
theorem oX13_farOf_204 : OpS mX13_farOf 204 (o_iload 2 205) := s_iload_n (by decide +kernel : decode cX13_farOf 204 = .ok (.iload_n 2, 1)) rfl
theorem oX13_farOf_205 : OpS mX13_farOf 205 (o_aload 0 206) := s_aload_n (by decide +kernel : decode cX13_farOf 205 = .ok (.aload_n 0, 1)) rfl
theorem oX13_farOf_206 : OpS mX13_farOf 206 (o_getP 13 23 209) := s_getP (k := 23) clsX13 (by decide) rfl (Or.inl wd_1267) (by decide +kernel : decode cX13_farOf 206 = .ok (.getfield 112, 3)) rfl
theorem oX13_farOf_209 : OpS mX13_farOf 209 (o_iload 3 210) := s_iload_n (by decide +kernel : decode cX13_farOf 209 = .ok (.iload_n 3, 1)) rfl
theorem oX13_farOf_210 : OpS mX13_farOf 210 (o_iald 211) := s_iald (by decide +kernel : decode cX13_farOf 210 = .ok (.iaload, 1))
theorem oX13_farOf_211 : OpS mX13_farOf 211 (o_min 214) := s_min wd_1431 wd_472 wd_3 wd_473 (by decide +kernel : decode cX13_farOf 211 = .ok (.invokestatic 258, 3))
theorem oX13_farOf_214 : OpS mX13_farOf 214 (o_istore 2 7 215) := s_istore_n (by decide +kernel : decode cX13_farOf 214 = .ok (.istore_n 2, 1)) rfl rfl
theorem oX13_farOf_215 : OpS mX13_farOf 215 (o_iinc 3 7 1 218) := s_iinc (by decide +kernel : decode cX13_farOf 215 = .ok (.iinc 3 1, 3)) (by decide) rfl
theorem oX13_farOf_218 : OpS mX13_farOf 218 (o_goto 191) := s_goto (by decide +kernel : decode cX13_farOf 218 = .ok (.goto (-27), 3)) (by decide)
theorem oX13_farOf_221 : OpS mX13_farOf 221 (o_iload 2 222) := s_iload_n (by decide +kernel : decode cX13_farOf 221 = .ok (.iload_n 2, 1)) rfl
theorem oX13_farOf_222 : OpS mX13_farOf 222 (o_iret) := s_iret rfl (by decide +kernel : decode cX13_farOf 222 = .ok (.ireturn, 1))
theorem oX13_reckon_0 : OpS mX13_reckon 0 (o_aload 0 1) := s_aload_n (by decide +kernel : decode cX13_reckon 0 = .ok (.aload_n 0, 1)) rfl
theorem oX13_reckon_1 : OpS mX13_reckon 1 (o_getP 13 8 4) := s_getP (k := 8) clsX13 (by decide) rfl (Or.inl wd_1252) (by decide +kernel : decode cX13_reckon 1 = .ok (.getfield 87, 3)) rfl
theorem oX13_reckon_4 : OpS mX13_reckon 4 (o_getP 12 12 7) := s_getP (k := 12) clsX12 (by decide) rfl (Or.inr ⟨_, wd_1200⟩) (by decide +kernel : decode cX13_reckon 4 = .ok (.getfield 296, 3)) rfl
theorem oX13_reckon_7 : OpS mX13_reckon 7 (o_iload 1 8) := s_iload_n (by decide +kernel : decode cX13_reckon 7 = .ok (.iload_n 1, 1)) rfl
theorem oX13_reckon_8 : OpS mX13_reckon 8 (o_iald 9) := s_iald (by decide +kernel : decode cX13_reckon 8 = .ok (.iaload, 1))
theorem oX13_reckon_9 : OpS mX13_reckon 9 (o_istore 3 5 10) := s_istore_n (by decide +kernel : decode cX13_reckon 9 = .ok (.istore_n 3, 1)) rfl rfl
theorem oX13_reckon_10 : OpS mX13_reckon 10 (o_aload 0 11) := s_aload_n (by decide +kernel : decode cX13_reckon 10 = .ok (.aload_n 0, 1)) rfl
theorem oX13_reckon_11 : OpS mX13_reckon 11 (o_getP 13 8 14) := s_getP (k := 8) clsX13 (by decide) rfl (Or.inl wd_1252) (by decide +kernel : decode cX13_reckon 11 = .ok (.getfield 87, 3)) rfl
theorem oX13_reckon_14 : OpS mX13_reckon 14 (o_getP 12 13 17) := s_getP (k := 13) clsX12 (by decide) rfl (Or.inr ⟨_, wd_1202⟩) (by decide +kernel : decode cX13_reckon 14 = .ok (.getfield 298, 3)) rfl
theorem oX13_reckon_17 : OpS mX13_reckon 17 (o_iload 1 18) := s_iload_n (by decide +kernel : decode cX13_reckon 17 = .ok (.iload_n 1, 1)) rfl
theorem oX13_reckon_18 : OpS mX13_reckon 18 (o_iald 19) := s_iald (by decide +kernel : decode cX13_reckon 18 = .ok (.iaload, 1))
theorem oX13_reckon_19 : OpS mX13_reckon 19 (o_istore 4 5 21) := s_istore (by decide +kernel : decode cX13_reckon 19 = .ok (.istore 4, 2)) rfl
theorem oX13_reckon_21 : OpS mX13_reckon 21 (o_aload 0 22) := s_aload_n (by decide +kernel : decode cX13_reckon 21 = .ok (.aload_n 0, 1)) rfl
theorem oX13_reckon_22 : OpS mX13_reckon 22 (o_getP 13 8 25) := s_getP (k := 8) clsX13 (by decide) rfl (Or.inl wd_1252) (by decide +kernel : decode cX13_reckon 22 = .ok (.getfield 87, 3)) rfl
theorem oX13_reckon_25 : OpS mX13_reckon 25 (o_getP 12 11 28) := s_getP (k := 11) clsX12 (by decide) rfl (Or.inr ⟨_, wd_1198⟩) (by decide +kernel : decode cX13_reckon 25 = .ok (.getfield 301, 3)) rfl
theorem oX13_reckon_28 : OpS mX13_reckon 28 (o_iload 1 29) := s_iload_n (by decide +kernel : decode cX13_reckon 28 = .ok (.iload_n 1, 1)) rfl
theorem oX13_reckon_29 : OpS mX13_reckon 29 (o_iald 30) := s_iald (by decide +kernel : decode cX13_reckon 29 = .ok (.iaload, 1))
theorem oX13_reckon_30 : OpS mX13_reckon 30 (o_sw [(2, 155), (8, 138), (9, 143), (10, 148), (11, 153), (17, 173), (18, 190), (30, 136), (42, 207), (45, 239), (47, 222), (110, 165)] 254) := s_lsw (by decide +kernel : decode cX13_reckon 30 = .ok (.lookupswitch 224 #[(2, 125), (8, 108), (9, 113), (10, 118), (11, 123), (17, 143), (18, 160), (30, 106), (42, 177), (45, 209), (47, 192), (110, 135)], 106)) (by decide) (by decide) (by decide)
theorem oX13_reckon_136 : OpS mX13_reckon 136 (o_iload 3 137) := s_iload_n (by decide +kernel : decode cX13_reckon 136 = .ok (.iload_n 3, 1)) rfl
theorem oX13_reckon_137 : OpS mX13_reckon 137 (o_iret) := s_iret rfl (by decide +kernel : decode cX13_reckon 137 = .ok (.ireturn, 1))
theorem oX13_reckon_138 : OpS mX13_reckon 138 (o_aload 0 139) := s_aload_n (by decide +kernel : decode cX13_reckon 138 = .ok (.aload_n 0, 1)) rfl
theorem oX13_reckon_139 : OpS mX13_reckon 139 (o_getI 13 18 142) := s_getI (k := 18) clsX13 (by decide) rfl (Or.inl wd_1262) (by decide +kernel : decode cX13_reckon 139 = .ok (.getfield 278, 3)) rfl
theorem oX13_reckon_142 : OpS mX13_reckon 142 (o_iret) := s_iret rfl (by decide +kernel : decode cX13_reckon 142 = .ok (.ireturn, 1))
theorem oX13_reckon_143 : OpS mX13_reckon 143 (o_aload 0 144) := s_aload_n (by decide +kernel : decode cX13_reckon 143 = .ok (.aload_n 0, 1)) rfl
theorem oX13_reckon_144 : OpS mX13_reckon 144 (o_getI 13 19 147) := s_getI (k := 19) clsX13 (by decide) rfl (Or.inl wd_1263) (by decide +kernel : decode cX13_reckon 144 = .ok (.getfield 281, 3)) rfl
theorem oX13_reckon_147 : OpS mX13_reckon 147 (o_iret) := s_iret rfl (by decide +kernel : decode cX13_reckon 147 = .ok (.ireturn, 1))
theorem oX13_reckon_148 : OpS mX13_reckon 148 (o_aload 0 149) := s_aload_n (by decide +kernel : decode cX13_reckon 148 = .ok (.aload_n 0, 1)) rfl
theorem oX13_reckon_149 : OpS mX13_reckon 149 (o_getI 13 21 152) := s_getI (k := 21) clsX13 (by decide) rfl (Or.inl wd_1265) (by decide +kernel : decode cX13_reckon 149 = .ok (.getfield 106, 3)) rfl
theorem oX13_reckon_152 : OpS mX13_reckon 152 (o_iret) := s_iret rfl (by decide +kernel : decode cX13_reckon 152 = .ok (.ireturn, 1))
theorem oX13_reckon_153 : OpS mX13_reckon 153 (o_iload 2 154) := s_iload_n (by decide +kernel : decode cX13_reckon 153 = .ok (.iload_n 2, 1)) rfl
theorem oX13_reckon_154 : OpS mX13_reckon 154 (o_iret) := s_iret rfl (by decide +kernel : decode cX13_reckon 154 = .ok (.ireturn, 1))
theorem oX13_reckon_155 : OpS mX13_reckon 155 (o_aload 0 156) := s_aload_n (by decide +kernel : decode cX13_reckon 155 = .ok (.aload_n 0, 1)) rfl
theorem oX13_reckon_156 : OpS mX13_reckon 156 (o_getP 13 8 159) := s_getP (k := 8) clsX13 (by decide) rfl (Or.inl wd_1252) (by decide +kernel : decode cX13_reckon 156 = .ok (.getfield 87, 3)) rfl
theorem oX13_reckon_159 : OpS mX13_reckon 159 (o_getP 12 6 162) := s_getP (k := 6) clsX12 (by decide) rfl (Or.inr ⟨_, wd_1189⟩) (by decide +kernel : decode cX13_reckon 159 = .ok (.getfield 243, 3)) rfl
theorem oX13_reckon_162 : OpS mX13_reckon 162 (o_iload 3 163) := s_iload_n (by decide +kernel : decode cX13_reckon 162 = .ok (.iload_n 3, 1)) rfl
theorem oX13_reckon_163 : OpS mX13_reckon 163 (o_iald 164) := s_iald (by decide +kernel : decode cX13_reckon 163 = .ok (.iaload, 1))
theorem oX13_reckon_164 : OpS mX13_reckon 164 (o_iret) := s_iret rfl (by decide +kernel : decode cX13_reckon 164 = .ok (.ireturn, 1))
theorem oX13_reckon_165 : OpS mX13_reckon 165 (o_aload 0 166) := s_aload_n (by decide +kernel : decode cX13_reckon 165 = .ok (.aload_n 0, 1)) rfl
theorem oX13_reckon_166 : OpS mX13_reckon 166 (o_iload 3 167) := s_iload_n (by decide +kernel : decode cX13_reckon 166 = .ok (.iload_n 3, 1)) rfl
theorem oX13_reckon_167 : OpS mX13_reckon 167 (o_iload 2 168) := s_iload_n (by decide +kernel : decode cX13_reckon 167 = .ok (.iload_n 2, 1)) rfl
theorem oX13_reckon_168 : OpS mX13_reckon 168 (o_callV mX13_reckon 13 2 171) := s_callV ceX13_reckon clsX13 (Or.inl wd_1534) wd_1536 selX13_reckon (by decide +kernel : decode cX13_reckon 168 = .ok (.invokevirtual 304, 3))
theorem oX13_reckon_171 : OpS mX13_reckon 171 (o_iun (fun x => -x) 172) := s_ineg (by decide +kernel : decode cX13_reckon 171 = .ok (.ineg, 1))
theorem oX13_reckon_172 : OpS mX13_reckon 172 (o_iret) := s_iret rfl (by decide +kernel : decode cX13_reckon 172 = .ok (.ireturn, 1))
theorem oX13_reckon_173 : OpS mX13_reckon 173 (o_aload 0 174) := s_aload_n (by decide +kernel : decode cX13_reckon 173 = .ok (.aload_n 0, 1)) rfl
theorem oX13_reckon_174 : OpS mX13_reckon 174 (o_iload 3 175) := s_iload_n (by decide +kernel : decode cX13_reckon 174 = .ok (.iload_n 3, 1)) rfl
theorem oX13_reckon_175 : OpS mX13_reckon 175 (o_iload 2 176) := s_iload_n (by decide +kernel : decode cX13_reckon 175 = .ok (.iload_n 2, 1)) rfl
theorem oX13_reckon_176 : OpS mX13_reckon 176 (o_callV mX13_reckon 13 2 179) := s_callV ceX13_reckon clsX13 (Or.inl wd_1534) wd_1536 selX13_reckon (by decide +kernel : decode cX13_reckon 176 = .ok (.invokevirtual 304, 3))
theorem oX13_reckon_179 : OpS mX13_reckon 179 (o_aload 0 180) := s_aload_n (by decide +kernel : decode cX13_reckon 179 = .ok (.aload_n 0, 1)) rfl
theorem oX13_reckon_180 : OpS mX13_reckon 180 (o_iload 4 182) := s_iload (by decide +kernel : decode cX13_reckon 180 = .ok (.iload 4, 2))
theorem oX13_reckon_182 : OpS mX13_reckon 182 (o_iload 2 183) := s_iload_n (by decide +kernel : decode cX13_reckon 182 = .ok (.iload_n 2, 1)) rfl
theorem oX13_reckon_183 : OpS mX13_reckon 183 (o_callV mX13_reckon 13 2 186) := s_callV ceX13_reckon clsX13 (Or.inl wd_1534) wd_1536 selX13_reckon (by decide +kernel : decode cX13_reckon 183 = .ok (.invokevirtual 304, 3))
theorem oX13_reckon_186 : OpS mX13_reckon 186 (o_min 189) := s_min wd_1431 wd_472 wd_3 wd_473 (by decide +kernel : decode cX13_reckon 186 = .ok (.invokestatic 258, 3))
theorem oX13_reckon_189 : OpS mX13_reckon 189 (o_iret) := s_iret rfl (by decide +kernel : decode cX13_reckon 189 = .ok (.ireturn, 1))
theorem oX13_reckon_190 : OpS mX13_reckon 190 (o_aload 0 191) := s_aload_n (by decide +kernel : decode cX13_reckon 190 = .ok (.aload_n 0, 1)) rfl
theorem oX13_reckon_191 : OpS mX13_reckon 191 (o_iload 3 192) := s_iload_n (by decide +kernel : decode cX13_reckon 191 = .ok (.iload_n 3, 1)) rfl
theorem oX13_reckon_192 : OpS mX13_reckon 192 (o_iload 2 193) := s_iload_n (by decide +kernel : decode cX13_reckon 192 = .ok (.iload_n 2, 1)) rfl
theorem oX13_reckon_193 : OpS mX13_reckon 193 (o_callV mX13_reckon 13 2 196) := s_callV ceX13_reckon clsX13 (Or.inl wd_1534) wd_1536 selX13_reckon (by decide +kernel : decode cX13_reckon 193 = .ok (.invokevirtual 304, 3))
theorem oX13_reckon_196 : OpS mX13_reckon 196 (o_aload 0 197) := s_aload_n (by decide +kernel : decode cX13_reckon 196 = .ok (.aload_n 0, 1)) rfl
theorem oX13_reckon_197 : OpS mX13_reckon 197 (o_iload 4 199) := s_iload (by decide +kernel : decode cX13_reckon 197 = .ok (.iload 4, 2))
theorem oX13_reckon_199 : OpS mX13_reckon 199 (o_iload 2 200) := s_iload_n (by decide +kernel : decode cX13_reckon 199 = .ok (.iload_n 2, 1)) rfl
theorem oX13_reckon_200 : OpS mX13_reckon 200 (o_callV mX13_reckon 13 2 203) := s_callV ceX13_reckon clsX13 (Or.inl wd_1534) wd_1536 selX13_reckon (by decide +kernel : decode cX13_reckon 200 = .ok (.invokevirtual 304, 3))
theorem oX13_reckon_203 : OpS mX13_reckon 203 (o_max 206) := s_max wd_1521 wd_43 wd_3 wd_44 (by decide +kernel : decode cX13_reckon 203 = .ok (.invokestatic 287, 3))
theorem oX13_reckon_206 : OpS mX13_reckon 206 (o_iret) := s_iret rfl (by decide +kernel : decode cX13_reckon 206 = .ok (.ireturn, 1))
theorem oX13_reckon_207 : OpS mX13_reckon 207 (o_aload 0 208) := s_aload_n (by decide +kernel : decode cX13_reckon 207 = .ok (.aload_n 0, 1)) rfl
theorem oX13_reckon_208 : OpS mX13_reckon 208 (o_iload 3 209) := s_iload_n (by decide +kernel : decode cX13_reckon 208 = .ok (.iload_n 3, 1)) rfl
theorem oX13_reckon_209 : OpS mX13_reckon 209 (o_iload 2 210) := s_iload_n (by decide +kernel : decode cX13_reckon 209 = .ok (.iload_n 2, 1)) rfl
theorem oX13_reckon_210 : OpS mX13_reckon 210 (o_callV mX13_reckon 13 2 213) := s_callV ceX13_reckon clsX13 (Or.inl wd_1534) wd_1536 selX13_reckon (by decide +kernel : decode cX13_reckon 210 = .ok (.invokevirtual 304, 3))
theorem oX13_reckon_213 : OpS mX13_reckon 213 (o_aload 0 214) := s_aload_n (by decide +kernel : decode cX13_reckon 213 = .ok (.aload_n 0, 1)) rfl
theorem oX13_reckon_214 : OpS mX13_reckon 214 (o_iload 4 216) := s_iload (by decide +kernel : decode cX13_reckon 214 = .ok (.iload 4, 2))
theorem oX13_reckon_216 : OpS mX13_reckon 216 (o_iload 2 217) := s_iload_n (by decide +kernel : decode cX13_reckon 216 = .ok (.iload_n 2, 1)) rfl
theorem oX13_reckon_217 : OpS mX13_reckon 217 (o_callV mX13_reckon 13 2 220) := s_callV ceX13_reckon clsX13 (Or.inl wd_1534) wd_1536 selX13_reckon (by decide +kernel : decode cX13_reckon 217 = .ok (.invokevirtual 304, 3))
theorem oX13_reckon_220 : OpS mX13_reckon 220 (o_ibin (fun x y => x * y) 221) := s_imul (by decide +kernel : decode cX13_reckon 220 = .ok (.imul, 1))
theorem oX13_reckon_221 : OpS mX13_reckon 221 (o_iret) := s_iret rfl (by decide +kernel : decode cX13_reckon 221 = .ok (.ireturn, 1))
theorem oX13_reckon_222 : OpS mX13_reckon 222 (o_aload 0 223) := s_aload_n (by decide +kernel : decode cX13_reckon 222 = .ok (.aload_n 0, 1)) rfl
theorem oX13_reckon_223 : OpS mX13_reckon 223 (o_iload 3 224) := s_iload_n (by decide +kernel : decode cX13_reckon 223 = .ok (.iload_n 3, 1)) rfl
theorem oX13_reckon_224 : OpS mX13_reckon 224 (o_iload 2 225) := s_iload_n (by decide +kernel : decode cX13_reckon 224 = .ok (.iload_n 2, 1)) rfl
theorem oX13_reckon_225 : OpS mX13_reckon 225 (o_callV mX13_reckon 13 2 228) := s_callV ceX13_reckon clsX13 (Or.inl wd_1534) wd_1536 selX13_reckon (by decide +kernel : decode cX13_reckon 225 = .ok (.invokevirtual 304, 3))
theorem oX13_reckon_228 : OpS mX13_reckon 228 (o_aload 0 229) := s_aload_n (by decide +kernel : decode cX13_reckon 228 = .ok (.aload_n 0, 1)) rfl
theorem oX13_reckon_229 : OpS mX13_reckon 229 (o_iload 4 231) := s_iload (by decide +kernel : decode cX13_reckon 229 = .ok (.iload 4, 2))
theorem oX13_reckon_231 : OpS mX13_reckon 231 (o_iload 2 232) := s_iload_n (by decide +kernel : decode cX13_reckon 231 = .ok (.iload_n 2, 1)) rfl
theorem oX13_reckon_232 : OpS mX13_reckon 232 (o_callV mX13_reckon 13 2 235) := s_callV ceX13_reckon clsX13 (Or.inl wd_1534) wd_1536 selX13_reckon (by decide +kernel : decode cX13_reckon 232 = .ok (.invokevirtual 304, 3))
theorem oX13_reckon_235 : OpS mX13_reckon 235 (o_callS mX13_parts 2 238) := s_callS ceX13_parts (Or.inl wd_1538) wd_1539 (by decide +kernel : decode cX13_reckon 235 = .ok (.invokestatic 307, 3))
theorem oX13_reckon_238 : OpS mX13_reckon 238 (o_iret) := s_iret rfl (by decide +kernel : decode cX13_reckon 238 = .ok (.ireturn, 1))
theorem oX13_reckon_239 : OpS mX13_reckon 239 (o_aload 0 240) := s_aload_n (by decide +kernel : decode cX13_reckon 239 = .ok (.aload_n 0, 1)) rfl
theorem oX13_reckon_240 : OpS mX13_reckon 240 (o_iload 3 241) := s_iload_n (by decide +kernel : decode cX13_reckon 240 = .ok (.iload_n 3, 1)) rfl
theorem oX13_reckon_241 : OpS mX13_reckon 241 (o_iload 2 242) := s_iload_n (by decide +kernel : decode cX13_reckon 241 = .ok (.iload_n 2, 1)) rfl
theorem oX13_reckon_242 : OpS mX13_reckon 242 (o_callV mX13_reckon 13 2 245) := s_callV ceX13_reckon clsX13 (Or.inl wd_1534) wd_1536 selX13_reckon (by decide +kernel : decode cX13_reckon 242 = .ok (.invokevirtual 304, 3))
theorem oX13_reckon_245 : OpS mX13_reckon 245 (o_aload 0 246) := s_aload_n (by decide +kernel : decode cX13_reckon 245 = .ok (.aload_n 0, 1)) rfl
theorem oX13_reckon_246 : OpS mX13_reckon 246 (o_iload 4 248) := s_iload (by decide +kernel : decode cX13_reckon 246 = .ok (.iload 4, 2))
theorem oX13_reckon_248 : OpS mX13_reckon 248 (o_iload 2 249) := s_iload_n (by decide +kernel : decode cX13_reckon 248 = .ok (.iload_n 2, 1)) rfl
theorem oX13_reckon_249 : OpS mX13_reckon 249 (o_callV mX13_reckon 13 2 252) := s_callV ceX13_reckon clsX13 (Or.inl wd_1534) wd_1536 selX13_reckon (by decide +kernel : decode cX13_reckon 249 = .ok (.invokevirtual 304, 3))
theorem oX13_reckon_252 : OpS mX13_reckon 252 (o_ibin (fun x y => x - y) 253) := s_isub (by decide +kernel : decode cX13_reckon 252 = .ok (.isub, 1))
theorem oX13_reckon_253 : OpS mX13_reckon 253 (o_iret) := s_iret rfl (by decide +kernel : decode cX13_reckon 253 = .ok (.ireturn, 1))
theorem oX13_reckon_254 : OpS mX13_reckon 254 (o_aload 0 255) := s_aload_n (by decide +kernel : decode cX13_reckon 254 = .ok (.aload_n 0, 1)) rfl
theorem oX13_reckon_255 : OpS mX13_reckon 255 (o_iload 3 256) := s_iload_n (by decide +kernel : decode cX13_reckon 255 = .ok (.iload_n 3, 1)) rfl
theorem oX13_reckon_256 : OpS mX13_reckon 256 (o_iload 2 257) := s_iload_n (by decide +kernel : decode cX13_reckon 256 = .ok (.iload_n 2, 1)) rfl
theorem oX13_reckon_257 : OpS mX13_reckon 257 (o_callV mX13_reckon 13 2 260) := s_callV ceX13_reckon clsX13 (Or.inl wd_1534) wd_1536 selX13_reckon (by decide +kernel : decode cX13_reckon 257 = .ok (.invokevirtual 304, 3))
theorem oX13_reckon_260 : OpS mX13_reckon 260 (o_aload 0 261) := s_aload_n (by decide +kernel : decode cX13_reckon 260 = .ok (.aload_n 0, 1)) rfl
theorem oX13_reckon_261 : OpS mX13_reckon 261 (o_iload 4 263) := s_iload (by decide +kernel : decode cX13_reckon 261 = .ok (.iload 4, 2))
theorem oX13_reckon_263 : OpS mX13_reckon 263 (o_iload 2 264) := s_iload_n (by decide +kernel : decode cX13_reckon 263 = .ok (.iload_n 2, 1)) rfl
theorem oX13_reckon_264 : OpS mX13_reckon 264 (o_callV mX13_reckon 13 2 267) := s_callV ceX13_reckon clsX13 (Or.inl wd_1534) wd_1536 selX13_reckon (by decide +kernel : decode cX13_reckon 264 = .ok (.invokevirtual 304, 3))
theorem oX13_reckon_267 : OpS mX13_reckon 267 (o_ibin (fun x y => x + y) 268) := s_iadd (by decide +kernel : decode cX13_reckon 267 = .ok (.iadd, 1))
theorem oX13_reckon_268 : OpS mX13_reckon 268 (o_iret) := s_iret rfl (by decide +kernel : decode cX13_reckon 268 = .ok (.ireturn, 1))
theorem oX13_parts_0 : OpS mX13_parts 0 (o_iload 1 1) := s_iload_n (by decide +kernel : decode cX13_parts 0 = .ok (.iload_n 1, 1)) rfl
theorem oX13_parts_1 : OpS mX13_parts 1 (o_if (fun x => x = 0) 4 8) := s_if_ne (by decide +kernel : decode cX13_parts 1 = .ok (.ifCond .ne 7, 3)) (by decide)
theorem oX13_parts_4 : OpS mX13_parts 4 (o_const (.int 0) 5) := s_iconst (by decide +kernel : decode cX13_parts 4 = .ok (.iconst 0, 1)) (by decide)
theorem oX13_parts_5 : OpS mX13_parts 5 (o_goto 21) := s_goto (by decide +kernel : decode cX13_parts 5 = .ok (.goto 16, 3)) (by decide)
theorem oX13_parts_8 : OpS mX13_parts 8 (o_iload 1 9) := s_iload_n (by decide +kernel : decode cX13_parts 8 = .ok (.iload_n 1, 1)) rfl
theorem oX13_parts_9 : OpS mX13_parts 9 (o_const (.int (-1)) 10) := s_iconst (by decide +kernel : decode cX13_parts 9 = .ok (.iconst (-1), 1)) (by decide)
theorem oX13_parts_10 : OpS mX13_parts 10 (o_icmp (fun x y => x = y) 13 18) := s_icmp_ne (by decide +kernel : decode cX13_parts 10 = .ok (.if_icmp .ne 8, 3)) (by decide)
theorem oX13_parts_13 : OpS mX13_parts 13 (o_iload 0 14) := s_iload_n (by decide +kernel : decode cX13_parts 13 = .ok (.iload_n 0, 1)) rfl
theorem oX13_parts_14 : OpS mX13_parts 14 (o_iun (fun x => -x) 15) := s_ineg (by decide +kernel : decode cX13_parts 14 = .ok (.ineg, 1))
theorem oX13_parts_15 : OpS mX13_parts 15 (o_goto 21) := s_goto (by decide +kernel : decode cX13_parts 15 = .ok (.goto 6, 3)) (by decide)
theorem oX13_parts_18 : OpS mX13_parts 18 (o_iload 0 19) := s_iload_n (by decide +kernel : decode cX13_parts 18 = .ok (.iload_n 0, 1)) rfl
theorem oX13_parts_19 : OpS mX13_parts 19 (o_iload 1 20) := s_iload_n (by decide +kernel : decode cX13_parts 19 = .ok (.iload_n 1, 1)) rfl
theorem oX13_parts_20 : OpS mX13_parts 20 (o_idiv 21) := s_idiv (by decide +kernel : decode cX13_parts 20 = .ok (.idiv, 1))
theorem oX13_parts_21 : OpS mX13_parts 21 (o_iret) := s_iret rfl (by decide +kernel : decode cX13_parts 21 = .ok (.ireturn, 1))
theorem oX13_isBegun_0 : OpS mX13_isBegun 0 (o_iload 2 1) := s_iload_n (by decide +kernel : decode cX13_isBegun 0 = .ok (.iload_n 2, 1)) rfl
theorem oX13_isBegun_1 : OpS mX13_isBegun 1 (o_aload 0 2) := s_aload_n (by decide +kernel : decode cX13_isBegun 1 = .ok (.aload_n 0, 1)) rfl
theorem oX13_isBegun_2 : OpS mX13_isBegun 2 (o_getI 13 18 5) := s_getI (k := 18) clsX13 (by decide) rfl (Or.inl wd_1262) (by decide +kernel : decode cX13_isBegun 2 = .ok (.getfield 278, 3)) rfl
theorem oX13_isBegun_5 : OpS mX13_isBegun 5 (o_icmp (fun x y => x ≤ y) 10 8) := s_icmp_le (by decide +kernel : decode cX13_isBegun 5 = .ok (.if_icmp .le 5, 3)) (by decide)
theorem oX13_isBegun_8 : OpS mX13_isBegun 8 (o_const (.int 0) 9) := s_iconst (by decide +kernel : decode cX13_isBegun 8 = .ok (.iconst 0, 1)) (by decide)
theorem oX13_isBegun_9 : OpS mX13_isBegun 9 (o_zret) := s_zret rfl (by decide +kernel : decode cX13_isBegun 9 = .ok (.ireturn, 1))
theorem oX13_isBegun_10 : OpS mX13_isBegun 10 (o_const (.int 0) 11) := s_iconst (by decide +kernel : decode cX13_isBegun 10 = .ok (.iconst 0, 1)) (by decide)
theorem oX13_isBegun_11 : OpS mX13_isBegun 11 (o_istore 3 4 12) := s_istore_n (by decide +kernel : decode cX13_isBegun 11 = .ok (.istore_n 3, 1)) rfl rfl
theorem oX13_isBegun_12 : OpS mX13_isBegun 12 (o_iload 3 13) := s_iload_n (by decide +kernel : decode cX13_isBegun 12 = .ok (.iload_n 3, 1)) rfl
theorem oX13_isBegun_13 : OpS mX13_isBegun 13 (o_iload 2 14) := s_iload_n (by decide +kernel : decode cX13_isBegun 13 = .ok (.iload_n 2, 1)) rfl
theorem oX13_isBegun_14 : OpS mX13_isBegun 14 (o_icmp (fun x y => y ≤ x) 45 17) := s_icmp_ge (by decide +kernel : decode cX13_isBegun 14 = .ok (.if_icmp .ge 31, 3)) (by decide)
theorem oX13_isBegun_17 : OpS mX13_isBegun 17 (o_aload 0 18) := s_aload_n (by decide +kernel : decode cX13_isBegun 17 = .ok (.aload_n 0, 1)) rfl
theorem oX13_isBegun_18 : OpS mX13_isBegun 18 (o_getP 13 17 21) := s_getP (k := 17) clsX13 (by decide) rfl (Or.inl wd_1261) (by decide +kernel : decode cX13_isBegun 18 = .ok (.getfield 100, 3)) rfl
theorem oX13_isBegun_21 : OpS mX13_isBegun 21 (o_iload 3 22) := s_iload_n (by decide +kernel : decode cX13_isBegun 21 = .ok (.iload_n 3, 1)) rfl
theorem oX13_isBegun_22 : OpS mX13_isBegun 22 (o_iald 23) := s_iald (by decide +kernel : decode cX13_isBegun 22 = .ok (.iaload, 1))
theorem oX13_isBegun_23 : OpS mX13_isBegun 23 (o_aload 0 24) := s_aload_n (by decide +kernel : decode cX13_isBegun 23 = .ok (.aload_n 0, 1)) rfl
theorem oX13_isBegun_24 : OpS mX13_isBegun 24 (o_getP 13 8 27) := s_getP (k := 8) clsX13 (by decide) rfl (Or.inl wd_1252) (by decide +kernel : decode cX13_isBegun 24 = .ok (.getfield 87, 3)) rfl
theorem oX13_isBegun_27 : OpS mX13_isBegun 27 (o_getP 12 15 30) := s_getP (k := 15) clsX12 (by decide) rfl (Or.inr ⟨_, wd_1206⟩) (by decide +kernel : decode cX13_isBegun 27 = .ok (.getfield 218, 3)) rfl
theorem oX13_isBegun_30 : OpS mX13_isBegun 30 (o_iload 1 31) := s_iload_n (by decide +kernel : decode cX13_isBegun 30 = .ok (.iload_n 1, 1)) rfl
theorem oX13_isBegun_31 : OpS mX13_isBegun 31 (o_iload 3 32) := s_iload_n (by decide +kernel : decode cX13_isBegun 31 = .ok (.iload_n 3, 1)) rfl
theorem oX13_isBegun_32 : OpS mX13_isBegun 32 (o_ibin (fun x y => x + y) 33) := s_iadd (by decide +kernel : decode cX13_isBegun 32 = .ok (.iadd, 1))
theorem oX13_isBegun_33 : OpS mX13_isBegun 33 (o_iald 34) := s_iald (by decide +kernel : decode cX13_isBegun 33 = .ok (.iaload, 1))
theorem oX13_isBegun_34 : OpS mX13_isBegun 34 (o_icmp (fun x y => x = y) 39 37) := s_icmp_eq (by decide +kernel : decode cX13_isBegun 34 = .ok (.if_icmp .eq 5, 3)) (by decide)
theorem oX13_isBegun_37 : OpS mX13_isBegun 37 (o_const (.int 0) 38) := s_iconst (by decide +kernel : decode cX13_isBegun 37 = .ok (.iconst 0, 1)) (by decide)
theorem oX13_isBegun_38 : OpS mX13_isBegun 38 (o_zret) := s_zret rfl (by decide +kernel : decode cX13_isBegun 38 = .ok (.ireturn, 1))
theorem oX13_isBegun_39 : OpS mX13_isBegun 39 (o_iinc 3 4 1 42) := s_iinc (by decide +kernel : decode cX13_isBegun 39 = .ok (.iinc 3 1, 3)) (by decide) rfl
theorem oX13_isBegun_42 : OpS mX13_isBegun 42 (o_goto 12) := s_goto (by decide +kernel : decode cX13_isBegun 42 = .ok (.goto (-30), 3)) (by decide)
theorem oX13_isBegun_45 : OpS mX13_isBegun 45 (o_const (.int 1) 46) := s_iconst (by decide +kernel : decode cX13_isBegun 45 = .ok (.iconst 1, 1)) (by decide)
theorem oX13_isBegun_46 : OpS mX13_isBegun 46 (o_zret) := s_zret rfl (by decide +kernel : decode cX13_isBegun 46 = .ok (.ireturn, 1))
theorem oX13_holds_0 : OpS mX13_holds 0 (o_aload 0 1) := s_aload_n (by decide +kernel : decode cX13_holds 0 = .ok (.aload_n 0, 1)) rfl
theorem oX13_holds_1 : OpS mX13_holds 1 (o_getP 13 8 4) := s_getP (k := 8) clsX13 (by decide) rfl (Or.inl wd_1252) (by decide +kernel : decode cX13_holds 1 = .ok (.getfield 87, 3)) rfl
theorem oX13_holds_4 : OpS mX13_holds 4 (o_getP 12 12 7) := s_getP (k := 12) clsX12 (by decide) rfl (Or.inr ⟨_, wd_1200⟩) (by decide +kernel : decode cX13_holds 4 = .ok (.getfield 296, 3)) rfl
theorem oX13_holds_7 : OpS mX13_holds 7 (o_iload 1 8) := s_iload_n (by decide +kernel : decode cX13_holds 7 = .ok (.iload_n 1, 1)) rfl
theorem oX13_holds_8 : OpS mX13_holds 8 (o_iald 9) := s_iald (by decide +kernel : decode cX13_holds 8 = .ok (.iaload, 1))
theorem oX13_holds_9 : OpS mX13_holds 9 (o_istore 3 5 10) := s_istore_n (by decide +kernel : decode cX13_holds 9 = .ok (.istore_n 3, 1)) rfl rfl
theorem oX13_holds_10 : OpS mX13_holds 10 (o_aload 0 11) := s_aload_n (by decide +kernel : decode cX13_holds 10 = .ok (.aload_n 0, 1)) rfl
theorem oX13_holds_11 : OpS mX13_holds 11 (o_getP 13 8 14) := s_getP (k := 8) clsX13 (by decide) rfl (Or.inl wd_1252) (by decide +kernel : decode cX13_holds 11 = .ok (.getfield 87, 3)) rfl
theorem oX13_holds_14 : OpS mX13_holds 14 (o_getP 12 13 17) := s_getP (k := 13) clsX12 (by decide) rfl (Or.inr ⟨_, wd_1202⟩) (by decide +kernel : decode cX13_holds 14 = .ok (.getfield 298, 3)) rfl
theorem oX13_holds_17 : OpS mX13_holds 17 (o_iload 1 18) := s_iload_n (by decide +kernel : decode cX13_holds 17 = .ok (.iload_n 1, 1)) rfl
theorem oX13_holds_18 : OpS mX13_holds 18 (o_iald 19) := s_iald (by decide +kernel : decode cX13_holds 18 = .ok (.iaload, 1))
theorem oX13_holds_19 : OpS mX13_holds 19 (o_istore 4 5 21) := s_istore (by decide +kernel : decode cX13_holds 19 = .ok (.istore 4, 2)) rfl
theorem oX13_holds_21 : OpS mX13_holds 21 (o_aload 0 22) := s_aload_n (by decide +kernel : decode cX13_holds 21 = .ok (.aload_n 0, 1)) rfl
theorem oX13_holds_22 : OpS mX13_holds 22 (o_getP 13 8 25) := s_getP (k := 8) clsX13 (by decide) rfl (Or.inl wd_1252) (by decide +kernel : decode cX13_holds 22 = .ok (.getfield 87, 3)) rfl
theorem oX13_holds_25 : OpS mX13_holds 25 (o_getP 12 11 28) := s_getP (k := 11) clsX12 (by decide) rfl (Or.inr ⟨_, wd_1198⟩) (by decide +kernel : decode cX13_holds 25 = .ok (.getfield 301, 3)) rfl
theorem oX13_holds_28 : OpS mX13_holds 28 (o_iload 1 29) := s_iload_n (by decide +kernel : decode cX13_holds 28 = .ok (.iload_n 1, 1)) rfl
theorem oX13_holds_29 : OpS mX13_holds 29 (o_iald 30) := s_iald (by decide +kernel : decode cX13_holds 29 = .ok (.iaload, 1))
theorem oX13_holds_30 : OpS mX13_holds 30 (o_sw [(12, 112), (13, 126), (14, 134), (15, 149), (16, 164), (60, 179), (62, 201), (103, 245), (108, 223)] 267) := s_lsw (by decide +kernel : decode cX13_holds 30 = .ok (.lookupswitch 237 #[(12, 82), (13, 96), (14, 104), (15, 119), (16, 134), (60, 149), (62, 171), (103, 215), (108, 193)], 82)) (by decide) (by decide) (by decide)
theorem oX13_holds_112 : OpS mX13_holds 112 (o_aload 0 113) := s_aload_n (by decide +kernel : decode cX13_holds 112 = .ok (.aload_n 0, 1)) rfl
theorem oX13_holds_113 : OpS mX13_holds 113 (o_getI 13 20 116) := s_getI (k := 20) clsX13 (by decide) rfl (Or.inl wd_1264) (by decide +kernel : decode cX13_holds 113 = .ok (.getfield 103, 3)) rfl
theorem oX13_holds_116 : OpS mX13_holds 116 (o_iload 3 117) := s_iload_n (by decide +kernel : decode cX13_holds 116 = .ok (.iload_n 3, 1)) rfl
theorem oX13_holds_117 : OpS mX13_holds 117 (o_icmp (fun x y => x = y) 120 124) := s_icmp_ne (by decide +kernel : decode cX13_holds 117 = .ok (.if_icmp .ne 7, 3)) (by decide)
theorem oX13_holds_120 : OpS mX13_holds 120 (o_const (.int 1) 121) := s_iconst (by decide +kernel : decode cX13_holds 120 = .ok (.iconst 1, 1)) (by decide)
theorem oX13_holds_121 : OpS mX13_holds 121 (o_goto 125) := s_goto (by decide +kernel : decode cX13_holds 121 = .ok (.goto 4, 3)) (by decide)
theorem oX13_holds_124 : OpS mX13_holds 124 (o_const (.int 0) 125) := s_iconst (by decide +kernel : decode cX13_holds 124 = .ok (.iconst 0, 1)) (by decide)
theorem oX13_holds_125 : OpS mX13_holds 125 (o_zret) := s_zret rfl (by decide +kernel : decode cX13_holds 125 = .ok (.ireturn, 1))
theorem oX13_holds_126 : OpS mX13_holds 126 (o_aload 0 127) := s_aload_n (by decide +kernel : decode cX13_holds 126 = .ok (.aload_n 0, 1)) rfl
theorem oX13_holds_127 : OpS mX13_holds 127 (o_iload 3 128) := s_iload_n (by decide +kernel : decode cX13_holds 127 = .ok (.iload_n 3, 1)) rfl
theorem oX13_holds_128 : OpS mX13_holds 128 (o_iload 4 130) := s_iload (by decide +kernel : decode cX13_holds 128 = .ok (.iload 4, 2))
theorem oX13_holds_130 : OpS mX13_holds 130 (o_callV mX13_isBegun 13 2 133) := s_callV ceX13_isBegun clsX13 (Or.inl wd_1530) wd_1532 selX13_isBegun (by decide +kernel : decode cX13_holds 130 = .ok (.invokevirtual 310, 3))
theorem oX13_holds_133 : OpS mX13_holds 133 (o_zret) := s_zret rfl (by decide +kernel : decode cX13_holds 133 = .ok (.ireturn, 1))
theorem oX13_holds_134 : OpS mX13_holds 134 (o_aload 0 135) := s_aload_n (by decide +kernel : decode cX13_holds 134 = .ok (.aload_n 0, 1)) rfl
theorem oX13_holds_135 : OpS mX13_holds 135 (o_iload 3 136) := s_iload_n (by decide +kernel : decode cX13_holds 135 = .ok (.iload_n 3, 1)) rfl
theorem oX13_holds_136 : OpS mX13_holds 136 (o_iload 2 137) := s_iload_n (by decide +kernel : decode cX13_holds 136 = .ok (.iload_n 2, 1)) rfl
theorem oX13_holds_137 : OpS mX13_holds 137 (o_callV mX13_holds 13 2 140) := s_callV ceX13_holds clsX13 (Or.inl wd_1526) wd_1528 selX13_holds (by decide +kernel : decode cX13_holds 137 = .ok (.invokevirtual 313, 3))
theorem oX13_holds_140 : OpS mX13_holds 140 (o_if (fun x => x = 0) 143 147) := s_if_ne (by decide +kernel : decode cX13_holds 140 = .ok (.ifCond .ne 7, 3)) (by decide)
theorem oX13_holds_143 : OpS mX13_holds 143 (o_const (.int 1) 144) := s_iconst (by decide +kernel : decode cX13_holds 143 = .ok (.iconst 1, 1)) (by decide)
theorem oX13_holds_144 : OpS mX13_holds 144 (o_goto 148) := s_goto (by decide +kernel : decode cX13_holds 144 = .ok (.goto 4, 3)) (by decide)
theorem oX13_holds_147 : OpS mX13_holds 147 (o_const (.int 0) 148) := s_iconst (by decide +kernel : decode cX13_holds 147 = .ok (.iconst 0, 1)) (by decide)
theorem oX13_holds_148 : OpS mX13_holds 148 (o_zret) := s_zret rfl (by decide +kernel : decode cX13_holds 148 = .ok (.ireturn, 1))
theorem oX13_holds_149 : OpS mX13_holds 149 (o_aload 0 150) := s_aload_n (by decide +kernel : decode cX13_holds 149 = .ok (.aload_n 0, 1)) rfl
theorem oX13_holds_150 : OpS mX13_holds 150 (o_iload 3 151) := s_iload_n (by decide +kernel : decode cX13_holds 150 = .ok (.iload_n 3, 1)) rfl
theorem oX13_holds_151 : OpS mX13_holds 151 (o_iload 2 152) := s_iload_n (by decide +kernel : decode cX13_holds 151 = .ok (.iload_n 2, 1)) rfl
theorem oX13_holds_152 : OpS mX13_holds 152 (o_callV mX13_holds 13 2 155) := s_callV ceX13_holds clsX13 (Or.inl wd_1526) wd_1528 selX13_holds (by decide +kernel : decode cX13_holds 152 = .ok (.invokevirtual 313, 3))
theorem oX13_holds_155 : OpS mX13_holds 155 (o_aload 0 156) := s_aload_n (by decide +kernel : decode cX13_holds 155 = .ok (.aload_n 0, 1)) rfl
theorem oX13_holds_156 : OpS mX13_holds 156 (o_iload 4 158) := s_iload (by decide +kernel : decode cX13_holds 156 = .ok (.iload 4, 2))
theorem oX13_holds_158 : OpS mX13_holds 158 (o_iload 2 159) := s_iload_n (by decide +kernel : decode cX13_holds 158 = .ok (.iload_n 2, 1)) rfl
theorem oX13_holds_159 : OpS mX13_holds 159 (o_callV mX13_holds 13 2 162) := s_callV ceX13_holds clsX13 (Or.inl wd_1526) wd_1528 selX13_holds (by decide +kernel : decode cX13_holds 159 = .ok (.invokevirtual 313, 3))
theorem oX13_holds_162 : OpS mX13_holds 162 (o_ibin (fun x y => x &&& y) 163) := s_iand (by decide +kernel : decode cX13_holds 162 = .ok (.iand, 1))
theorem oX13_holds_163 : OpS mX13_holds 163 (o_zret) := s_zret rfl (by decide +kernel : decode cX13_holds 163 = .ok (.ireturn, 1))
theorem oX13_holds_164 : OpS mX13_holds 164 (o_aload 0 165) := s_aload_n (by decide +kernel : decode cX13_holds 164 = .ok (.aload_n 0, 1)) rfl
theorem oX13_holds_165 : OpS mX13_holds 165 (o_iload 3 166) := s_iload_n (by decide +kernel : decode cX13_holds 165 = .ok (.iload_n 3, 1)) rfl
theorem oX13_holds_166 : OpS mX13_holds 166 (o_iload 2 167) := s_iload_n (by decide +kernel : decode cX13_holds 166 = .ok (.iload_n 2, 1)) rfl
theorem oX13_holds_167 : OpS mX13_holds 167 (o_callV mX13_holds 13 2 170) := s_callV ceX13_holds clsX13 (Or.inl wd_1526) wd_1528 selX13_holds (by decide +kernel : decode cX13_holds 167 = .ok (.invokevirtual 313, 3))
theorem oX13_holds_170 : OpS mX13_holds 170 (o_aload 0 171) := s_aload_n (by decide +kernel : decode cX13_holds 170 = .ok (.aload_n 0, 1)) rfl
theorem oX13_holds_171 : OpS mX13_holds 171 (o_iload 4 173) := s_iload (by decide +kernel : decode cX13_holds 171 = .ok (.iload 4, 2))
theorem oX13_holds_173 : OpS mX13_holds 173 (o_iload 2 174) := s_iload_n (by decide +kernel : decode cX13_holds 173 = .ok (.iload_n 2, 1)) rfl
theorem oX13_holds_174 : OpS mX13_holds 174 (o_callV mX13_holds 13 2 177) := s_callV ceX13_holds clsX13 (Or.inl wd_1526) wd_1528 selX13_holds (by decide +kernel : decode cX13_holds 174 = .ok (.invokevirtual 313, 3))
theorem oX13_holds_177 : OpS mX13_holds 177 (o_ibin (fun x y => x ||| y) 178) := s_ior (by decide +kernel : decode cX13_holds 177 = .ok (.ior, 1))
theorem oX13_holds_178 : OpS mX13_holds 178 (o_zret) := s_zret rfl (by decide +kernel : decode cX13_holds 178 = .ok (.ireturn, 1))
theorem oX13_holds_179 : OpS mX13_holds 179 (o_aload 0 180) := s_aload_n (by decide +kernel : decode cX13_holds 179 = .ok (.aload_n 0, 1)) rfl
theorem oX13_holds_180 : OpS mX13_holds 180 (o_iload 3 181) := s_iload_n (by decide +kernel : decode cX13_holds 180 = .ok (.iload_n 3, 1)) rfl
theorem oX13_holds_181 : OpS mX13_holds 181 (o_iload 2 182) := s_iload_n (by decide +kernel : decode cX13_holds 181 = .ok (.iload_n 2, 1)) rfl
theorem oX13_holds_182 : OpS mX13_holds 182 (o_callV mX13_reckon 13 2 185) := s_callV ceX13_reckon clsX13 (Or.inl wd_1534) wd_1536 selX13_reckon (by decide +kernel : decode cX13_holds 182 = .ok (.invokevirtual 304, 3))
theorem oX13_holds_185 : OpS mX13_holds 185 (o_aload 0 186) := s_aload_n (by decide +kernel : decode cX13_holds 185 = .ok (.aload_n 0, 1)) rfl
theorem oX13_holds_186 : OpS mX13_holds 186 (o_iload 4 188) := s_iload (by decide +kernel : decode cX13_holds 186 = .ok (.iload 4, 2))
theorem oX13_holds_188 : OpS mX13_holds 188 (o_iload 2 189) := s_iload_n (by decide +kernel : decode cX13_holds 188 = .ok (.iload_n 2, 1)) rfl
theorem oX13_holds_189 : OpS mX13_holds 189 (o_callV mX13_reckon 13 2 192) := s_callV ceX13_reckon clsX13 (Or.inl wd_1534) wd_1536 selX13_reckon (by decide +kernel : decode cX13_holds 189 = .ok (.invokevirtual 304, 3))
theorem oX13_holds_192 : OpS mX13_holds 192 (o_icmp (fun x y => y ≤ x) 199 195) := s_icmp_ge (by decide +kernel : decode cX13_holds 192 = .ok (.if_icmp .ge 7, 3)) (by decide)
theorem oX13_holds_195 : OpS mX13_holds 195 (o_const (.int 1) 196) := s_iconst (by decide +kernel : decode cX13_holds 195 = .ok (.iconst 1, 1)) (by decide)
theorem oX13_holds_196 : OpS mX13_holds 196 (o_goto 200) := s_goto (by decide +kernel : decode cX13_holds 196 = .ok (.goto 4, 3)) (by decide)
theorem oX13_holds_199 : OpS mX13_holds 199 (o_const (.int 0) 200) := s_iconst (by decide +kernel : decode cX13_holds 199 = .ok (.iconst 0, 1)) (by decide)
theorem oX13_holds_200 : OpS mX13_holds 200 (o_zret) := s_zret rfl (by decide +kernel : decode cX13_holds 200 = .ok (.ireturn, 1))
theorem oX13_holds_201 : OpS mX13_holds 201 (o_aload 0 202) := s_aload_n (by decide +kernel : decode cX13_holds 201 = .ok (.aload_n 0, 1)) rfl
theorem oX13_holds_202 : OpS mX13_holds 202 (o_iload 3 203) := s_iload_n (by decide +kernel : decode cX13_holds 202 = .ok (.iload_n 3, 1)) rfl
theorem oX13_holds_203 : OpS mX13_holds 203 (o_iload 2 204) := s_iload_n (by decide +kernel : decode cX13_holds 203 = .ok (.iload_n 2, 1)) rfl
theorem oX13_holds_204 : OpS mX13_holds 204 (o_callV mX13_reckon 13 2 207) := s_callV ceX13_reckon clsX13 (Or.inl wd_1534) wd_1536 selX13_reckon (by decide +kernel : decode cX13_holds 204 = .ok (.invokevirtual 304, 3))
theorem oX13_holds_207 : OpS mX13_holds 207 (o_aload 0 208) := s_aload_n (by decide +kernel : decode cX13_holds 207 = .ok (.aload_n 0, 1)) rfl
theorem oX13_holds_208 : OpS mX13_holds 208 (o_iload 4 210) := s_iload (by decide +kernel : decode cX13_holds 208 = .ok (.iload 4, 2))
theorem oX13_holds_210 : OpS mX13_holds 210 (o_iload 2 211) := s_iload_n (by decide +kernel : decode cX13_holds 210 = .ok (.iload_n 2, 1)) rfl
theorem oX13_holds_211 : OpS mX13_holds 211 (o_callV mX13_reckon 13 2 214) := s_callV ceX13_reckon clsX13 (Or.inl wd_1534) wd_1536 selX13_reckon (by decide +kernel : decode cX13_holds 211 = .ok (.invokevirtual 304, 3))
theorem oX13_holds_214 : OpS mX13_holds 214 (o_icmp (fun x y => x ≤ y) 221 217) := s_icmp_le (by decide +kernel : decode cX13_holds 214 = .ok (.if_icmp .le 7, 3)) (by decide)
theorem oX13_holds_217 : OpS mX13_holds 217 (o_const (.int 1) 218) := s_iconst (by decide +kernel : decode cX13_holds 217 = .ok (.iconst 1, 1)) (by decide)
theorem oX13_holds_218 : OpS mX13_holds 218 (o_goto 222) := s_goto (by decide +kernel : decode cX13_holds 218 = .ok (.goto 4, 3)) (by decide)
theorem oX13_holds_221 : OpS mX13_holds 221 (o_const (.int 0) 222) := s_iconst (by decide +kernel : decode cX13_holds 221 = .ok (.iconst 0, 1)) (by decide)
theorem oX13_holds_222 : OpS mX13_holds 222 (o_zret) := s_zret rfl (by decide +kernel : decode cX13_holds 222 = .ok (.ireturn, 1))
theorem oX13_holds_223 : OpS mX13_holds 223 (o_aload 0 224) := s_aload_n (by decide +kernel : decode cX13_holds 223 = .ok (.aload_n 0, 1)) rfl
theorem oX13_holds_224 : OpS mX13_holds 224 (o_iload 3 225) := s_iload_n (by decide +kernel : decode cX13_holds 224 = .ok (.iload_n 3, 1)) rfl
theorem oX13_holds_225 : OpS mX13_holds 225 (o_iload 2 226) := s_iload_n (by decide +kernel : decode cX13_holds 225 = .ok (.iload_n 2, 1)) rfl
theorem oX13_holds_226 : OpS mX13_holds 226 (o_callV mX13_reckon 13 2 229) := s_callV ceX13_reckon clsX13 (Or.inl wd_1534) wd_1536 selX13_reckon (by decide +kernel : decode cX13_holds 226 = .ok (.invokevirtual 304, 3))
theorem oX13_holds_229 : OpS mX13_holds 229 (o_aload 0 230) := s_aload_n (by decide +kernel : decode cX13_holds 229 = .ok (.aload_n 0, 1)) rfl
theorem oX13_holds_230 : OpS mX13_holds 230 (o_iload 4 232) := s_iload (by decide +kernel : decode cX13_holds 230 = .ok (.iload 4, 2))
theorem oX13_holds_232 : OpS mX13_holds 232 (o_iload 2 233) := s_iload_n (by decide +kernel : decode cX13_holds 232 = .ok (.iload_n 2, 1)) rfl
theorem oX13_holds_233 : OpS mX13_holds 233 (o_callV mX13_reckon 13 2 236) := s_callV ceX13_reckon clsX13 (Or.inl wd_1534) wd_1536 selX13_reckon (by decide +kernel : decode cX13_holds 233 = .ok (.invokevirtual 304, 3))
theorem oX13_holds_236 : OpS mX13_holds 236 (o_icmp (fun x y => y < x) 243 239) := s_icmp_gt (by decide +kernel : decode cX13_holds 236 = .ok (.if_icmp .gt 7, 3)) (by decide)
theorem oX13_holds_239 : OpS mX13_holds 239 (o_const (.int 1) 240) := s_iconst (by decide +kernel : decode cX13_holds 239 = .ok (.iconst 1, 1)) (by decide)
theorem oX13_holds_240 : OpS mX13_holds 240 (o_goto 244) := s_goto (by decide +kernel : decode cX13_holds 240 = .ok (.goto 4, 3)) (by decide)
theorem oX13_holds_243 : OpS mX13_holds 243 (o_const (.int 0) 244) := s_iconst (by decide +kernel : decode cX13_holds 243 = .ok (.iconst 0, 1)) (by decide)
theorem oX13_holds_244 : OpS mX13_holds 244 (o_zret) := s_zret rfl (by decide +kernel : decode cX13_holds 244 = .ok (.ireturn, 1))
theorem oX13_holds_245 : OpS mX13_holds 245 (o_aload 0 246) := s_aload_n (by decide +kernel : decode cX13_holds 245 = .ok (.aload_n 0, 1)) rfl
theorem oX13_holds_246 : OpS mX13_holds 246 (o_iload 3 247) := s_iload_n (by decide +kernel : decode cX13_holds 246 = .ok (.iload_n 3, 1)) rfl
theorem oX13_holds_247 : OpS mX13_holds 247 (o_iload 2 248) := s_iload_n (by decide +kernel : decode cX13_holds 247 = .ok (.iload_n 2, 1)) rfl
theorem oX13_holds_248 : OpS mX13_holds 248 (o_callV mX13_reckon 13 2 251) := s_callV ceX13_reckon clsX13 (Or.inl wd_1534) wd_1536 selX13_reckon (by decide +kernel : decode cX13_holds 248 = .ok (.invokevirtual 304, 3))
theorem oX13_holds_251 : OpS mX13_holds 251 (o_aload 0 252) := s_aload_n (by decide +kernel : decode cX13_holds 251 = .ok (.aload_n 0, 1)) rfl
theorem oX13_holds_252 : OpS mX13_holds 252 (o_iload 4 254) := s_iload (by decide +kernel : decode cX13_holds 252 = .ok (.iload 4, 2))
theorem oX13_holds_254 : OpS mX13_holds 254 (o_iload 2 255) := s_iload_n (by decide +kernel : decode cX13_holds 254 = .ok (.iload_n 2, 1)) rfl
theorem oX13_holds_255 : OpS mX13_holds 255 (o_callV mX13_reckon 13 2 258) := s_callV ceX13_reckon clsX13 (Or.inl wd_1534) wd_1536 selX13_reckon (by decide +kernel : decode cX13_holds 255 = .ok (.invokevirtual 304, 3))
theorem oX13_holds_258 : OpS mX13_holds 258 (o_icmp (fun x y => x < y) 265 261) := s_icmp_lt (by decide +kernel : decode cX13_holds 258 = .ok (.if_icmp .lt 7, 3)) (by decide)
theorem oX13_holds_261 : OpS mX13_holds 261 (o_const (.int 1) 262) := s_iconst (by decide +kernel : decode cX13_holds 261 = .ok (.iconst 1, 1)) (by decide)
theorem oX13_holds_262 : OpS mX13_holds 262 (o_goto 266) := s_goto (by decide +kernel : decode cX13_holds 262 = .ok (.goto 4, 3)) (by decide)
theorem oX13_holds_265 : OpS mX13_holds 265 (o_const (.int 0) 266) := s_iconst (by decide +kernel : decode cX13_holds 265 = .ok (.iconst 0, 1)) (by decide)
theorem oX13_holds_266 : OpS mX13_holds 266 (o_zret) := s_zret rfl (by decide +kernel : decode cX13_holds 266 = .ok (.ireturn, 1))
theorem oX13_holds_267 : OpS mX13_holds 267 (o_aload 0 268) := s_aload_n (by decide +kernel : decode cX13_holds 267 = .ok (.aload_n 0, 1)) rfl
theorem oX13_holds_268 : OpS mX13_holds 268 (o_iload 3 269) := s_iload_n (by decide +kernel : decode cX13_holds 268 = .ok (.iload_n 3, 1)) rfl
theorem oX13_holds_269 : OpS mX13_holds 269 (o_iload 2 270) := s_iload_n (by decide +kernel : decode cX13_holds 269 = .ok (.iload_n 2, 1)) rfl
theorem oX13_holds_270 : OpS mX13_holds 270 (o_callV mX13_reckon 13 2 273) := s_callV ceX13_reckon clsX13 (Or.inl wd_1534) wd_1536 selX13_reckon (by decide +kernel : decode cX13_holds 270 = .ok (.invokevirtual 304, 3))
theorem oX13_holds_273 : OpS mX13_holds 273 (o_aload 0 274) := s_aload_n (by decide +kernel : decode cX13_holds 273 = .ok (.aload_n 0, 1)) rfl
theorem oX13_holds_274 : OpS mX13_holds 274 (o_iload 4 276) := s_iload (by decide +kernel : decode cX13_holds 274 = .ok (.iload 4, 2))
theorem oX13_holds_276 : OpS mX13_holds 276 (o_iload 2 277) := s_iload_n (by decide +kernel : decode cX13_holds 276 = .ok (.iload_n 2, 1)) rfl
theorem oX13_holds_277 : OpS mX13_holds 277 (o_callV mX13_reckon 13 2 280) := s_callV ceX13_reckon clsX13 (Or.inl wd_1534) wd_1536 selX13_reckon (by decide +kernel : decode cX13_holds 277 = .ok (.invokevirtual 304, 3))
theorem oX13_holds_280 : OpS mX13_holds 280 (o_icmp (fun x y => x = y) 283 287) := s_icmp_ne (by decide +kernel : decode cX13_holds 280 = .ok (.if_icmp .ne 7, 3)) (by decide)
theorem oX13_holds_283 : OpS mX13_holds 283 (o_const (.int 1) 284) := s_iconst (by decide +kernel : decode cX13_holds 283 = .ok (.iconst 1, 1)) (by decide)
theorem oX13_holds_284 : OpS mX13_holds 284 (o_goto 288) := s_goto (by decide +kernel : decode cX13_holds 284 = .ok (.goto 4, 3)) (by decide)
theorem oX13_holds_287 : OpS mX13_holds 287 (o_const (.int 0) 288) := s_iconst (by decide +kernel : decode cX13_holds 287 = .ok (.iconst 0, 1)) (by decide)
theorem oX13_holds_288 : OpS mX13_holds 288 (o_zret) := s_zret rfl (by decide +kernel : decode cX13_holds 288 = .ok (.ireturn, 1))
theorem oX13_scoreOf_0 : OpS mX13_scoreOf 0 (o_aload 0 1) := s_aload_n (by decide +kernel : decode cX13_scoreOf 0 = .ok (.aload_n 0, 1)) rfl
theorem oX13_scoreOf_1 : OpS mX13_scoreOf 1 (o_getP 13 8 4) := s_getP (k := 8) clsX13 (by decide) rfl (Or.inl wd_1252) (by decide +kernel : decode cX13_scoreOf 1 = .ok (.getfield 87, 3)) rfl
theorem oX13_scoreOf_4 : OpS mX13_scoreOf 4 (o_getP 12 6 7) := s_getP (k := 6) clsX12 (by decide) rfl (Or.inr ⟨_, wd_1189⟩) (by decide +kernel : decode cX13_scoreOf 4 = .ok (.getfield 243, 3)) rfl
theorem oX13_scoreOf_7 : OpS mX13_scoreOf 7 (o_iload 1 8) := s_iload_n (by decide +kernel : decode cX13_scoreOf 7 = .ok (.iload_n 1, 1)) rfl
theorem oX13_scoreOf_8 : OpS mX13_scoreOf 8 (o_iald 9) := s_iald (by decide +kernel : decode cX13_scoreOf 8 = .ok (.iaload, 1))
theorem oX13_scoreOf_9 : OpS mX13_scoreOf 9 (o_const (.int 10) 11) := s_bipush (by decide +kernel : decode cX13_scoreOf 9 = .ok (.bipush 10, 2)) (by decide)
theorem oX13_scoreOf_11 : OpS mX13_scoreOf 11 (o_iload 2 12) := s_iload_n (by decide +kernel : decode cX13_scoreOf 11 = .ok (.iload_n 2, 1)) rfl
theorem oX13_scoreOf_12 : OpS mX13_scoreOf 12 (o_ibin (fun x y => x * y) 13) := s_imul (by decide +kernel : decode cX13_scoreOf 12 = .ok (.imul, 1))
theorem oX13_scoreOf_13 : OpS mX13_scoreOf 13 (o_ibin (fun x y => x - y) 14) := s_isub (by decide +kernel : decode cX13_scoreOf 13 = .ok (.isub, 1))
theorem oX13_scoreOf_14 : OpS mX13_scoreOf 14 (o_istore 3 5 15) := s_istore_n (by decide +kernel : decode cX13_scoreOf 14 = .ok (.istore_n 3, 1)) rfl rfl
theorem oX13_scoreOf_15 : OpS mX13_scoreOf 15 (o_const (.int 0) 16) := s_iconst (by decide +kernel : decode cX13_scoreOf 15 = .ok (.iconst 0, 1)) (by decide)
theorem oX13_scoreOf_16 : OpS mX13_scoreOf 16 (o_istore 4 5 18) := s_istore (by decide +kernel : decode cX13_scoreOf 16 = .ok (.istore 4, 2)) rfl
theorem oX13_scoreOf_18 : OpS mX13_scoreOf 18 (o_iload 4 20) := s_iload (by decide +kernel : decode cX13_scoreOf 18 = .ok (.iload 4, 2))
theorem oX13_scoreOf_20 : OpS mX13_scoreOf 20 (o_const (.int 3) 21) := s_iconst (by decide +kernel : decode cX13_scoreOf 20 = .ok (.iconst 3, 1)) (by decide)
theorem oX13_scoreOf_21 : OpS mX13_scoreOf 21 (o_aload 0 22) := s_aload_n (by decide +kernel : decode cX13_scoreOf 21 = .ok (.aload_n 0, 1)) rfl
theorem oX13_scoreOf_22 : OpS mX13_scoreOf 22 (o_getP 13 8 25) := s_getP (k := 8) clsX13 (by decide) rfl (Or.inl wd_1252) (by decide +kernel : decode cX13_scoreOf 22 = .ok (.getfield 87, 3)) rfl
theorem oX13_scoreOf_25 : OpS mX13_scoreOf 25 (o_getI 12 3 28) := s_getI (k := 3) clsX12 (by decide) rfl (Or.inr ⟨_, wd_1183⟩) (by decide +kernel : decode cX13_scoreOf 25 = .ok (.getfield 263, 3)) rfl
theorem oX13_scoreOf_28 : OpS mX13_scoreOf 28 (o_ibin (fun x y => x * y) 29) := s_imul (by decide +kernel : decode cX13_scoreOf 28 = .ok (.imul, 1))
theorem oX13_scoreOf_29 : OpS mX13_scoreOf 29 (o_icmp (fun x y => y ≤ x) 100 32) := s_icmp_ge (by decide +kernel : decode cX13_scoreOf 29 = .ok (.if_icmp .ge 71, 3)) (by decide)
theorem oX13_scoreOf_32 : OpS mX13_scoreOf 32 (o_aload 0 33) := s_aload_n (by decide +kernel : decode cX13_scoreOf 32 = .ok (.aload_n 0, 1)) rfl
theorem oX13_scoreOf_33 : OpS mX13_scoreOf 33 (o_getP 13 8 36) := s_getP (k := 8) clsX13 (by decide) rfl (Or.inl wd_1252) (by decide +kernel : decode cX13_scoreOf 33 = .ok (.getfield 87, 3)) rfl
theorem oX13_scoreOf_36 : OpS mX13_scoreOf 36 (o_getP 12 9 39) := s_getP (k := 9) clsX12 (by decide) rfl (Or.inr ⟨_, wd_1195⟩) (by decide +kernel : decode cX13_scoreOf 36 = .ok (.getfield 266, 3)) rfl
theorem oX13_scoreOf_39 : OpS mX13_scoreOf 39 (o_iload 4 41) := s_iload (by decide +kernel : decode cX13_scoreOf 39 = .ok (.iload 4, 2))
theorem oX13_scoreOf_41 : OpS mX13_scoreOf 41 (o_iald 42) := s_iald (by decide +kernel : decode cX13_scoreOf 41 = .ok (.iaload, 1))
theorem oX13_scoreOf_42 : OpS mX13_scoreOf 42 (o_aload 0 43) := s_aload_n (by decide +kernel : decode cX13_scoreOf 42 = .ok (.aload_n 0, 1)) rfl
theorem oX13_scoreOf_43 : OpS mX13_scoreOf 43 (o_getP 13 8 46) := s_getP (k := 8) clsX13 (by decide) rfl (Or.inl wd_1252) (by decide +kernel : decode cX13_scoreOf 43 = .ok (.getfield 87, 3)) rfl
theorem oX13_scoreOf_46 : OpS mX13_scoreOf 46 (o_getP 12 7 49) := s_getP (k := 7) clsX12 (by decide) rfl (Or.inr ⟨_, wd_1191⟩) (by decide +kernel : decode cX13_scoreOf 46 = .ok (.getfield 246, 3)) rfl
theorem oX13_scoreOf_49 : OpS mX13_scoreOf 49 (o_iload 1 50) := s_iload_n (by decide +kernel : decode cX13_scoreOf 49 = .ok (.iload_n 1, 1)) rfl
theorem oX13_scoreOf_50 : OpS mX13_scoreOf 50 (o_iald 51) := s_iald (by decide +kernel : decode cX13_scoreOf 50 = .ok (.iaload, 1))
theorem oX13_scoreOf_51 : OpS mX13_scoreOf 51 (o_icmp (fun x y => x = y) 54 94) := s_icmp_ne (by decide +kernel : decode cX13_scoreOf 51 = .ok (.if_icmp .ne 43, 3)) (by decide)
theorem oX13_scoreOf_54 : OpS mX13_scoreOf 54 (o_aload 0 55) := s_aload_n (by decide +kernel : decode cX13_scoreOf 54 = .ok (.aload_n 0, 1)) rfl
theorem oX13_scoreOf_55 : OpS mX13_scoreOf 55 (o_aload 0 56) := s_aload_n (by decide +kernel : decode cX13_scoreOf 55 = .ok (.aload_n 0, 1)) rfl
theorem oX13_scoreOf_56 : OpS mX13_scoreOf 56 (o_getP 13 8 59) := s_getP (k := 8) clsX13 (by decide) rfl (Or.inl wd_1252) (by decide +kernel : decode cX13_scoreOf 56 = .ok (.getfield 87, 3)) rfl
theorem oX13_scoreOf_59 : OpS mX13_scoreOf 59 (o_getP 12 9 62) := s_getP (k := 9) clsX12 (by decide) rfl (Or.inr ⟨_, wd_1195⟩) (by decide +kernel : decode cX13_scoreOf 59 = .ok (.getfield 266, 3)) rfl
theorem oX13_scoreOf_62 : OpS mX13_scoreOf 62 (o_iload 4 64) := s_iload (by decide +kernel : decode cX13_scoreOf 62 = .ok (.iload 4, 2))
theorem oX13_scoreOf_64 : OpS mX13_scoreOf 64 (o_const (.int 2) 65) := s_iconst (by decide +kernel : decode cX13_scoreOf 64 = .ok (.iconst 2, 1)) (by decide)
theorem oX13_scoreOf_65 : OpS mX13_scoreOf 65 (o_ibin (fun x y => x + y) 66) := s_iadd (by decide +kernel : decode cX13_scoreOf 65 = .ok (.iadd, 1))
theorem oX13_scoreOf_66 : OpS mX13_scoreOf 66 (o_iald 67) := s_iald (by decide +kernel : decode cX13_scoreOf 66 = .ok (.iaload, 1))
theorem oX13_scoreOf_67 : OpS mX13_scoreOf 67 (o_iload 2 68) := s_iload_n (by decide +kernel : decode cX13_scoreOf 67 = .ok (.iload_n 2, 1)) rfl
theorem oX13_scoreOf_68 : OpS mX13_scoreOf 68 (o_callV mX13_holds 13 2 71) := s_callV ceX13_holds clsX13 (Or.inl wd_1526) wd_1528 selX13_holds (by decide +kernel : decode cX13_scoreOf 68 = .ok (.invokevirtual 313, 3))
theorem oX13_scoreOf_71 : OpS mX13_scoreOf 71 (o_if (fun x => x = 0) 94 74) := s_if_eq (by decide +kernel : decode cX13_scoreOf 71 = .ok (.ifCond .eq 23, 3)) (by decide)
theorem oX13_scoreOf_74 : OpS mX13_scoreOf 74 (o_iload 3 75) := s_iload_n (by decide +kernel : decode cX13_scoreOf 74 = .ok (.iload_n 3, 1)) rfl
theorem oX13_scoreOf_75 : OpS mX13_scoreOf 75 (o_aload 0 76) := s_aload_n (by decide +kernel : decode cX13_scoreOf 75 = .ok (.aload_n 0, 1)) rfl
theorem oX13_scoreOf_76 : OpS mX13_scoreOf 76 (o_aload 0 77) := s_aload_n (by decide +kernel : decode cX13_scoreOf 76 = .ok (.aload_n 0, 1)) rfl
theorem oX13_scoreOf_77 : OpS mX13_scoreOf 77 (o_getP 13 8 80) := s_getP (k := 8) clsX13 (by decide) rfl (Or.inl wd_1252) (by decide +kernel : decode cX13_scoreOf 77 = .ok (.getfield 87, 3)) rfl
theorem oX13_scoreOf_80 : OpS mX13_scoreOf 80 (o_getP 12 9 83) := s_getP (k := 9) clsX12 (by decide) rfl (Or.inr ⟨_, wd_1195⟩) (by decide +kernel : decode cX13_scoreOf 80 = .ok (.getfield 266, 3)) rfl
theorem oX13_scoreOf_83 : OpS mX13_scoreOf 83 (o_iload 4 85) := s_iload (by decide +kernel : decode cX13_scoreOf 83 = .ok (.iload 4, 2))
theorem oX13_scoreOf_85 : OpS mX13_scoreOf 85 (o_const (.int 1) 86) := s_iconst (by decide +kernel : decode cX13_scoreOf 85 = .ok (.iconst 1, 1)) (by decide)
theorem oX13_scoreOf_86 : OpS mX13_scoreOf 86 (o_ibin (fun x y => x + y) 87) := s_iadd (by decide +kernel : decode cX13_scoreOf 86 = .ok (.iadd, 1))
theorem oX13_scoreOf_87 : OpS mX13_scoreOf 87 (o_iald 88) := s_iald (by decide +kernel : decode cX13_scoreOf 87 = .ok (.iaload, 1))
theorem oX13_scoreOf_88 : OpS mX13_scoreOf 88 (o_iload 2 89) := s_iload_n (by decide +kernel : decode cX13_scoreOf 88 = .ok (.iload_n 2, 1)) rfl
theorem oX13_scoreOf_89 : OpS mX13_scoreOf 89 (o_callV mX13_reckon 13 2 92) := s_callV ceX13_reckon clsX13 (Or.inl wd_1534) wd_1536 selX13_reckon (by decide +kernel : decode cX13_scoreOf 89 = .ok (.invokevirtual 304, 3))
theorem oX13_scoreOf_92 : OpS mX13_scoreOf 92 (o_ibin (fun x y => x + y) 93) := s_iadd (by decide +kernel : decode cX13_scoreOf 92 = .ok (.iadd, 1))
theorem oX13_scoreOf_93 : OpS mX13_scoreOf 93 (o_istore 3 5 94) := s_istore_n (by decide +kernel : decode cX13_scoreOf 93 = .ok (.istore_n 3, 1)) rfl rfl
theorem oX13_scoreOf_94 : OpS mX13_scoreOf 94 (o_iinc 4 5 3 97) := s_iinc (by decide +kernel : decode cX13_scoreOf 94 = .ok (.iinc 4 3, 3)) (by decide) rfl
theorem oX13_scoreOf_97 : OpS mX13_scoreOf 97 (o_goto 18) := s_goto (by decide +kernel : decode cX13_scoreOf 97 = .ok (.goto (-79), 3)) (by decide)
theorem oX13_scoreOf_100 : OpS mX13_scoreOf 100 (o_iload 3 101) := s_iload_n (by decide +kernel : decode cX13_scoreOf 100 = .ok (.iload_n 3, 1)) rfl
theorem oX13_scoreOf_101 : OpS mX13_scoreOf 101 (o_iret) := s_iret rfl (by decide +kernel : decode cX13_scoreOf 101 = .ok (.ireturn, 1))
theorem oX13_isAhead_0 : OpS mX13_isAhead 0 (o_iload 2 1) := s_iload_n (by decide +kernel : decode cX13_isAhead 0 = .ok (.iload_n 2, 1)) rfl
theorem oX13_isAhead_1 : OpS mX13_isAhead 1 (o_aload 0 2) := s_aload_n (by decide +kernel : decode cX13_isAhead 1 = .ok (.aload_n 0, 1)) rfl
theorem oX13_isAhead_2 : OpS mX13_isAhead 2 (o_getP 13 25 5) := s_getP (k := 25) clsX13 (by decide) rfl (Or.inl wd_1269) (by decide +kernel : decode cX13_isAhead 2 = .ok (.getfield 118, 3)) rfl
theorem oX13_isAhead_5 : OpS mX13_isAhead 5 (o_iload 3 6) := s_iload_n (by decide +kernel : decode cX13_isAhead 5 = .ok (.iload_n 3, 1)) rfl
theorem oX13_isAhead_6 : OpS mX13_isAhead 6 (o_iald 7) := s_iald (by decide +kernel : decode cX13_isAhead 6 = .ok (.iaload, 1))
theorem oX13_isAhead_7 : OpS mX13_isAhead 7 (o_icmp (fun x y => x = y) 26 10) := s_icmp_eq (by decide +kernel : decode cX13_isAhead 7 = .ok (.if_icmp .eq 19, 3)) (by decide)
theorem oX13_isAhead_10 : OpS mX13_isAhead 10 (o_iload 2 11) := s_iload_n (by decide +kernel : decode cX13_isAhead 10 = .ok (.iload_n 2, 1)) rfl
theorem oX13_isAhead_11 : OpS mX13_isAhead 11 (o_aload 0 12) := s_aload_n (by decide +kernel : decode cX13_isAhead 11 = .ok (.aload_n 0, 1)) rfl
theorem oX13_isAhead_12 : OpS mX13_isAhead 12 (o_getP 13 25 15) := s_getP (k := 25) clsX13 (by decide) rfl (Or.inl wd_1269) (by decide +kernel : decode cX13_isAhead 12 = .ok (.getfield 118, 3)) rfl
theorem oX13_isAhead_15 : OpS mX13_isAhead 15 (o_iload 3 16) := s_iload_n (by decide +kernel : decode cX13_isAhead 15 = .ok (.iload_n 3, 1)) rfl
theorem oX13_isAhead_16 : OpS mX13_isAhead 16 (o_iald 17) := s_iald (by decide +kernel : decode cX13_isAhead 16 = .ok (.iaload, 1))
theorem oX13_isAhead_17 : OpS mX13_isAhead 17 (o_icmp (fun x y => x ≤ y) 24 20) := s_icmp_le (by decide +kernel : decode cX13_isAhead 17 = .ok (.if_icmp .le 7, 3)) (by decide)
theorem oX13_isAhead_20 : OpS mX13_isAhead 20 (o_const (.int 1) 21) := s_iconst (by decide +kernel : decode cX13_isAhead 20 = .ok (.iconst 1, 1)) (by decide)
theorem oX13_isAhead_21 : OpS mX13_isAhead 21 (o_goto 25) := s_goto (by decide +kernel : decode cX13_isAhead 21 = .ok (.goto 4, 3)) (by decide)
theorem oX13_isAhead_24 : OpS mX13_isAhead 24 (o_const (.int 0) 25) := s_iconst (by decide +kernel : decode cX13_isAhead 24 = .ok (.iconst 0, 1)) (by decide)
theorem oX13_isAhead_25 : OpS mX13_isAhead 25 (o_zret) := s_zret rfl (by decide +kernel : decode cX13_isAhead 25 = .ok (.ireturn, 1))
theorem oX13_isAhead_26 : OpS mX13_isAhead 26 (o_aload 0 27) := s_aload_n (by decide +kernel : decode cX13_isAhead 26 = .ok (.aload_n 0, 1)) rfl
theorem oX13_isAhead_27 : OpS mX13_isAhead 27 (o_getP 13 8 30) := s_getP (k := 8) clsX13 (by decide) rfl (Or.inl wd_1252) (by decide +kernel : decode cX13_isAhead 27 = .ok (.getfield 87, 3)) rfl
theorem oX13_isAhead_30 : OpS mX13_isAhead 30 (o_getP 12 5 33) := s_getP (k := 5) clsX12 (by decide) rfl (Or.inr ⟨_, wd_1187⟩) (by decide +kernel : decode cX13_isAhead 30 = .ok (.getfield 242, 3)) rfl
theorem oX13_isAhead_33 : OpS mX13_isAhead 33 (o_iload 1 34) := s_iload_n (by decide +kernel : decode cX13_isAhead 33 = .ok (.iload_n 1, 1)) rfl
theorem oX13_isAhead_34 : OpS mX13_isAhead 34 (o_iald 35) := s_iald (by decide +kernel : decode cX13_isAhead 34 = .ok (.iaload, 1))
theorem oX13_isAhead_35 : OpS mX13_isAhead 35 (o_aload 0 36) := s_aload_n (by decide +kernel : decode cX13_isAhead 35 = .ok (.aload_n 0, 1)) rfl
theorem oX13_isAhead_36 : OpS mX13_isAhead 36 (o_getP 13 8 39) := s_getP (k := 8) clsX13 (by decide) rfl (Or.inl wd_1252) (by decide +kernel : decode cX13_isAhead 36 = .ok (.getfield 87, 3)) rfl
theorem oX13_isAhead_39 : OpS mX13_isAhead 39 (o_getP 12 5 42) := s_getP (k := 5) clsX12 (by decide) rfl (Or.inr ⟨_, wd_1187⟩) (by decide +kernel : decode cX13_isAhead 39 = .ok (.getfield 242, 3)) rfl
theorem oX13_isAhead_42 : OpS mX13_isAhead 42 (o_iload 3 43) := s_iload_n (by decide +kernel : decode cX13_isAhead 42 = .ok (.iload_n 3, 1)) rfl
theorem oX13_isAhead_43 : OpS mX13_isAhead 43 (o_iald 44) := s_iald (by decide +kernel : decode cX13_isAhead 43 = .ok (.iaload, 1))
theorem oX13_isAhead_44 : OpS mX13_isAhead 44 (o_icmp (fun x y => x = y) 76 47) := s_icmp_eq (by decide +kernel : decode cX13_isAhead 44 = .ok (.if_icmp .eq 32, 3)) (by decide)
theorem oX13_isAhead_47 : OpS mX13_isAhead 47 (o_aload 0 48) := s_aload_n (by decide +kernel : decode cX13_isAhead 47 = .ok (.aload_n 0, 1)) rfl
theorem oX13_isAhead_48 : OpS mX13_isAhead 48 (o_getP 13 8 51) := s_getP (k := 8) clsX13 (by decide) rfl (Or.inl wd_1252) (by decide +kernel : decode cX13_isAhead 48 = .ok (.getfield 87, 3)) rfl
theorem oX13_isAhead_51 : OpS mX13_isAhead 51 (o_getP 12 5 54) := s_getP (k := 5) clsX12 (by decide) rfl (Or.inr ⟨_, wd_1187⟩) (by decide +kernel : decode cX13_isAhead 51 = .ok (.getfield 242, 3)) rfl
theorem oX13_isAhead_54 : OpS mX13_isAhead 54 (o_iload 1 55) := s_iload_n (by decide +kernel : decode cX13_isAhead 54 = .ok (.iload_n 1, 1)) rfl
theorem oX13_isAhead_55 : OpS mX13_isAhead 55 (o_iald 56) := s_iald (by decide +kernel : decode cX13_isAhead 55 = .ok (.iaload, 1))
theorem oX13_isAhead_56 : OpS mX13_isAhead 56 (o_aload 0 57) := s_aload_n (by decide +kernel : decode cX13_isAhead 56 = .ok (.aload_n 0, 1)) rfl
theorem oX13_isAhead_57 : OpS mX13_isAhead 57 (o_getP 13 8 60) := s_getP (k := 8) clsX13 (by decide) rfl (Or.inl wd_1252) (by decide +kernel : decode cX13_isAhead 57 = .ok (.getfield 87, 3)) rfl
theorem oX13_isAhead_60 : OpS mX13_isAhead 60 (o_getP 12 5 63) := s_getP (k := 5) clsX12 (by decide) rfl (Or.inr ⟨_, wd_1187⟩) (by decide +kernel : decode cX13_isAhead 60 = .ok (.getfield 242, 3)) rfl
theorem oX13_isAhead_63 : OpS mX13_isAhead 63 (o_iload 3 64) := s_iload_n (by decide +kernel : decode cX13_isAhead 63 = .ok (.iload_n 3, 1)) rfl
theorem oX13_isAhead_64 : OpS mX13_isAhead 64 (o_iald 65) := s_iald (by decide +kernel : decode cX13_isAhead 64 = .ok (.iaload, 1))
theorem oX13_isAhead_65 : OpS mX13_isAhead 65 (o_icmp (fun x y => y ≤ x) 72 68) := s_icmp_ge (by decide +kernel : decode cX13_isAhead 65 = .ok (.if_icmp .ge 7, 3)) (by decide)
theorem oX13_isAhead_68 : OpS mX13_isAhead 68 (o_const (.int 1) 69) := s_iconst (by decide +kernel : decode cX13_isAhead 68 = .ok (.iconst 1, 1)) (by decide)
theorem oX13_isAhead_69 : OpS mX13_isAhead 69 (o_goto 86) := s_goto (by decide +kernel : decode cX13_isAhead 69 = .ok (.goto 17, 3)) (by decide)
theorem oX13_isAhead_72 : OpS mX13_isAhead 72 (o_const (.int 0) 73) := s_iconst (by decide +kernel : decode cX13_isAhead 72 = .ok (.iconst 0, 1)) (by decide)
theorem oX13_isAhead_73 : OpS mX13_isAhead 73 (o_goto 86) := s_goto (by decide +kernel : decode cX13_isAhead 73 = .ok (.goto 13, 3)) (by decide)
theorem oX13_isAhead_76 : OpS mX13_isAhead 76 (o_iload 1 77) := s_iload_n (by decide +kernel : decode cX13_isAhead 76 = .ok (.iload_n 1, 1)) rfl
theorem oX13_isAhead_77 : OpS mX13_isAhead 77 (o_iload 3 78) := s_iload_n (by decide +kernel : decode cX13_isAhead 77 = .ok (.iload_n 3, 1)) rfl
theorem oX13_isAhead_78 : OpS mX13_isAhead 78 (o_icmp (fun x y => y ≤ x) 85 81) := s_icmp_ge (by decide +kernel : decode cX13_isAhead 78 = .ok (.if_icmp .ge 7, 3)) (by decide)
theorem oX13_isAhead_81 : OpS mX13_isAhead 81 (o_const (.int 1) 82) := s_iconst (by decide +kernel : decode cX13_isAhead 81 = .ok (.iconst 1, 1)) (by decide)
theorem oX13_isAhead_82 : OpS mX13_isAhead 82 (o_goto 86) := s_goto (by decide +kernel : decode cX13_isAhead 82 = .ok (.goto 4, 3)) (by decide)
theorem oX13_isAhead_85 : OpS mX13_isAhead 85 (o_const (.int 0) 86) := s_iconst (by decide +kernel : decode cX13_isAhead 85 = .ok (.iconst 0, 1)) (by decide)
theorem oX13_isAhead_86 : OpS mX13_isAhead 86 (o_zret) := s_zret rfl (by decide +kernel : decode cX13_isAhead 86 = .ok (.ireturn, 1))
theorem oX13_look_0 : OpS mX13_look 0 (o_aload 0 1) := s_aload_n (by decide +kernel : decode cX13_look 0 = .ok (.aload_n 0, 1)) rfl
theorem oX13_look_1 : OpS mX13_look 1 (o_const (.int 0) 2) := s_iconst (by decide +kernel : decode cX13_look 1 = .ok (.iconst 0, 1)) (by decide)
theorem oX13_look_2 : OpS mX13_look 2 (o_putI 13 27 5) := s_putI (k := 27) clsX13 (by decide) rfl (Or.inl ⟨wd_1271, Or.inl rfl⟩) (by decide +kernel : decode cX13_look 2 = .ok (.putfield 316, 3)) rfl rfl
theorem oX13_look_5 : OpS mX13_look 5 (o_const (.int 0) 6) := s_iconst (by decide +kernel : decode cX13_look 5 = .ok (.iconst 0, 1)) (by decide)
theorem oX13_look_6 : OpS mX13_look 6 (o_istore 1 3 7) := s_istore_n (by decide +kernel : decode cX13_look 6 = .ok (.istore_n 1, 1)) rfl rfl
theorem oX13_look_7 : OpS mX13_look 7 (o_iload 1 8) := s_iload_n (by decide +kernel : decode cX13_look 7 = .ok (.iload_n 1, 1)) rfl
theorem oX13_look_8 : OpS mX13_look 8 (o_aload 0 9) := s_aload_n (by decide +kernel : decode cX13_look 8 = .ok (.aload_n 0, 1)) rfl
theorem oX13_look_9 : OpS mX13_look 9 (o_getP 13 8 12) := s_getP (k := 8) clsX13 (by decide) rfl (Or.inl wd_1252) (by decide +kernel : decode cX13_look 9 = .ok (.getfield 87, 3)) rfl
theorem oX13_look_12 : OpS mX13_look 12 (o_getI 12 1 15) := s_getI (k := 1) clsX12 (by decide) rfl (Or.inr ⟨_, wd_1179⟩) (by decide +kernel : decode cX13_look 12 = .ok (.getfield 181, 3)) rfl
theorem oX13_look_15 : OpS mX13_look 15 (o_icmp (fun x y => y ≤ x) 136 18) := s_icmp_ge (by decide +kernel : decode cX13_look 15 = .ok (.if_icmp .ge 121, 3)) (by decide)
theorem oX13_look_18 : OpS mX13_look 18 (o_aload 0 19) := s_aload_n (by decide +kernel : decode cX13_look 18 = .ok (.aload_n 0, 1)) rfl
theorem oX13_look_19 : OpS mX13_look 19 (o_getP 13 24 22) := s_getP (k := 24) clsX13 (by decide) rfl (Or.inl wd_1268) (by decide +kernel : decode cX13_look 19 = .ok (.getfield 115, 3)) rfl
theorem oX13_look_22 : OpS mX13_look 22 (o_iload 1 23) := s_iload_n (by decide +kernel : decode cX13_look 22 = .ok (.iload_n 1, 1)) rfl
theorem oX13_look_23 : OpS mX13_look 23 (o_aload 0 24) := s_aload_n (by decide +kernel : decode cX13_look 23 = .ok (.aload_n 0, 1)) rfl
theorem oX13_look_24 : OpS mX13_look 24 (o_iload 1 25) := s_iload_n (by decide +kernel : decode cX13_look 24 = .ok (.iload_n 1, 1)) rfl
theorem oX13_look_25 : OpS mX13_look 25 (o_callV mX13_farOf 13 1 28) := s_callV ceX13_farOf clsX13 (Or.inl wd_1505) wd_1507 selX13_farOf (by decide +kernel : decode cX13_look 25 = .ok (.invokevirtual 319, 3))
theorem oX13_look_28 : OpS mX13_look 28 (o_iast 29) := s_iast (by decide +kernel : decode cX13_look 28 = .ok (.iastore, 1))
theorem oX13_look_29 : OpS mX13_look 29 (o_aload 0 30) := s_aload_n (by decide +kernel : decode cX13_look 29 = .ok (.aload_n 0, 1)) rfl
theorem oX13_look_30 : OpS mX13_look 30 (o_getP 13 25 33) := s_getP (k := 25) clsX13 (by decide) rfl (Or.inl wd_1269) (by decide +kernel : decode cX13_look 30 = .ok (.getfield 118, 3)) rfl
theorem oX13_look_33 : OpS mX13_look 33 (o_iload 1 34) := s_iload_n (by decide +kernel : decode cX13_look 33 = .ok (.iload_n 1, 1)) rfl
theorem oX13_look_34 : OpS mX13_look 34 (o_aload 0 35) := s_aload_n (by decide +kernel : decode cX13_look 34 = .ok (.aload_n 0, 1)) rfl
theorem oX13_look_35 : OpS mX13_look 35 (o_iload 1 36) := s_iload_n (by decide +kernel : decode cX13_look 35 = .ok (.iload_n 1, 1)) rfl
theorem oX13_look_36 : OpS mX13_look 36 (o_aload 0 37) := s_aload_n (by decide +kernel : decode cX13_look 36 = .ok (.aload_n 0, 1)) rfl
theorem oX13_look_37 : OpS mX13_look 37 (o_getP 13 24 40) := s_getP (k := 24) clsX13 (by decide) rfl (Or.inl wd_1268) (by decide +kernel : decode cX13_look 37 = .ok (.getfield 115, 3)) rfl
theorem oX13_look_40 : OpS mX13_look 40 (o_iload 1 41) := s_iload_n (by decide +kernel : decode cX13_look 40 = .ok (.iload_n 1, 1)) rfl
theorem oX13_look_41 : OpS mX13_look 41 (o_iald 42) := s_iald (by decide +kernel : decode cX13_look 41 = .ok (.iaload, 1))
theorem oX13_look_42 : OpS mX13_look 42 (o_callV mX13_scoreOf 13 2 45) := s_callV ceX13_scoreOf clsX13 (Or.inl wd_1522) wd_1524 selX13_scoreOf (by decide +kernel : decode cX13_look 42 = .ok (.invokevirtual 322, 3))
theorem oX13_look_45 : OpS mX13_look 45 (o_iast 46) := s_iast (by decide +kernel : decode cX13_look 45 = .ok (.iastore, 1))
theorem oX13_look_46 : OpS mX13_look 46 (o_aload 0 47) := s_aload_n (by decide +kernel : decode cX13_look 46 = .ok (.aload_n 0, 1)) rfl
theorem oX13_look_47 : OpS mX13_look 47 (o_getP 13 24 50) := s_getP (k := 24) clsX13 (by decide) rfl (Or.inl wd_1268) (by decide +kernel : decode cX13_look 47 = .ok (.getfield 115, 3)) rfl
theorem oX13_look_50 : OpS mX13_look 50 (o_iload 1 51) := s_iload_n (by decide +kernel : decode cX13_look 50 = .ok (.iload_n 1, 1)) rfl
theorem oX13_look_51 : OpS mX13_look 51 (o_iald 52) := s_iald (by decide +kernel : decode cX13_look 51 = .ok (.iaload, 1))
theorem oX13_look_52 : OpS mX13_look 52 (o_aload 0 53) := s_aload_n (by decide +kernel : decode cX13_look 52 = .ok (.aload_n 0, 1)) rfl
theorem oX13_look_53 : OpS mX13_look 53 (o_getI 13 21 56) := s_getI (k := 21) clsX13 (by decide) rfl (Or.inl wd_1265) (by decide +kernel : decode cX13_look 53 = .ok (.getfield 106, 3)) rfl
theorem oX13_look_56 : OpS mX13_look 56 (o_icmp (fun x y => x ≤ y) 62 59) := s_icmp_le (by decide +kernel : decode cX13_look 56 = .ok (.if_icmp .le 6, 3)) (by decide)
theorem oX13_look_59 : OpS mX13_look 59 (o_goto 130) := s_goto (by decide +kernel : decode cX13_look 59 = .ok (.goto 71, 3)) (by decide)
theorem oX13_look_62 : OpS mX13_look 62 (o_aload 0 63) := s_aload_n (by decide +kernel : decode cX13_look 62 = .ok (.aload_n 0, 1)) rfl
theorem oX13_look_63 : OpS mX13_look 63 (o_getI 13 27 66) := s_getI (k := 27) clsX13 (by decide) rfl (Or.inl wd_1271) (by decide +kernel : decode cX13_look 63 = .ok (.getfield 316, 3)) rfl
theorem oX13_look_66 : OpS mX13_look 66 (o_istore 2 3 67) := s_istore_n (by decide +kernel : decode cX13_look 66 = .ok (.istore_n 2, 1)) rfl rfl
theorem oX13_look_67 : OpS mX13_look 67 (o_iload 2 68) := s_iload_n (by decide +kernel : decode cX13_look 67 = .ok (.iload_n 2, 1)) rfl
theorem oX13_look_68 : OpS mX13_look 68 (o_if (fun x => x ≤ 0) 113 71) := s_if_le (by decide +kernel : decode cX13_look 68 = .ok (.ifCond .le 45, 3)) (by decide)
theorem oX13_look_71 : OpS mX13_look 71 (o_aload 0 72) := s_aload_n (by decide +kernel : decode cX13_look 71 = .ok (.aload_n 0, 1)) rfl
theorem oX13_look_72 : OpS mX13_look 72 (o_iload 1 73) := s_iload_n (by decide +kernel : decode cX13_look 72 = .ok (.iload_n 1, 1)) rfl
theorem oX13_look_73 : OpS mX13_look 73 (o_aload 0 74) := s_aload_n (by decide +kernel : decode cX13_look 73 = .ok (.aload_n 0, 1)) rfl
theorem oX13_look_74 : OpS mX13_look 74 (o_getP 13 25 77) := s_getP (k := 25) clsX13 (by decide) rfl (Or.inl wd_1269) (by decide +kernel : decode cX13_look 74 = .ok (.getfield 118, 3)) rfl
theorem oX13_look_77 : OpS mX13_look 77 (o_iload 1 78) := s_iload_n (by decide +kernel : decode cX13_look 77 = .ok (.iload_n 1, 1)) rfl
theorem oX13_look_78 : OpS mX13_look 78 (o_iald 79) := s_iald (by decide +kernel : decode cX13_look 78 = .ok (.iaload, 1))
theorem oX13_look_79 : OpS mX13_look 79 (o_aload 0 80) := s_aload_n (by decide +kernel : decode cX13_look 79 = .ok (.aload_n 0, 1)) rfl
theorem oX13_look_80 : OpS mX13_look 80 (o_getP 13 26 83) := s_getP (k := 26) clsX13 (by decide) rfl (Or.inl wd_1270) (by decide +kernel : decode cX13_look 80 = .ok (.getfield 121, 3)) rfl
theorem oX13_look_83 : OpS mX13_look 83 (o_iload 2 84) := s_iload_n (by decide +kernel : decode cX13_look 83 = .ok (.iload_n 2, 1)) rfl
theorem oX13_look_84 : OpS mX13_look 84 (o_const (.int 1) 85) := s_iconst (by decide +kernel : decode cX13_look 84 = .ok (.iconst 1, 1)) (by decide)
theorem oX13_look_85 : OpS mX13_look 85 (o_ibin (fun x y => x - y) 86) := s_isub (by decide +kernel : decode cX13_look 85 = .ok (.isub, 1))
theorem oX13_look_86 : OpS mX13_look 86 (o_iald 87) := s_iald (by decide +kernel : decode cX13_look 86 = .ok (.iaload, 1))
theorem oX13_look_87 : OpS mX13_look 87 (o_callV mX13_isAhead 13 3 90) := s_callV ceX13_isAhead clsX13 (Or.inl wd_1541) wd_1543 selX13_isAhead (by decide +kernel : decode cX13_look 87 = .ok (.invokevirtual 325, 3))
theorem oX13_look_90 : OpS mX13_look 90 (o_if (fun x => x = 0) 113 93) := s_if_eq (by decide +kernel : decode cX13_look 90 = .ok (.ifCond .eq 23, 3)) (by decide)
theorem oX13_look_93 : OpS mX13_look 93 (o_aload 0 94) := s_aload_n (by decide +kernel : decode cX13_look 93 = .ok (.aload_n 0, 1)) rfl
theorem oX13_look_94 : OpS mX13_look 94 (o_getP 13 26 97) := s_getP (k := 26) clsX13 (by decide) rfl (Or.inl wd_1270) (by decide +kernel : decode cX13_look 94 = .ok (.getfield 121, 3)) rfl
theorem oX13_look_97 : OpS mX13_look 97 (o_iload 2 98) := s_iload_n (by decide +kernel : decode cX13_look 97 = .ok (.iload_n 2, 1)) rfl
theorem oX13_look_98 : OpS mX13_look 98 (o_aload 0 99) := s_aload_n (by decide +kernel : decode cX13_look 98 = .ok (.aload_n 0, 1)) rfl
theorem oX13_look_99 : OpS mX13_look 99 (o_getP 13 26 102) := s_getP (k := 26) clsX13 (by decide) rfl (Or.inl wd_1270) (by decide +kernel : decode cX13_look 99 = .ok (.getfield 121, 3)) rfl
theorem oX13_look_102 : OpS mX13_look 102 (o_iload 2 103) := s_iload_n (by decide +kernel : decode cX13_look 102 = .ok (.iload_n 2, 1)) rfl
theorem oX13_look_103 : OpS mX13_look 103 (o_const (.int 1) 104) := s_iconst (by decide +kernel : decode cX13_look 103 = .ok (.iconst 1, 1)) (by decide)
theorem oX13_look_104 : OpS mX13_look 104 (o_ibin (fun x y => x - y) 105) := s_isub (by decide +kernel : decode cX13_look 104 = .ok (.isub, 1))
theorem oX13_look_105 : OpS mX13_look 105 (o_iald 106) := s_iald (by decide +kernel : decode cX13_look 105 = .ok (.iaload, 1))
theorem oX13_look_106 : OpS mX13_look 106 (o_iast 107) := s_iast (by decide +kernel : decode cX13_look 106 = .ok (.iastore, 1))
theorem oX13_look_107 : OpS mX13_look 107 (o_iinc 2 3 (-1) 110) := s_iinc (by decide +kernel : decode cX13_look 107 = .ok (.iinc 2 (-1), 3)) (by decide) rfl
theorem oX13_look_110 : OpS mX13_look 110 (o_goto 67) := s_goto (by decide +kernel : decode cX13_look 110 = .ok (.goto (-43), 3)) (by decide)
theorem oX13_look_113 : OpS mX13_look 113 (o_aload 0 114) := s_aload_n (by decide +kernel : decode cX13_look 113 = .ok (.aload_n 0, 1)) rfl
theorem oX13_look_114 : OpS mX13_look 114 (o_getP 13 26 117) := s_getP (k := 26) clsX13 (by decide) rfl (Or.inl wd_1270) (by decide +kernel : decode cX13_look 114 = .ok (.getfield 121, 3)) rfl
theorem oX13_look_117 : OpS mX13_look 117 (o_iload 2 118) := s_iload_n (by decide +kernel : decode cX13_look 117 = .ok (.iload_n 2, 1)) rfl
theorem oX13_look_118 : OpS mX13_look 118 (o_iload 1 119) := s_iload_n (by decide +kernel : decode cX13_look 118 = .ok (.iload_n 1, 1)) rfl
theorem oX13_look_119 : OpS mX13_look 119 (o_iast 120) := s_iast (by decide +kernel : decode cX13_look 119 = .ok (.iastore, 1))
theorem oX13_look_120 : OpS mX13_look 120 (o_aload 0 121) := s_aload_n (by decide +kernel : decode cX13_look 120 = .ok (.aload_n 0, 1)) rfl
theorem oX13_look_121 : OpS mX13_look 121 (o_dup 122) := s_dup (by decide +kernel : decode cX13_look 121 = .ok (.dup, 1))
theorem oX13_look_122 : OpS mX13_look 122 (o_getI 13 27 125) := s_getI (k := 27) clsX13 (by decide) rfl (Or.inl wd_1271) (by decide +kernel : decode cX13_look 122 = .ok (.getfield 316, 3)) rfl
theorem oX13_look_125 : OpS mX13_look 125 (o_const (.int 1) 126) := s_iconst (by decide +kernel : decode cX13_look 125 = .ok (.iconst 1, 1)) (by decide)
theorem oX13_look_126 : OpS mX13_look 126 (o_ibin (fun x y => x + y) 127) := s_iadd (by decide +kernel : decode cX13_look 126 = .ok (.iadd, 1))
theorem oX13_look_127 : OpS mX13_look 127 (o_putI 13 27 130) := s_putI (k := 27) clsX13 (by decide) rfl (Or.inl ⟨wd_1271, Or.inl rfl⟩) (by decide +kernel : decode cX13_look 127 = .ok (.putfield 316, 3)) rfl rfl
theorem oX13_look_130 : OpS mX13_look 130 (o_iinc 1 3 1 133) := s_iinc (by decide +kernel : decode cX13_look 130 = .ok (.iinc 1 1, 3)) (by decide) rfl
theorem oX13_look_133 : OpS mX13_look 133 (o_goto 7) := s_goto (by decide +kernel : decode cX13_look 133 = .ok (.goto (-126), 3)) (by decide)
theorem oX13_look_136 : OpS mX13_look 136 (o_vret) := s_vret rfl (by decide +kernel : decode cX13_look 136 = .ok (.return_, 1))
theorem oX13_placeOf_0 : OpS mX13_placeOf 0 (o_const (.int 0) 1) := s_iconst (by decide +kernel : decode cX13_placeOf 0 = .ok (.iconst 0, 1)) (by decide)
theorem oX13_placeOf_1 : OpS mX13_placeOf 1 (o_istore 2 3 2) := s_istore_n (by decide +kernel : decode cX13_placeOf 1 = .ok (.istore_n 2, 1)) rfl rfl
theorem oX13_placeOf_2 : OpS mX13_placeOf 2 (o_iload 2 3) := s_iload_n (by decide +kernel : decode cX13_placeOf 2 = .ok (.iload_n 2, 1)) rfl
theorem oX13_placeOf_3 : OpS mX13_placeOf 3 (o_aload 0 4) := s_aload_n (by decide +kernel : decode cX13_placeOf 3 = .ok (.aload_n 0, 1)) rfl
theorem oX13_placeOf_4 : OpS mX13_placeOf 4 (o_getI 13 27 7) := s_getI (k := 27) clsX13 (by decide) rfl (Or.inl wd_1271) (by decide +kernel : decode cX13_placeOf 4 = .ok (.getfield 316, 3)) rfl
theorem oX13_placeOf_7 : OpS mX13_placeOf 7 (o_icmp (fun x y => y ≤ x) 28 10) := s_icmp_ge (by decide +kernel : decode cX13_placeOf 7 = .ok (.if_icmp .ge 21, 3)) (by decide)
theorem oX13_placeOf_10 : OpS mX13_placeOf 10 (o_aload 0 11) := s_aload_n (by decide +kernel : decode cX13_placeOf 10 = .ok (.aload_n 0, 1)) rfl
theorem oX13_placeOf_11 : OpS mX13_placeOf 11 (o_getP 13 26 14) := s_getP (k := 26) clsX13 (by decide) rfl (Or.inl wd_1270) (by decide +kernel : decode cX13_placeOf 11 = .ok (.getfield 121, 3)) rfl
theorem oX13_placeOf_14 : OpS mX13_placeOf 14 (o_iload 2 15) := s_iload_n (by decide +kernel : decode cX13_placeOf 14 = .ok (.iload_n 2, 1)) rfl
theorem oX13_placeOf_15 : OpS mX13_placeOf 15 (o_iald 16) := s_iald (by decide +kernel : decode cX13_placeOf 15 = .ok (.iaload, 1))
theorem oX13_placeOf_16 : OpS mX13_placeOf 16 (o_iload 1 17) := s_iload_n (by decide +kernel : decode cX13_placeOf 16 = .ok (.iload_n 1, 1)) rfl
theorem oX13_placeOf_17 : OpS mX13_placeOf 17 (o_icmp (fun x y => x = y) 20 22) := s_icmp_ne (by decide +kernel : decode cX13_placeOf 17 = .ok (.if_icmp .ne 5, 3)) (by decide)
theorem oX13_placeOf_20 : OpS mX13_placeOf 20 (o_iload 2 21) := s_iload_n (by decide +kernel : decode cX13_placeOf 20 = .ok (.iload_n 2, 1)) rfl
theorem oX13_placeOf_21 : OpS mX13_placeOf 21 (o_iret) := s_iret rfl (by decide +kernel : decode cX13_placeOf 21 = .ok (.ireturn, 1))
theorem oX13_placeOf_22 : OpS mX13_placeOf 22 (o_iinc 2 3 1 25) := s_iinc (by decide +kernel : decode cX13_placeOf 22 = .ok (.iinc 2 1, 3)) (by decide) rfl
theorem oX13_placeOf_25 : OpS mX13_placeOf 25 (o_goto 2) := s_goto (by decide +kernel : decode cX13_placeOf 25 = .ok (.goto (-23), 3)) (by decide)
theorem oX13_placeOf_28 : OpS mX13_placeOf 28 (o_const (.int (-1)) 29) := s_iconst (by decide +kernel : decode cX13_placeOf 28 = .ok (.iconst (-1), 1)) (by decide)
theorem oX13_placeOf_29 : OpS mX13_placeOf 29 (o_iret) := s_iret rfl (by decide +kernel : decode cX13_placeOf 29 = .ok (.ireturn, 1))
theorem oX13_type_0 : OpS mX13_type 0 (o_aload 0 1) := s_aload_n (by decide +kernel : decode cX13_type 0 = .ok (.aload_n 0, 1)) rfl
theorem oX13_type_1 : OpS mX13_type 1 (o_const (.int 0) 2) := s_iconst (by decide +kernel : decode cX13_type 1 = .ok (.iconst 0, 1)) (by decide)
theorem oX13_type_2 : OpS mX13_type 2 (o_putI 13 0 5) := s_putI (k := 0) clsX13 (by decide) rfl (Or.inl ⟨wd_1244, Or.inl rfl⟩) (by decide +kernel : decode cX13_type 2 = .ok (.putfield 1, 3)) rfl rfl
theorem oX13_type_5 : OpS mX13_type 5 (o_iload 1 6) := s_iload_n (by decide +kernel : decode cX13_type 5 = .ok (.iload_n 1, 1)) rfl
theorem oX13_type_6 : OpS mX13_type 6 (o_const (.int 97) 8) := s_bipush (by decide +kernel : decode cX13_type 6 = .ok (.bipush 97, 2)) (by decide)
theorem oX13_type_8 : OpS mX13_type 8 (o_const (.int 122) 10) := s_bipush (by decide +kernel : decode cX13_type 8 = .ok (.bipush 122, 2)) (by decide)
theorem oX13_type_10 : OpS mX13_type 10 (o_callS mX13_isIn 3 13) := s_callS ceX13_isIn (Or.inl wd_1162) wd_1163 (by decide +kernel : decode cX13_type 10 = .ok (.invokestatic 22, 3))
theorem oX13_type_13 : OpS mX13_type 13 (o_if (fun x => x = 0) 16 22) := s_if_ne (by decide +kernel : decode cX13_type 13 = .ok (.ifCond .ne 9, 3)) (by decide)
theorem oX13_type_16 : OpS mX13_type 16 (o_aload 0 17) := s_aload_n (by decide +kernel : decode cX13_type 16 = .ok (.aload_n 0, 1)) rfl
theorem oX13_type_17 : OpS mX13_type 17 (o_const (.int 1) 18) := s_iconst (by decide +kernel : decode cX13_type 17 = .ok (.iconst 1, 1)) (by decide)
theorem oX13_type_18 : OpS mX13_type 18 (o_callV mX13_no 13 1 21) := s_callV ceX13_no clsX13 (Or.inl wd_1149) wd_1151 selX13_no (by decide +kernel : decode cX13_type 18 = .ok (.invokevirtual 10, 3))
theorem oX13_type_21 : OpS mX13_type 21 (o_iret) := s_iret rfl (by decide +kernel : decode cX13_type 21 = .ok (.ireturn, 1))
theorem oX13_type_22 : OpS mX13_type 22 (o_aload 0 23) := s_aload_n (by decide +kernel : decode cX13_type 22 = .ok (.aload_n 0, 1)) rfl
theorem oX13_type_23 : OpS mX13_type 23 (o_getI 13 18 26) := s_getI (k := 18) clsX13 (by decide) rfl (Or.inl wd_1262) (by decide +kernel : decode cX13_type 23 = .ok (.getfield 278, 3)) rfl
theorem oX13_type_26 : OpS mX13_type 26 (o_const (.int 20) 28) := s_bipush (by decide +kernel : decode cX13_type 26 = .ok (.bipush 20, 2)) (by decide)
theorem oX13_type_28 : OpS mX13_type 28 (o_icmp (fun x y => x = y) 31 37) := s_icmp_ne (by decide +kernel : decode cX13_type 28 = .ok (.if_icmp .ne 9, 3)) (by decide)
theorem oX13_type_31 : OpS mX13_type 31 (o_aload 0 32) := s_aload_n (by decide +kernel : decode cX13_type 31 = .ok (.aload_n 0, 1)) rfl
theorem oX13_type_32 : OpS mX13_type 32 (o_const (.int 2) 33) := s_iconst (by decide +kernel : decode cX13_type 32 = .ok (.iconst 2, 1)) (by decide)
theorem oX13_type_33 : OpS mX13_type 33 (o_callV mX13_no 13 1 36) := s_callV ceX13_no clsX13 (Or.inl wd_1149) wd_1151 selX13_no (by decide +kernel : decode cX13_type 33 = .ok (.invokevirtual 10, 3))
theorem oX13_type_36 : OpS mX13_type 36 (o_iret) := s_iret rfl (by decide +kernel : decode cX13_type 36 = .ok (.ireturn, 1))
theorem oX13_type_37 : OpS mX13_type 37 (o_aload 0 38) := s_aload_n (by decide +kernel : decode cX13_type 37 = .ok (.aload_n 0, 1)) rfl
theorem oX13_type_38 : OpS mX13_type 38 (o_getP 13 17 41) := s_getP (k := 17) clsX13 (by decide) rfl (Or.inl wd_1261) (by decide +kernel : decode cX13_type 38 = .ok (.getfield 100, 3)) rfl
theorem oX13_type_41 : OpS mX13_type 41 (o_aload 0 42) := s_aload_n (by decide +kernel : decode cX13_type 41 = .ok (.aload_n 0, 1)) rfl
theorem oX13_type_42 : OpS mX13_type 42 (o_getI 13 18 45) := s_getI (k := 18) clsX13 (by decide) rfl (Or.inl wd_1262) (by decide +kernel : decode cX13_type 42 = .ok (.getfield 278, 3)) rfl
theorem oX13_type_45 : OpS mX13_type 45 (o_iload 1 46) := s_iload_n (by decide +kernel : decode cX13_type 45 = .ok (.iload_n 1, 1)) rfl
theorem oX13_type_46 : OpS mX13_type 46 (o_iast 47) := s_iast (by decide +kernel : decode cX13_type 46 = .ok (.iastore, 1))
theorem oX13_type_47 : OpS mX13_type 47 (o_aload 0 48) := s_aload_n (by decide +kernel : decode cX13_type 47 = .ok (.aload_n 0, 1)) rfl
theorem oX13_type_48 : OpS mX13_type 48 (o_dup 49) := s_dup (by decide +kernel : decode cX13_type 48 = .ok (.dup, 1))
theorem oX13_type_49 : OpS mX13_type 49 (o_getI 13 18 52) := s_getI (k := 18) clsX13 (by decide) rfl (Or.inl wd_1262) (by decide +kernel : decode cX13_type 49 = .ok (.getfield 278, 3)) rfl
theorem oX13_type_52 : OpS mX13_type 52 (o_const (.int 1) 53) := s_iconst (by decide +kernel : decode cX13_type 52 = .ok (.iconst 1, 1)) (by decide)
theorem oX13_type_53 : OpS mX13_type 53 (o_ibin (fun x y => x + y) 54) := s_iadd (by decide +kernel : decode cX13_type 53 = .ok (.iadd, 1))
theorem oX13_type_54 : OpS mX13_type 54 (o_putI 13 18 57) := s_putI (k := 18) clsX13 (by decide) rfl (Or.inl ⟨wd_1262, Or.inl rfl⟩) (by decide +kernel : decode cX13_type 54 = .ok (.putfield 278, 3)) rfl rfl
theorem oX13_type_57 : OpS mX13_type 57 (o_aload 0 58) := s_aload_n (by decide +kernel : decode cX13_type 57 = .ok (.aload_n 0, 1)) rfl
theorem oX13_type_58 : OpS mX13_type 58 (o_getI 13 18 61) := s_getI (k := 18) clsX13 (by decide) rfl (Or.inl wd_1262) (by decide +kernel : decode cX13_type 58 = .ok (.getfield 278, 3)) rfl
theorem oX13_type_61 : OpS mX13_type 61 (o_iret) := s_iret rfl (by decide +kernel : decode cX13_type 61 = .ok (.ireturn, 1))
theorem oX13_back_0 : OpS mX13_back 0 (o_aload 0 1) := s_aload_n (by decide +kernel : decode cX13_back 0 = .ok (.aload_n 0, 1)) rfl
theorem oX13_back_1 : OpS mX13_back 1 (o_const (.int 0) 2) := s_iconst (by decide +kernel : decode cX13_back 1 = .ok (.iconst 0, 1)) (by decide)
theorem oX13_back_2 : OpS mX13_back 2 (o_putI 13 0 5) := s_putI (k := 0) clsX13 (by decide) rfl (Or.inl ⟨wd_1244, Or.inl rfl⟩) (by decide +kernel : decode cX13_back 2 = .ok (.putfield 1, 3)) rfl rfl
theorem oX13_back_5 : OpS mX13_back 5 (o_aload 0 6) := s_aload_n (by decide +kernel : decode cX13_back 5 = .ok (.aload_n 0, 1)) rfl
theorem oX13_back_6 : OpS mX13_back 6 (o_getI 13 18 9) := s_getI (k := 18) clsX13 (by decide) rfl (Or.inl wd_1262) (by decide +kernel : decode cX13_back 6 = .ok (.getfield 278, 3)) rfl
theorem oX13_back_9 : OpS mX13_back 9 (o_if (fun x => x = 0) 12 18) := s_if_ne (by decide +kernel : decode cX13_back 9 = .ok (.ifCond .ne 9, 3)) (by decide)
theorem oX13_back_12 : OpS mX13_back 12 (o_aload 0 13) := s_aload_n (by decide +kernel : decode cX13_back 12 = .ok (.aload_n 0, 1)) rfl
theorem oX13_back_13 : OpS mX13_back 13 (o_const (.int 1) 14) := s_iconst (by decide +kernel : decode cX13_back 13 = .ok (.iconst 1, 1)) (by decide)
theorem oX13_back_14 : OpS mX13_back 14 (o_callV mX13_no 13 1 17) := s_callV ceX13_no clsX13 (Or.inl wd_1149) wd_1151 selX13_no (by decide +kernel : decode cX13_back 14 = .ok (.invokevirtual 10, 3))
theorem oX13_back_17 : OpS mX13_back 17 (o_iret) := s_iret rfl (by decide +kernel : decode cX13_back 17 = .ok (.ireturn, 1))
theorem oX13_back_18 : OpS mX13_back 18 (o_aload 0 19) := s_aload_n (by decide +kernel : decode cX13_back 18 = .ok (.aload_n 0, 1)) rfl
theorem oX13_back_19 : OpS mX13_back 19 (o_dup 20) := s_dup (by decide +kernel : decode cX13_back 19 = .ok (.dup, 1))
theorem oX13_back_20 : OpS mX13_back 20 (o_getI 13 18 23) := s_getI (k := 18) clsX13 (by decide) rfl (Or.inl wd_1262) (by decide +kernel : decode cX13_back 20 = .ok (.getfield 278, 3)) rfl
theorem oX13_back_23 : OpS mX13_back 23 (o_const (.int 1) 24) := s_iconst (by decide +kernel : decode cX13_back 23 = .ok (.iconst 1, 1)) (by decide)
theorem oX13_back_24 : OpS mX13_back 24 (o_ibin (fun x y => x - y) 25) := s_isub (by decide +kernel : decode cX13_back 24 = .ok (.isub, 1))
theorem oX13_back_25 : OpS mX13_back 25 (o_putI 13 18 28) := s_putI (k := 18) clsX13 (by decide) rfl (Or.inl ⟨wd_1262, Or.inl rfl⟩) (by decide +kernel : decode cX13_back 25 = .ok (.putfield 278, 3)) rfl rfl
theorem oX13_back_28 : OpS mX13_back 28 (o_aload 0 29) := s_aload_n (by decide +kernel : decode cX13_back 28 = .ok (.aload_n 0, 1)) rfl
theorem oX13_back_29 : OpS mX13_back 29 (o_getP 13 17 32) := s_getP (k := 17) clsX13 (by decide) rfl (Or.inl wd_1261) (by decide +kernel : decode cX13_back 29 = .ok (.getfield 100, 3)) rfl
theorem oX13_back_32 : OpS mX13_back 32 (o_aload 0 33) := s_aload_n (by decide +kernel : decode cX13_back 32 = .ok (.aload_n 0, 1)) rfl
theorem oX13_back_33 : OpS mX13_back 33 (o_getI 13 18 36) := s_getI (k := 18) clsX13 (by decide) rfl (Or.inl wd_1262) (by decide +kernel : decode cX13_back 33 = .ok (.getfield 278, 3)) rfl
theorem oX13_back_36 : OpS mX13_back 36 (o_iald 37) := s_iald (by decide +kernel : decode cX13_back 36 = .ok (.iaload, 1))
theorem oX13_back_37 : OpS mX13_back 37 (o_iret) := s_iret rfl (by decide +kernel : decode cX13_back 37 = .ok (.ireturn, 1))
theorem oX13_choose_0 : OpS mX13_choose 0 (o_aload 0 1) := s_aload_n (by decide +kernel : decode cX13_choose 0 = .ok (.aload_n 0, 1)) rfl
theorem oX13_choose_1 : OpS mX13_choose 1 (o_getP 13 8 4) := s_getP (k := 8) clsX13 (by decide) rfl (Or.inl wd_1252) (by decide +kernel : decode cX13_choose 1 = .ok (.getfield 87, 3)) rfl
theorem oX13_choose_4 : OpS mX13_choose 4 (o_getP 12 6 7) := s_getP (k := 6) clsX12 (by decide) rfl (Or.inr ⟨_, wd_1189⟩) (by decide +kernel : decode cX13_choose 4 = .ok (.getfield 243, 3)) rfl
theorem oX13_choose_7 : OpS mX13_choose 7 (o_iload 1 8) := s_iload_n (by decide +kernel : decode cX13_choose 7 = .ok (.iload_n 1, 1)) rfl
theorem oX13_choose_8 : OpS mX13_choose 8 (o_const (.int 9999) 11) := s_sipush (by decide +kernel : decode cX13_choose 8 = .ok (.sipush 9999, 3)) (by decide)
theorem oX13_choose_11 : OpS mX13_choose 11 (o_aload 0 12) := s_aload_n (by decide +kernel : decode cX13_choose 11 = .ok (.aload_n 0, 1)) rfl
theorem oX13_choose_12 : OpS mX13_choose 12 (o_getP 13 8 15) := s_getP (k := 8) clsX13 (by decide) rfl (Or.inl wd_1252) (by decide +kernel : decode cX13_choose 12 = .ok (.getfield 87, 3)) rfl
theorem oX13_choose_15 : OpS mX13_choose 15 (o_getP 12 6 18) := s_getP (k := 6) clsX12 (by decide) rfl (Or.inr ⟨_, wd_1189⟩) (by decide +kernel : decode cX13_choose 15 = .ok (.getfield 243, 3)) rfl
theorem oX13_choose_18 : OpS mX13_choose 18 (o_iload 1 19) := s_iload_n (by decide +kernel : decode cX13_choose 18 = .ok (.iload_n 1, 1)) rfl
theorem oX13_choose_19 : OpS mX13_choose 19 (o_iald 20) := s_iald (by decide +kernel : decode cX13_choose 19 = .ok (.iaload, 1))
theorem oX13_choose_20 : OpS mX13_choose 20 (o_const (.int 5) 21) := s_iconst (by decide +kernel : decode cX13_choose 20 = .ok (.iconst 5, 1)) (by decide)
theorem oX13_choose_21 : OpS mX13_choose 21 (o_ibin (fun x y => x + y) 22) := s_iadd (by decide +kernel : decode cX13_choose 21 = .ok (.iadd, 1))
theorem oX13_choose_22 : OpS mX13_choose 22 (o_min 25) := s_min wd_1431 wd_472 wd_3 wd_473 (by decide +kernel : decode cX13_choose 22 = .ok (.invokestatic 258, 3))
theorem oX13_choose_25 : OpS mX13_choose 25 (o_iast 26) := s_iast (by decide +kernel : decode cX13_choose 25 = .ok (.iastore, 1))
theorem oX13_choose_26 : OpS mX13_choose 26 (o_aload 0 27) := s_aload_n (by decide +kernel : decode cX13_choose 26 = .ok (.aload_n 0, 1)) rfl
theorem oX13_choose_27 : OpS mX13_choose 27 (o_dup 28) := s_dup (by decide +kernel : decode cX13_choose 27 = .ok (.dup, 1))
theorem oX13_choose_28 : OpS mX13_choose 28 (o_getI 13 19 31) := s_getI (k := 19) clsX13 (by decide) rfl (Or.inl wd_1263) (by decide +kernel : decode cX13_choose 28 = .ok (.getfield 281, 3)) rfl
theorem oX13_choose_31 : OpS mX13_choose 31 (o_const (.int 1) 32) := s_iconst (by decide +kernel : decode cX13_choose 31 = .ok (.iconst 1, 1)) (by decide)
theorem oX13_choose_32 : OpS mX13_choose 32 (o_ibin (fun x y => x + y) 33) := s_iadd (by decide +kernel : decode cX13_choose 32 = .ok (.iadd, 1))
theorem oX13_choose_33 : OpS mX13_choose 33 (o_putI 13 19 36) := s_putI (k := 19) clsX13 (by decide) rfl (Or.inl ⟨wd_1263, Or.inl rfl⟩) (by decide +kernel : decode cX13_choose 33 = .ok (.putfield 281, 3)) rfl rfl
theorem oX13_choose_36 : OpS mX13_choose 36 (o_aload 0 37) := s_aload_n (by decide +kernel : decode cX13_choose 36 = .ok (.aload_n 0, 1)) rfl
theorem oX13_choose_37 : OpS mX13_choose 37 (o_iload 1 38) := s_iload_n (by decide +kernel : decode cX13_choose 37 = .ok (.iload_n 1, 1)) rfl
theorem oX13_choose_38 : OpS mX13_choose 38 (o_putI 13 20 41) := s_putI (k := 20) clsX13 (by decide) rfl (Or.inl ⟨wd_1264, Or.inl rfl⟩) (by decide +kernel : decode cX13_choose 38 = .ok (.putfield 103, 3)) rfl rfl
theorem oX13_choose_41 : OpS mX13_choose 41 (o_aload 0 42) := s_aload_n (by decide +kernel : decode cX13_choose 41 = .ok (.aload_n 0, 1)) rfl
theorem oX13_choose_42 : OpS mX13_choose 42 (o_const (.int 0) 43) := s_iconst (by decide +kernel : decode cX13_choose 42 = .ok (.iconst 0, 1)) (by decide)
theorem oX13_choose_43 : OpS mX13_choose 43 (o_putI 13 18 46) := s_putI (k := 18) clsX13 (by decide) rfl (Or.inl ⟨wd_1262, Or.inl rfl⟩) (by decide +kernel : decode cX13_choose 43 = .ok (.putfield 278, 3)) rfl rfl
theorem oX13_choose_46 : OpS mX13_choose 46 (o_const (.int 0) 47) := s_iconst (by decide +kernel : decode cX13_choose 46 = .ok (.iconst 0, 1)) (by decide)
theorem oX13_choose_47 : OpS mX13_choose 47 (o_istore 2 3 48) := s_istore_n (by decide +kernel : decode cX13_choose 47 = .ok (.istore_n 2, 1)) rfl rfl
theorem oX13_choose_48 : OpS mX13_choose 48 (o_iload 2 49) := s_iload_n (by decide +kernel : decode cX13_choose 48 = .ok (.iload_n 2, 1)) rfl
theorem oX13_choose_49 : OpS mX13_choose 49 (o_aload 0 50) := s_aload_n (by decide +kernel : decode cX13_choose 49 = .ok (.aload_n 0, 1)) rfl
theorem oX13_choose_50 : OpS mX13_choose 50 (o_getP 13 8 53) := s_getP (k := 8) clsX13 (by decide) rfl (Or.inl wd_1252) (by decide +kernel : decode cX13_choose 50 = .ok (.getfield 87, 3)) rfl
theorem oX13_choose_53 : OpS mX13_choose 53 (o_getI 12 1 56) := s_getI (k := 1) clsX12 (by decide) rfl (Or.inr ⟨_, wd_1179⟩) (by decide +kernel : decode cX13_choose 53 = .ok (.getfield 181, 3)) rfl
theorem oX13_choose_56 : OpS mX13_choose 56 (o_icmp (fun x y => y ≤ x) 99 59) := s_icmp_ge (by decide +kernel : decode cX13_choose 56 = .ok (.if_icmp .ge 43, 3)) (by decide)
theorem oX13_choose_59 : OpS mX13_choose 59 (o_aload 0 60) := s_aload_n (by decide +kernel : decode cX13_choose 59 = .ok (.aload_n 0, 1)) rfl
theorem oX13_choose_60 : OpS mX13_choose 60 (o_getI 13 19 63) := s_getI (k := 19) clsX13 (by decide) rfl (Or.inl wd_1263) (by decide +kernel : decode cX13_choose 60 = .ok (.getfield 281, 3)) rfl
theorem oX13_choose_63 : OpS mX13_choose 63 (o_const (.int 8) 65) := s_bipush (by decide +kernel : decode cX13_choose 63 = .ok (.bipush 8, 2)) (by decide)
theorem oX13_choose_65 : OpS mX13_choose 65 (o_irem 66) := s_irem (by decide +kernel : decode cX13_choose 65 = .ok (.irem, 1))
theorem oX13_choose_66 : OpS mX13_choose 66 (o_if (fun x => x = 0) 69 99) := s_if_ne (by decide +kernel : decode cX13_choose 66 = .ok (.ifCond .ne 33, 3)) (by decide)
theorem oX13_choose_69 : OpS mX13_choose 69 (o_aload 0 70) := s_aload_n (by decide +kernel : decode cX13_choose 69 = .ok (.aload_n 0, 1)) rfl
theorem oX13_choose_70 : OpS mX13_choose 70 (o_getP 13 8 73) := s_getP (k := 8) clsX13 (by decide) rfl (Or.inl wd_1252) (by decide +kernel : decode cX13_choose 70 = .ok (.getfield 87, 3)) rfl
theorem oX13_choose_73 : OpS mX13_choose 73 (o_getP 12 6 76) := s_getP (k := 6) clsX12 (by decide) rfl (Or.inr ⟨_, wd_1189⟩) (by decide +kernel : decode cX13_choose 73 = .ok (.getfield 243, 3)) rfl
theorem oX13_choose_76 : OpS mX13_choose 76 (o_iload 2 77) := s_iload_n (by decide +kernel : decode cX13_choose 76 = .ok (.iload_n 2, 1)) rfl
theorem oX13_choose_77 : OpS mX13_choose 77 (o_dup2 78) := s_dup2 (by decide +kernel : decode cX13_choose 77 = .ok (.dup2, 1))
theorem oX13_choose_78 : OpS mX13_choose 78 (o_iald 79) := s_iald (by decide +kernel : decode cX13_choose 78 = .ok (.iaload, 1))
theorem oX13_choose_79 : OpS mX13_choose 79 (o_aload 0 80) := s_aload_n (by decide +kernel : decode cX13_choose 79 = .ok (.aload_n 0, 1)) rfl
theorem oX13_choose_80 : OpS mX13_choose 80 (o_getP 13 8 83) := s_getP (k := 8) clsX13 (by decide) rfl (Or.inl wd_1252) (by decide +kernel : decode cX13_choose 80 = .ok (.getfield 87, 3)) rfl
theorem oX13_choose_83 : OpS mX13_choose 83 (o_getP 12 6 86) := s_getP (k := 6) clsX12 (by decide) rfl (Or.inr ⟨_, wd_1189⟩) (by decide +kernel : decode cX13_choose 83 = .ok (.getfield 243, 3)) rfl
theorem oX13_choose_86 : OpS mX13_choose 86 (o_iload 2 87) := s_iload_n (by decide +kernel : decode cX13_choose 86 = .ok (.iload_n 2, 1)) rfl
theorem oX13_choose_87 : OpS mX13_choose 87 (o_iald 88) := s_iald (by decide +kernel : decode cX13_choose 87 = .ok (.iaload, 1))
theorem oX13_choose_88 : OpS mX13_choose 88 (o_const (.int 8) 90) := s_bipush (by decide +kernel : decode cX13_choose 88 = .ok (.bipush 8, 2)) (by decide)
theorem oX13_choose_90 : OpS mX13_choose 90 (o_idiv 91) := s_idiv (by decide +kernel : decode cX13_choose 90 = .ok (.idiv, 1))
theorem oX13_choose_91 : OpS mX13_choose 91 (o_ibin (fun x y => x - y) 92) := s_isub (by decide +kernel : decode cX13_choose 91 = .ok (.isub, 1))
theorem oX13_choose_92 : OpS mX13_choose 92 (o_iast 93) := s_iast (by decide +kernel : decode cX13_choose 92 = .ok (.iastore, 1))
theorem oX13_choose_93 : OpS mX13_choose 93 (o_iinc 2 3 1 96) := s_iinc (by decide +kernel : decode cX13_choose 93 = .ok (.iinc 2 1, 3)) (by decide) rfl
theorem oX13_choose_96 : OpS mX13_choose 96 (o_goto 48) := s_goto (by decide +kernel : decode cX13_choose 96 = .ok (.goto (-48), 3)) (by decide)
theorem oX13_choose_99 : OpS mX13_choose 99 (o_iload 1 100) := s_iload_n (by decide +kernel : decode cX13_choose 99 = .ok (.iload_n 1, 1)) rfl
theorem oX13_choose_100 : OpS mX13_choose 100 (o_iret) := s_iret rfl (by decide +kernel : decode cX13_choose 100 = .ok (.ireturn, 1))
theorem oX13_take__0 : OpS mX13_take_ 0 (o_aload 0 1) := s_aload_n (by decide +kernel : decode cX13_take_ 0 = .ok (.aload_n 0, 1)) rfl
theorem oX13_take__1 : OpS mX13_take_ 1 (o_const (.int 0) 2) := s_iconst (by decide +kernel : decode cX13_take_ 1 = .ok (.iconst 0, 1)) (by decide)
theorem oX13_take__2 : OpS mX13_take_ 2 (o_putI 13 0 5) := s_putI (k := 0) clsX13 (by decide) rfl (Or.inl ⟨wd_1244, Or.inl rfl⟩) (by decide +kernel : decode cX13_take_ 2 = .ok (.putfield 1, 3)) rfl rfl
theorem oX13_take__5 : OpS mX13_take_ 5 (o_iload 1 6) := s_iload_n (by decide +kernel : decode cX13_take_ 5 = .ok (.iload_n 1, 1)) rfl
theorem oX13_take__6 : OpS mX13_take_ 6 (o_const (.int 0) 7) := s_iconst (by decide +kernel : decode cX13_take_ 6 = .ok (.iconst 0, 1)) (by decide)
theorem oX13_take__7 : OpS mX13_take_ 7 (o_const (.int 4) 8) := s_iconst (by decide +kernel : decode cX13_take_ 7 = .ok (.iconst 4, 1)) (by decide)
theorem oX13_take__8 : OpS mX13_take_ 8 (o_callS mX13_isIn 3 11) := s_callS ceX13_isIn (Or.inl wd_1162) wd_1163 (by decide +kernel : decode cX13_take_ 8 = .ok (.invokestatic 22, 3))
theorem oX13_take__11 : OpS mX13_take_ 11 (o_if (fun x => x = 0) 14 20) := s_if_ne (by decide +kernel : decode cX13_take_ 11 = .ok (.ifCond .ne 9, 3)) (by decide)
theorem oX13_take__14 : OpS mX13_take_ 14 (o_aload 0 15) := s_aload_n (by decide +kernel : decode cX13_take_ 14 = .ok (.aload_n 0, 1)) rfl
theorem oX13_take__15 : OpS mX13_take_ 15 (o_const (.int 1) 16) := s_iconst (by decide +kernel : decode cX13_take_ 15 = .ok (.iconst 1, 1)) (by decide)
theorem oX13_take__16 : OpS mX13_take_ 16 (o_callV mX13_no 13 1 19) := s_callV ceX13_no clsX13 (Or.inl wd_1149) wd_1151 selX13_no (by decide +kernel : decode cX13_take_ 16 = .ok (.invokevirtual 10, 3))
theorem oX13_take__19 : OpS mX13_take_ 19 (o_iret) := s_iret rfl (by decide +kernel : decode cX13_take_ 19 = .ok (.ireturn, 1))
theorem oX13_take__20 : OpS mX13_take_ 20 (o_aload 0 21) := s_aload_n (by decide +kernel : decode cX13_take_ 20 = .ok (.aload_n 0, 1)) rfl
theorem oX13_take__21 : OpS mX13_take_ 21 (o_callV mX13_look 13 0 24) := s_callV ceX13_look clsX13 (Or.inl wd_1501) wd_1503 selX13_look (by decide +kernel : decode cX13_take_ 21 = .ok (.invokevirtual 328, 3))
theorem oX13_take__24 : OpS mX13_take_ 24 (o_iload 1 25) := s_iload_n (by decide +kernel : decode cX13_take_ 24 = .ok (.iload_n 1, 1)) rfl
theorem oX13_take__25 : OpS mX13_take_ 25 (o_aload 0 26) := s_aload_n (by decide +kernel : decode cX13_take_ 25 = .ok (.aload_n 0, 1)) rfl
theorem oX13_take__26 : OpS mX13_take_ 26 (o_getI 13 27 29) := s_getI (k := 27) clsX13 (by decide) rfl (Or.inl wd_1271) (by decide +kernel : decode cX13_take_ 26 = .ok (.getfield 316, 3)) rfl
theorem oX13_take__29 : OpS mX13_take_ 29 (o_icmp (fun x y => y ≤ x) 45 32) := s_icmp_ge (by decide +kernel : decode cX13_take_ 29 = .ok (.if_icmp .ge 16, 3)) (by decide)
theorem oX13_take__32 : OpS mX13_take_ 32 (o_aload 0 33) := s_aload_n (by decide +kernel : decode cX13_take_ 32 = .ok (.aload_n 0, 1)) rfl
theorem oX13_take__33 : OpS mX13_take_ 33 (o_aload 0 34) := s_aload_n (by decide +kernel : decode cX13_take_ 33 = .ok (.aload_n 0, 1)) rfl
theorem oX13_take__34 : OpS mX13_take_ 34 (o_getP 13 26 37) := s_getP (k := 26) clsX13 (by decide) rfl (Or.inl wd_1270) (by decide +kernel : decode cX13_take_ 34 = .ok (.getfield 121, 3)) rfl
theorem oX13_take__37 : OpS mX13_take_ 37 (o_iload 1 38) := s_iload_n (by decide +kernel : decode cX13_take_ 37 = .ok (.iload_n 1, 1)) rfl
theorem oX13_take__38 : OpS mX13_take_ 38 (o_iald 39) := s_iald (by decide +kernel : decode cX13_take_ 38 = .ok (.iaload, 1))
theorem oX13_take__39 : OpS mX13_take_ 39 (o_callV mX13_choose 13 1 42) := s_callV ceX13_choose clsX13 (Or.inl wd_1545) wd_1547 selX13_choose (by decide +kernel : decode cX13_take_ 39 = .ok (.invokevirtual 331, 3))
theorem oX13_take__42 : OpS mX13_take_ 42 (o_goto 50) := s_goto (by decide +kernel : decode cX13_take_ 42 = .ok (.goto 8, 3)) (by decide)
theorem oX13_take__45 : OpS mX13_take_ 45 (o_aload 0 46) := s_aload_n (by decide +kernel : decode cX13_take_ 45 = .ok (.aload_n 0, 1)) rfl
theorem oX13_take__46 : OpS mX13_take_ 46 (o_const (.int 2) 47) := s_iconst (by decide +kernel : decode cX13_take_ 46 = .ok (.iconst 2, 1)) (by decide)
theorem oX13_take__47 : OpS mX13_take_ 47 (o_callV mX13_no 13 1 50) := s_callV ceX13_no clsX13 (Or.inl wd_1149) wd_1151 selX13_no (by decide +kernel : decode cX13_take_ 47 = .ok (.invokevirtual 10, 3))
theorem oX13_take__50 : OpS mX13_take_ 50 (o_iret) := s_iret rfl (by decide +kernel : decode cX13_take_ 50 = .ok (.ireturn, 1))
theorem oX13_isBeginning_0 : OpS mX13_isBeginning 0 (o_aload 0 1) := s_aload_n (by decide +kernel : decode cX13_isBeginning 0 = .ok (.aload_n 0, 1)) rfl
theorem oX13_isBeginning_1 : OpS mX13_isBeginning 1 (o_getI 13 18 4) := s_getI (k := 18) clsX13 (by decide) rfl (Or.inl wd_1262) (by decide +kernel : decode cX13_isBeginning 1 = .ok (.getfield 278, 3)) rfl
theorem oX13_isBeginning_4 : OpS mX13_isBeginning 4 (o_aload 0 5) := s_aload_n (by decide +kernel : decode cX13_isBeginning 4 = .ok (.aload_n 0, 1)) rfl
theorem oX13_isBeginning_5 : OpS mX13_isBeginning 5 (o_getP 13 8 8) := s_getP (k := 8) clsX13 (by decide) rfl (Or.inl wd_1252) (by decide +kernel : decode cX13_isBeginning 5 = .ok (.getfield 87, 3)) rfl
theorem oX13_isBeginning_8 : OpS mX13_isBeginning 8 (o_getP 12 5 11) := s_getP (k := 5) clsX12 (by decide) rfl (Or.inr ⟨_, wd_1187⟩) (by decide +kernel : decode cX13_isBeginning 8 = .ok (.getfield 242, 3)) rfl
theorem oX13_isBeginning_11 : OpS mX13_isBeginning 11 (o_iload 1 12) := s_iload_n (by decide +kernel : decode cX13_isBeginning 11 = .ok (.iload_n 1, 1)) rfl
theorem oX13_isBeginning_12 : OpS mX13_isBeginning 12 (o_iald 13) := s_iald (by decide +kernel : decode cX13_isBeginning 12 = .ok (.iaload, 1))
theorem oX13_isBeginning_13 : OpS mX13_isBeginning 13 (o_icmp (fun x y => x ≤ y) 18 16) := s_icmp_le (by decide +kernel : decode cX13_isBeginning 13 = .ok (.if_icmp .le 5, 3)) (by decide)
theorem oX13_isBeginning_16 : OpS mX13_isBeginning 16 (o_const (.int 0) 17) := s_iconst (by decide +kernel : decode cX13_isBeginning 16 = .ok (.iconst 0, 1)) (by decide)
theorem oX13_isBeginning_17 : OpS mX13_isBeginning 17 (o_zret) := s_zret rfl (by decide +kernel : decode cX13_isBeginning 17 = .ok (.ireturn, 1))
theorem oX13_isBeginning_18 : OpS mX13_isBeginning 18 (o_const (.int 0) 19) := s_iconst (by decide +kernel : decode cX13_isBeginning 18 = .ok (.iconst 0, 1)) (by decide)
theorem oX13_isBeginning_19 : OpS mX13_isBeginning 19 (o_istore 2 3 20) := s_istore_n (by decide +kernel : decode cX13_isBeginning 19 = .ok (.istore_n 2, 1)) rfl rfl
theorem oX13_isBeginning_20 : OpS mX13_isBeginning 20 (o_iload 2 21) := s_iload_n (by decide +kernel : decode cX13_isBeginning 20 = .ok (.iload_n 2, 1)) rfl
theorem oX13_isBeginning_21 : OpS mX13_isBeginning 21 (o_aload 0 22) := s_aload_n (by decide +kernel : decode cX13_isBeginning 21 = .ok (.aload_n 0, 1)) rfl
theorem oX13_isBeginning_22 : OpS mX13_isBeginning 22 (o_getI 13 18 25) := s_getI (k := 18) clsX13 (by decide) rfl (Or.inl wd_1262) (by decide +kernel : decode cX13_isBeginning 22 = .ok (.getfield 278, 3)) rfl
theorem oX13_isBeginning_25 : OpS mX13_isBeginning 25 (o_icmp (fun x y => y ≤ x) 54 28) := s_icmp_ge (by decide +kernel : decode cX13_isBeginning 25 = .ok (.if_icmp .ge 29, 3)) (by decide)
theorem oX13_isBeginning_28 : OpS mX13_isBeginning 28 (o_aload 0 29) := s_aload_n (by decide +kernel : decode cX13_isBeginning 28 = .ok (.aload_n 0, 1)) rfl
theorem oX13_isBeginning_29 : OpS mX13_isBeginning 29 (o_getP 13 8 32) := s_getP (k := 8) clsX13 (by decide) rfl (Or.inl wd_1252) (by decide +kernel : decode cX13_isBeginning 29 = .ok (.getfield 87, 3)) rfl
theorem oX13_isBeginning_32 : OpS mX13_isBeginning 32 (o_iload 1 33) := s_iload_n (by decide +kernel : decode cX13_isBeginning 32 = .ok (.iload_n 1, 1)) rfl
theorem oX13_isBeginning_33 : OpS mX13_isBeginning 33 (o_iload 2 34) := s_iload_n (by decide +kernel : decode cX13_isBeginning 33 = .ok (.iload_n 2, 1)) rfl
theorem oX13_isBeginning_34 : OpS mX13_isBeginning 34 (o_callV mX12_byteOf 12 2 37) := s_callV ceX12_byteOf clsX12 (Or.inl wd_1509) wd_1510 selX12_byteOf (by decide +kernel : decode cX13_isBeginning 34 = .ok (.invokevirtual 290, 3))
theorem oX13_isBeginning_37 : OpS mX13_isBeginning 37 (o_aload 0 38) := s_aload_n (by decide +kernel : decode cX13_isBeginning 37 = .ok (.aload_n 0, 1)) rfl
theorem oX13_isBeginning_38 : OpS mX13_isBeginning 38 (o_getP 13 17 41) := s_getP (k := 17) clsX13 (by decide) rfl (Or.inl wd_1261) (by decide +kernel : decode cX13_isBeginning 38 = .ok (.getfield 100, 3)) rfl
theorem oX13_isBeginning_41 : OpS mX13_isBeginning 41 (o_iload 2 42) := s_iload_n (by decide +kernel : decode cX13_isBeginning 41 = .ok (.iload_n 2, 1)) rfl
theorem oX13_isBeginning_42 : OpS mX13_isBeginning 42 (o_iald 43) := s_iald (by decide +kernel : decode cX13_isBeginning 42 = .ok (.iaload, 1))
theorem oX13_isBeginning_43 : OpS mX13_isBeginning 43 (o_icmp (fun x y => x = y) 48 46) := s_icmp_eq (by decide +kernel : decode cX13_isBeginning 43 = .ok (.if_icmp .eq 5, 3)) (by decide)
theorem oX13_isBeginning_46 : OpS mX13_isBeginning 46 (o_const (.int 0) 47) := s_iconst (by decide +kernel : decode cX13_isBeginning 46 = .ok (.iconst 0, 1)) (by decide)
theorem oX13_isBeginning_47 : OpS mX13_isBeginning 47 (o_zret) := s_zret rfl (by decide +kernel : decode cX13_isBeginning 47 = .ok (.ireturn, 1))
theorem oX13_isBeginning_48 : OpS mX13_isBeginning 48 (o_iinc 2 3 1 51) := s_iinc (by decide +kernel : decode cX13_isBeginning 48 = .ok (.iinc 2 1, 3)) (by decide) rfl
theorem oX13_isBeginning_51 : OpS mX13_isBeginning 51 (o_goto 20) := s_goto (by decide +kernel : decode cX13_isBeginning 51 = .ok (.goto (-31), 3)) (by decide)
theorem oX13_isBeginning_54 : OpS mX13_isBeginning 54 (o_const (.int 1) 55) := s_iconst (by decide +kernel : decode cX13_isBeginning 54 = .ok (.iconst 1, 1)) (by decide)
theorem oX13_isBeginning_55 : OpS mX13_isBeginning 55 (o_zret) := s_zret rfl (by decide +kernel : decode cX13_isBeginning 55 = .ok (.ireturn, 1))
theorem oX13_say_0 : OpS mX13_say 0 (o_aload 0 1) := s_aload_n (by decide +kernel : decode cX13_say 0 = .ok (.aload_n 0, 1)) rfl
theorem oX13_say_1 : OpS mX13_say 1 (o_const (.int 0) 2) := s_iconst (by decide +kernel : decode cX13_say 1 = .ok (.iconst 0, 1)) (by decide)
theorem oX13_say_2 : OpS mX13_say 2 (o_putI 13 0 5) := s_putI (k := 0) clsX13 (by decide) rfl (Or.inl ⟨wd_1244, Or.inl rfl⟩) (by decide +kernel : decode cX13_say 2 = .ok (.putfield 1, 3)) rfl rfl
theorem oX13_say_5 : OpS mX13_say 5 (o_aload 0 6) := s_aload_n (by decide +kernel : decode cX13_say 5 = .ok (.aload_n 0, 1)) rfl
theorem oX13_say_6 : OpS mX13_say 6 (o_getI 13 18 9) := s_getI (k := 18) clsX13 (by decide) rfl (Or.inl wd_1262) (by decide +kernel : decode cX13_say 6 = .ok (.getfield 278, 3)) rfl
theorem oX13_say_9 : OpS mX13_say 9 (o_if (fun x => x = 0) 21 12) := s_if_eq (by decide +kernel : decode cX13_say 9 = .ok (.ifCond .eq 12, 3)) (by decide)
theorem oX13_say_12 : OpS mX13_say 12 (o_aload 0 13) := s_aload_n (by decide +kernel : decode cX13_say 12 = .ok (.aload_n 0, 1)) rfl
theorem oX13_say_13 : OpS mX13_say 13 (o_getI 13 18 16) := s_getI (k := 18) clsX13 (by decide) rfl (Or.inl wd_1262) (by decide +kernel : decode cX13_say 13 = .ok (.getfield 278, 3)) rfl
theorem oX13_say_16 : OpS mX13_say 16 (o_const (.int 10) 18) := s_bipush (by decide +kernel : decode cX13_say 16 = .ok (.bipush 10, 2)) (by decide)
theorem oX13_say_18 : OpS mX13_say 18 (o_icmp (fun x y => x ≤ y) 27 21) := s_icmp_le (by decide +kernel : decode cX13_say 18 = .ok (.if_icmp .le 9, 3)) (by decide)
theorem oX13_say_21 : OpS mX13_say 21 (o_aload 0 22) := s_aload_n (by decide +kernel : decode cX13_say 21 = .ok (.aload_n 0, 1)) rfl
theorem oX13_say_22 : OpS mX13_say 22 (o_const (.int 1) 23) := s_iconst (by decide +kernel : decode cX13_say 22 = .ok (.iconst 1, 1)) (by decide)
theorem oX13_say_23 : OpS mX13_say 23 (o_callV mX13_no 13 1 26) := s_callV ceX13_no clsX13 (Or.inl wd_1149) wd_1151 selX13_no (by decide +kernel : decode cX13_say 23 = .ok (.invokevirtual 10, 3))
theorem oX13_say_26 : OpS mX13_say 26 (o_iret) := s_iret rfl (by decide +kernel : decode cX13_say 26 = .ok (.ireturn, 1))
theorem oX13_say_27 : OpS mX13_say 27 (o_const (.int 0) 28) := s_iconst (by decide +kernel : decode cX13_say 27 = .ok (.iconst 0, 1)) (by decide)
theorem oX13_say_28 : OpS mX13_say 28 (o_istore 1 3 29) := s_istore_n (by decide +kernel : decode cX13_say 28 = .ok (.istore_n 1, 1)) rfl rfl
theorem oX13_say_29 : OpS mX13_say 29 (o_iload 1 30) := s_iload_n (by decide +kernel : decode cX13_say 29 = .ok (.iload_n 1, 1)) rfl
theorem oX13_say_30 : OpS mX13_say 30 (o_aload 0 31) := s_aload_n (by decide +kernel : decode cX13_say 30 = .ok (.aload_n 0, 1)) rfl
theorem oX13_say_31 : OpS mX13_say 31 (o_getP 13 8 34) := s_getP (k := 8) clsX13 (by decide) rfl (Or.inl wd_1252) (by decide +kernel : decode cX13_say 31 = .ok (.getfield 87, 3)) rfl
theorem oX13_say_34 : OpS mX13_say 34 (o_getI 12 1 37) := s_getI (k := 1) clsX12 (by decide) rfl (Or.inr ⟨_, wd_1179⟩) (by decide +kernel : decode cX13_say 34 = .ok (.getfield 181, 3)) rfl
theorem oX13_say_37 : OpS mX13_say 37 (o_icmp (fun x y => y ≤ x) 76 40) := s_icmp_ge (by decide +kernel : decode cX13_say 37 = .ok (.if_icmp .ge 39, 3)) (by decide)
theorem oX13_say_40 : OpS mX13_say 40 (o_aload 0 41) := s_aload_n (by decide +kernel : decode cX13_say 40 = .ok (.aload_n 0, 1)) rfl
theorem oX13_say_41 : OpS mX13_say 41 (o_iload 1 42) := s_iload_n (by decide +kernel : decode cX13_say 41 = .ok (.iload_n 1, 1)) rfl
theorem oX13_say_42 : OpS mX13_say 42 (o_callV mX13_isBeginning 13 1 45) := s_callV ceX13_isBeginning clsX13 (Or.inl wd_1553) wd_1555 selX13_isBeginning (by decide +kernel : decode cX13_say 42 = .ok (.invokevirtual 334, 3))
theorem oX13_say_45 : OpS mX13_say 45 (o_if (fun x => x = 0) 70 48) := s_if_eq (by decide +kernel : decode cX13_say 45 = .ok (.ifCond .eq 25, 3)) (by decide)
theorem oX13_say_48 : OpS mX13_say 48 (o_aload 0 49) := s_aload_n (by decide +kernel : decode cX13_say 48 = .ok (.aload_n 0, 1)) rfl
theorem oX13_say_49 : OpS mX13_say 49 (o_getP 13 8 52) := s_getP (k := 8) clsX13 (by decide) rfl (Or.inl wd_1252) (by decide +kernel : decode cX13_say 49 = .ok (.getfield 87, 3)) rfl
theorem oX13_say_52 : OpS mX13_say 52 (o_getP 12 5 55) := s_getP (k := 5) clsX12 (by decide) rfl (Or.inr ⟨_, wd_1187⟩) (by decide +kernel : decode cX13_say 52 = .ok (.getfield 242, 3)) rfl
theorem oX13_say_55 : OpS mX13_say 55 (o_iload 1 56) := s_iload_n (by decide +kernel : decode cX13_say 55 = .ok (.iload_n 1, 1)) rfl
theorem oX13_say_56 : OpS mX13_say 56 (o_iald 57) := s_iald (by decide +kernel : decode cX13_say 56 = .ok (.iaload, 1))
theorem oX13_say_57 : OpS mX13_say 57 (o_aload 0 58) := s_aload_n (by decide +kernel : decode cX13_say 57 = .ok (.aload_n 0, 1)) rfl
theorem oX13_say_58 : OpS mX13_say 58 (o_getI 13 18 61) := s_getI (k := 18) clsX13 (by decide) rfl (Or.inl wd_1262) (by decide +kernel : decode cX13_say 58 = .ok (.getfield 278, 3)) rfl
theorem oX13_say_61 : OpS mX13_say 61 (o_icmp (fun x y => x = y) 64 70) := s_icmp_ne (by decide +kernel : decode cX13_say 61 = .ok (.if_icmp .ne 9, 3)) (by decide)
theorem oX13_say_64 : OpS mX13_say 64 (o_aload 0 65) := s_aload_n (by decide +kernel : decode cX13_say 64 = .ok (.aload_n 0, 1)) rfl
theorem oX13_say_65 : OpS mX13_say 65 (o_iload 1 66) := s_iload_n (by decide +kernel : decode cX13_say 65 = .ok (.iload_n 1, 1)) rfl
theorem oX13_say_66 : OpS mX13_say 66 (o_callV mX13_choose 13 1 69) := s_callV ceX13_choose clsX13 (Or.inl wd_1545) wd_1547 selX13_choose (by decide +kernel : decode cX13_say 66 = .ok (.invokevirtual 331, 3))
theorem oX13_say_69 : OpS mX13_say 69 (o_iret) := s_iret rfl (by decide +kernel : decode cX13_say 69 = .ok (.ireturn, 1))
theorem oX13_say_70 : OpS mX13_say 70 (o_iinc 1 3 1 73) := s_iinc (by decide +kernel : decode cX13_say 70 = .ok (.iinc 1 1, 3)) (by decide) rfl
theorem oX13_say_73 : OpS mX13_say 73 (o_goto 29) := s_goto (by decide +kernel : decode cX13_say 73 = .ok (.goto (-44), 3)) (by decide)
theorem oX13_say_76 : OpS mX13_say 76 (o_aload 0 77) := s_aload_n (by decide +kernel : decode cX13_say 76 = .ok (.aload_n 0, 1)) rfl
theorem oX13_say_77 : OpS mX13_say 77 (o_getP 13 8 80) := s_getP (k := 8) clsX13 (by decide) rfl (Or.inl wd_1252) (by decide +kernel : decode cX13_say 77 = .ok (.getfield 87, 3)) rfl
theorem oX13_say_80 : OpS mX13_say 80 (o_getI 12 1 83) := s_getI (k := 1) clsX12 (by decide) rfl (Or.inr ⟨_, wd_1179⟩) (by decide +kernel : decode cX13_say 80 = .ok (.getfield 181, 3)) rfl
theorem oX13_say_83 : OpS mX13_say 83 (o_const (.int 40) 85) := s_bipush (by decide +kernel : decode cX13_say 83 = .ok (.bipush 40, 2)) (by decide)
theorem oX13_say_85 : OpS mX13_say 85 (o_icmp (fun x y => x = y) 88 94) := s_icmp_ne (by decide +kernel : decode cX13_say 85 = .ok (.if_icmp .ne 9, 3)) (by decide)
theorem oX13_say_88 : OpS mX13_say 88 (o_aload 0 89) := s_aload_n (by decide +kernel : decode cX13_say 88 = .ok (.aload_n 0, 1)) rfl
theorem oX13_say_89 : OpS mX13_say 89 (o_const (.int 1) 90) := s_iconst (by decide +kernel : decode cX13_say 89 = .ok (.iconst 1, 1)) (by decide)
theorem oX13_say_90 : OpS mX13_say 90 (o_callV mX13_no 13 1 93) := s_callV ceX13_no clsX13 (Or.inl wd_1149) wd_1151 selX13_no (by decide +kernel : decode cX13_say 90 = .ok (.invokevirtual 10, 3))
theorem oX13_say_93 : OpS mX13_say 93 (o_iret) := s_iret rfl (by decide +kernel : decode cX13_say 93 = .ok (.ireturn, 1))
theorem oX13_say_94 : OpS mX13_say 94 (o_aload 0 95) := s_aload_n (by decide +kernel : decode cX13_say 94 = .ok (.aload_n 0, 1)) rfl
theorem oX13_say_95 : OpS mX13_say 95 (o_getP 13 8 98) := s_getP (k := 8) clsX13 (by decide) rfl (Or.inl wd_1252) (by decide +kernel : decode cX13_say 95 = .ok (.getfield 87, 3)) rfl
theorem oX13_say_98 : OpS mX13_say 98 (o_getI 12 1 101) := s_getI (k := 1) clsX12 (by decide) rfl (Or.inr ⟨_, wd_1179⟩) (by decide +kernel : decode cX13_say 98 = .ok (.getfield 181, 3)) rfl
theorem oX13_say_101 : OpS mX13_say 101 (o_istore 1 3 102) := s_istore_n (by decide +kernel : decode cX13_say 101 = .ok (.istore_n 1, 1)) rfl rfl
theorem oX13_say_102 : OpS mX13_say 102 (o_const (.int 0) 103) := s_iconst (by decide +kernel : decode cX13_say 102 = .ok (.iconst 0, 1)) (by decide)
theorem oX13_say_103 : OpS mX13_say 103 (o_istore 2 3 104) := s_istore_n (by decide +kernel : decode cX13_say 103 = .ok (.istore_n 2, 1)) rfl rfl
theorem oX13_say_104 : OpS mX13_say 104 (o_iload 2 105) := s_iload_n (by decide +kernel : decode cX13_say 104 = .ok (.iload_n 2, 1)) rfl
theorem oX13_say_105 : OpS mX13_say 105 (o_aload 0 106) := s_aload_n (by decide +kernel : decode cX13_say 105 = .ok (.aload_n 0, 1)) rfl
theorem oX13_say_106 : OpS mX13_say 106 (o_getI 13 18 109) := s_getI (k := 18) clsX13 (by decide) rfl (Or.inl wd_1262) (by decide +kernel : decode cX13_say 106 = .ok (.getfield 278, 3)) rfl
theorem oX13_say_109 : OpS mX13_say 109 (o_icmp (fun x y => y ≤ x) 138 112) := s_icmp_ge (by decide +kernel : decode cX13_say 109 = .ok (.if_icmp .ge 29, 3)) (by decide)
theorem oX13_say_112 : OpS mX13_say 112 (o_aload 0 113) := s_aload_n (by decide +kernel : decode cX13_say 112 = .ok (.aload_n 0, 1)) rfl
theorem oX13_say_113 : OpS mX13_say 113 (o_getP 13 8 116) := s_getP (k := 8) clsX13 (by decide) rfl (Or.inl wd_1252) (by decide +kernel : decode cX13_say 113 = .ok (.getfield 87, 3)) rfl
theorem oX13_say_116 : OpS mX13_say 116 (o_getP 12 4 119) := s_getP (k := 4) clsX12 (by decide) rfl (Or.inr ⟨_, wd_1185⟩) (by decide +kernel : decode cX13_say 116 = .ok (.getfield 239, 3)) rfl
theorem oX13_say_119 : OpS mX13_say 119 (o_const (.int 10) 121) := s_bipush (by decide +kernel : decode cX13_say 119 = .ok (.bipush 10, 2)) (by decide)
theorem oX13_say_121 : OpS mX13_say 121 (o_iload 1 122) := s_iload_n (by decide +kernel : decode cX13_say 121 = .ok (.iload_n 1, 1)) rfl
theorem oX13_say_122 : OpS mX13_say 122 (o_ibin (fun x y => x * y) 123) := s_imul (by decide +kernel : decode cX13_say 122 = .ok (.imul, 1))
theorem oX13_say_123 : OpS mX13_say 123 (o_iload 2 124) := s_iload_n (by decide +kernel : decode cX13_say 123 = .ok (.iload_n 2, 1)) rfl
theorem oX13_say_124 : OpS mX13_say 124 (o_ibin (fun x y => x + y) 125) := s_iadd (by decide +kernel : decode cX13_say 124 = .ok (.iadd, 1))
theorem oX13_say_125 : OpS mX13_say 125 (o_aload 0 126) := s_aload_n (by decide +kernel : decode cX13_say 125 = .ok (.aload_n 0, 1)) rfl
theorem oX13_say_126 : OpS mX13_say 126 (o_getP 13 17 129) := s_getP (k := 17) clsX13 (by decide) rfl (Or.inl wd_1261) (by decide +kernel : decode cX13_say 126 = .ok (.getfield 100, 3)) rfl
theorem oX13_say_129 : OpS mX13_say 129 (o_iload 2 130) := s_iload_n (by decide +kernel : decode cX13_say 129 = .ok (.iload_n 2, 1)) rfl
theorem oX13_say_130 : OpS mX13_say 130 (o_iald 131) := s_iald (by decide +kernel : decode cX13_say 130 = .ok (.iaload, 1))
theorem oX13_say_131 : OpS mX13_say 131 (o_iast 132) := s_iast (by decide +kernel : decode cX13_say 131 = .ok (.iastore, 1))
theorem oX13_say_132 : OpS mX13_say 132 (o_iinc 2 3 1 135) := s_iinc (by decide +kernel : decode cX13_say 132 = .ok (.iinc 2 1, 3)) (by decide) rfl
theorem oX13_say_135 : OpS mX13_say 135 (o_goto 104) := s_goto (by decide +kernel : decode cX13_say 135 = .ok (.goto (-31), 3)) (by decide)
theorem oX13_say_138 : OpS mX13_say 138 (o_aload 0 139) := s_aload_n (by decide +kernel : decode cX13_say 138 = .ok (.aload_n 0, 1)) rfl
theorem oX13_say_139 : OpS mX13_say 139 (o_getP 13 8 142) := s_getP (k := 8) clsX13 (by decide) rfl (Or.inl wd_1252) (by decide +kernel : decode cX13_say 139 = .ok (.getfield 87, 3)) rfl
theorem oX13_say_142 : OpS mX13_say 142 (o_getP 12 5 145) := s_getP (k := 5) clsX12 (by decide) rfl (Or.inr ⟨_, wd_1187⟩) (by decide +kernel : decode cX13_say 142 = .ok (.getfield 242, 3)) rfl
theorem oX13_say_145 : OpS mX13_say 145 (o_iload 1 146) := s_iload_n (by decide +kernel : decode cX13_say 145 = .ok (.iload_n 1, 1)) rfl
theorem oX13_say_146 : OpS mX13_say 146 (o_aload 0 147) := s_aload_n (by decide +kernel : decode cX13_say 146 = .ok (.aload_n 0, 1)) rfl
theorem oX13_say_147 : OpS mX13_say 147 (o_getI 13 18 150) := s_getI (k := 18) clsX13 (by decide) rfl (Or.inl wd_1262) (by decide +kernel : decode cX13_say 147 = .ok (.getfield 278, 3)) rfl
theorem oX13_say_150 : OpS mX13_say 150 (o_iast 151) := s_iast (by decide +kernel : decode cX13_say 150 = .ok (.iastore, 1))
theorem oX13_say_151 : OpS mX13_say 151 (o_aload 0 152) := s_aload_n (by decide +kernel : decode cX13_say 151 = .ok (.aload_n 0, 1)) rfl
theorem oX13_say_152 : OpS mX13_say 152 (o_getP 13 8 155) := s_getP (k := 8) clsX13 (by decide) rfl (Or.inl wd_1252) (by decide +kernel : decode cX13_say 152 = .ok (.getfield 87, 3)) rfl
theorem oX13_say_155 : OpS mX13_say 155 (o_getP 12 6 158) := s_getP (k := 6) clsX12 (by decide) rfl (Or.inr ⟨_, wd_1189⟩) (by decide +kernel : decode cX13_say 155 = .ok (.getfield 243, 3)) rfl
theorem oX13_say_158 : OpS mX13_say 158 (o_iload 1 159) := s_iload_n (by decide +kernel : decode cX13_say 158 = .ok (.iload_n 1, 1)) rfl
theorem oX13_say_159 : OpS mX13_say 159 (o_const (.int 1) 160) := s_iconst (by decide +kernel : decode cX13_say 159 = .ok (.iconst 1, 1)) (by decide)
theorem oX13_say_160 : OpS mX13_say 160 (o_iast 161) := s_iast (by decide +kernel : decode cX13_say 160 = .ok (.iastore, 1))
theorem oX13_say_161 : OpS mX13_say 161 (o_aload 0 162) := s_aload_n (by decide +kernel : decode cX13_say 161 = .ok (.aload_n 0, 1)) rfl
theorem oX13_say_162 : OpS mX13_say 162 (o_getP 13 8 165) := s_getP (k := 8) clsX13 (by decide) rfl (Or.inl wd_1252) (by decide +kernel : decode cX13_say 162 = .ok (.getfield 87, 3)) rfl
theorem oX13_say_165 : OpS mX13_say 165 (o_getP 12 7 168) := s_getP (k := 7) clsX12 (by decide) rfl (Or.inr ⟨_, wd_1191⟩) (by decide +kernel : decode cX13_say 165 = .ok (.getfield 246, 3)) rfl
theorem oX13_say_168 : OpS mX13_say 168 (o_iload 1 169) := s_iload_n (by decide +kernel : decode cX13_say 168 = .ok (.iload_n 1, 1)) rfl
theorem oX13_say_169 : OpS mX13_say 169 (o_const (.int (-1)) 170) := s_iconst (by decide +kernel : decode cX13_say 169 = .ok (.iconst (-1), 1)) (by decide)
theorem oX13_say_170 : OpS mX13_say 170 (o_iast 171) := s_iast (by decide +kernel : decode cX13_say 170 = .ok (.iastore, 1))
theorem oX13_say_171 : OpS mX13_say 171 (o_aload 0 172) := s_aload_n (by decide +kernel : decode cX13_say 171 = .ok (.aload_n 0, 1)) rfl
theorem oX13_say_172 : OpS mX13_say 172 (o_getP 13 8 175) := s_getP (k := 8) clsX13 (by decide) rfl (Or.inl wd_1252) (by decide +kernel : decode cX13_say 172 = .ok (.getfield 87, 3)) rfl
theorem oX13_say_175 : OpS mX13_say 175 (o_dup 176) := s_dup (by decide +kernel : decode cX13_say 175 = .ok (.dup, 1))
theorem oX13_say_176 : OpS mX13_say 176 (o_getI 12 1 179) := s_getI (k := 1) clsX12 (by decide) rfl (Or.inr ⟨_, wd_1179⟩) (by decide +kernel : decode cX13_say 176 = .ok (.getfield 181, 3)) rfl
theorem oX13_say_179 : OpS mX13_say 179 (o_const (.int 1) 180) := s_iconst (by decide +kernel : decode cX13_say 179 = .ok (.iconst 1, 1)) (by decide)
theorem oX13_say_180 : OpS mX13_say 180 (o_ibin (fun x y => x + y) 181) := s_iadd (by decide +kernel : decode cX13_say 180 = .ok (.iadd, 1))
theorem oX13_say_181 : OpS mX13_say 181 (o_putI 12 1 184) := s_putI (k := 1) clsX12 (by decide) rfl (Or.inr ⟨rfl, _, wd_1179⟩) (by decide +kernel : decode cX13_say 181 = .ok (.putfield 181, 3)) rfl rfl
theorem oX13_say_184 : OpS mX13_say 184 (o_aload 0 185) := s_aload_n (by decide +kernel : decode cX13_say 184 = .ok (.aload_n 0, 1)) rfl
theorem oX13_say_185 : OpS mX13_say 185 (o_iload 1 186) := s_iload_n (by decide +kernel : decode cX13_say 185 = .ok (.iload_n 1, 1)) rfl
theorem oX13_say_186 : OpS mX13_say 186 (o_callV mX13_choose 13 1 189) := s_callV ceX13_choose clsX13 (Or.inl wd_1545) wd_1547 selX13_choose (by decide +kernel : decode cX13_say 186 = .ok (.invokevirtual 331, 3))
theorem oX13_say_189 : OpS mX13_say 189 (o_iret) := s_iret rfl (by decide +kernel : decode cX13_say 189 = .ok (.ireturn, 1))
theorem oX13_setLimit_0 : OpS mX13_setLimit 0 (o_aload 0 1) := s_aload_n (by decide +kernel : decode cX13_setLimit 0 = .ok (.aload_n 0, 1)) rfl
theorem oX13_setLimit_1 : OpS mX13_setLimit 1 (o_const (.int 0) 2) := s_iconst (by decide +kernel : decode cX13_setLimit 1 = .ok (.iconst 0, 1)) (by decide)
theorem oX13_setLimit_2 : OpS mX13_setLimit 2 (o_putI 13 0 5) := s_putI (k := 0) clsX13 (by decide) rfl (Or.inl ⟨wd_1244, Or.inl rfl⟩) (by decide +kernel : decode cX13_setLimit 2 = .ok (.putfield 1, 3)) rfl rfl
theorem oX13_setLimit_5 : OpS mX13_setLimit 5 (o_iload 1 6) := s_iload_n (by decide +kernel : decode cX13_setLimit 5 = .ok (.iload_n 1, 1)) rfl
theorem oX13_setLimit_6 : OpS mX13_setLimit 6 (o_const (.int 0) 7) := s_iconst (by decide +kernel : decode cX13_setLimit 6 = .ok (.iconst 0, 1)) (by decide)
theorem oX13_setLimit_7 : OpS mX13_setLimit 7 (o_const (.int 9) 9) := s_bipush (by decide +kernel : decode cX13_setLimit 7 = .ok (.bipush 9, 2)) (by decide)
theorem oX13_setLimit_9 : OpS mX13_setLimit 9 (o_callS mX13_isIn 3 12) := s_callS ceX13_isIn (Or.inl wd_1162) wd_1163 (by decide +kernel : decode cX13_setLimit 9 = .ok (.invokestatic 22, 3))
theorem oX13_setLimit_12 : OpS mX13_setLimit 12 (o_if (fun x => x = 0) 15 21) := s_if_ne (by decide +kernel : decode cX13_setLimit 12 = .ok (.ifCond .ne 9, 3)) (by decide)
theorem oX13_setLimit_15 : OpS mX13_setLimit 15 (o_aload 0 16) := s_aload_n (by decide +kernel : decode cX13_setLimit 15 = .ok (.aload_n 0, 1)) rfl
theorem oX13_setLimit_16 : OpS mX13_setLimit 16 (o_const (.int 1) 17) := s_iconst (by decide +kernel : decode cX13_setLimit 16 = .ok (.iconst 1, 1)) (by decide)
theorem oX13_setLimit_17 : OpS mX13_setLimit 17 (o_callV mX13_no 13 1 20) := s_callV ceX13_no clsX13 (Or.inl wd_1149) wd_1151 selX13_no (by decide +kernel : decode cX13_setLimit 17 = .ok (.invokevirtual 10, 3))
theorem oX13_setLimit_20 : OpS mX13_setLimit 20 (o_iret) := s_iret rfl (by decide +kernel : decode cX13_setLimit 20 = .ok (.ireturn, 1))
theorem oX13_setLimit_21 : OpS mX13_setLimit 21 (o_aload 0 22) := s_aload_n (by decide +kernel : decode cX13_setLimit 21 = .ok (.aload_n 0, 1)) rfl
theorem oX13_setLimit_22 : OpS mX13_setLimit 22 (o_getI 13 21 25) := s_getI (k := 21) clsX13 (by decide) rfl (Or.inl wd_1265) (by decide +kernel : decode cX13_setLimit 22 = .ok (.getfield 106, 3)) rfl
theorem oX13_setLimit_25 : OpS mX13_setLimit 25 (o_istore 2 3 26) := s_istore_n (by decide +kernel : decode cX13_setLimit 25 = .ok (.istore_n 2, 1)) rfl rfl
theorem oX13_setLimit_26 : OpS mX13_setLimit 26 (o_aload 0 27) := s_aload_n (by decide +kernel : decode cX13_setLimit 26 = .ok (.aload_n 0, 1)) rfl
theorem oX13_setLimit_27 : OpS mX13_setLimit 27 (o_iload 1 28) := s_iload_n (by decide +kernel : decode cX13_setLimit 27 = .ok (.iload_n 1, 1)) rfl
theorem oX13_setLimit_28 : OpS mX13_setLimit 28 (o_putI 13 21 31) := s_putI (k := 21) clsX13 (by decide) rfl (Or.inl ⟨wd_1265, Or.inl rfl⟩) (by decide +kernel : decode cX13_setLimit 28 = .ok (.putfield 106, 3)) rfl rfl
theorem oX13_setLimit_31 : OpS mX13_setLimit 31 (o_iload 2 32) := s_iload_n (by decide +kernel : decode cX13_setLimit 31 = .ok (.iload_n 2, 1)) rfl
theorem oX13_setLimit_32 : OpS mX13_setLimit 32 (o_iret) := s_iret rfl (by decide +kernel : decode cX13_setLimit 32 = .ok (.ireturn, 1))
theorem oX13_weights_0 : OpS mX13_weights 0 (o_const (.int 0) 1) := s_iconst (by decide +kernel : decode cX13_weights 0 = .ok (.iconst 0, 1)) (by decide)
theorem oX13_weights_1 : OpS mX13_weights 1 (o_istore 1 3 2) := s_istore_n (by decide +kernel : decode cX13_weights 1 = .ok (.istore_n 1, 1)) rfl rfl
theorem oX13_weights_2 : OpS mX13_weights 2 (o_const (.int 0) 3) := s_iconst (by decide +kernel : decode cX13_weights 2 = .ok (.iconst 0, 1)) (by decide)
theorem oX13_weights_3 : OpS mX13_weights 3 (o_istore 2 3 4) := s_istore_n (by decide +kernel : decode cX13_weights 3 = .ok (.istore_n 2, 1)) rfl rfl
theorem oX13_weights_4 : OpS mX13_weights 4 (o_iload 2 5) := s_iload_n (by decide +kernel : decode cX13_weights 4 = .ok (.iload_n 2, 1)) rfl
theorem oX13_weights_5 : OpS mX13_weights 5 (o_aload 0 6) := s_aload_n (by decide +kernel : decode cX13_weights 5 = .ok (.aload_n 0, 1)) rfl
theorem oX13_weights_6 : OpS mX13_weights 6 (o_getP 13 8 9) := s_getP (k := 8) clsX13 (by decide) rfl (Or.inl wd_1252) (by decide +kernel : decode cX13_weights 6 = .ok (.getfield 87, 3)) rfl
theorem oX13_weights_9 : OpS mX13_weights 9 (o_getI 12 1 12) := s_getI (k := 1) clsX12 (by decide) rfl (Or.inr ⟨_, wd_1179⟩) (by decide +kernel : decode cX13_weights 9 = .ok (.getfield 181, 3)) rfl
theorem oX13_weights_12 : OpS mX13_weights 12 (o_icmp (fun x y => y ≤ x) 33 15) := s_icmp_ge (by decide +kernel : decode cX13_weights 12 = .ok (.if_icmp .ge 21, 3)) (by decide)
theorem oX13_weights_15 : OpS mX13_weights 15 (o_iload 1 16) := s_iload_n (by decide +kernel : decode cX13_weights 15 = .ok (.iload_n 1, 1)) rfl
theorem oX13_weights_16 : OpS mX13_weights 16 (o_aload 0 17) := s_aload_n (by decide +kernel : decode cX13_weights 16 = .ok (.aload_n 0, 1)) rfl
theorem oX13_weights_17 : OpS mX13_weights 17 (o_getP 13 8 20) := s_getP (k := 8) clsX13 (by decide) rfl (Or.inl wd_1252) (by decide +kernel : decode cX13_weights 17 = .ok (.getfield 87, 3)) rfl
theorem oX13_weights_20 : OpS mX13_weights 20 (o_getP 12 6 23) := s_getP (k := 6) clsX12 (by decide) rfl (Or.inr ⟨_, wd_1189⟩) (by decide +kernel : decode cX13_weights 20 = .ok (.getfield 243, 3)) rfl
theorem oX13_weights_23 : OpS mX13_weights 23 (o_iload 2 24) := s_iload_n (by decide +kernel : decode cX13_weights 23 = .ok (.iload_n 2, 1)) rfl
theorem oX13_weights_24 : OpS mX13_weights 24 (o_iald 25) := s_iald (by decide +kernel : decode cX13_weights 24 = .ok (.iaload, 1))
theorem oX13_weights_25 : OpS mX13_weights 25 (o_ibin (fun x y => x + y) 26) := s_iadd (by decide +kernel : decode cX13_weights 25 = .ok (.iadd, 1))
theorem oX13_weights_26 : OpS mX13_weights 26 (o_istore 1 3 27) := s_istore_n (by decide +kernel : decode cX13_weights 26 = .ok (.istore_n 1, 1)) rfl rfl
theorem oX13_weights_27 : OpS mX13_weights 27 (o_iinc 2 3 1 30) := s_iinc (by decide +kernel : decode cX13_weights 27 = .ok (.iinc 2 1, 3)) (by decide) rfl
theorem oX13_weights_30 : OpS mX13_weights 30 (o_goto 4) := s_goto (by decide +kernel : decode cX13_weights 30 = .ok (.goto (-26), 3)) (by decide)
theorem oX13_weights_33 : OpS mX13_weights 33 (o_iload 1 34) := s_iload_n (by decide +kernel : decode cX13_weights 33 = .ok (.iload_n 1, 1)) rfl
theorem oX13_weights_34 : OpS mX13_weights 34 (o_iret) := s_iret rfl (by decide +kernel : decode cX13_weights 34 = .ok (.ireturn, 1))
theorem oX13_beginnings_0 : OpS mX13_beginnings 0 (o_const (.int 0) 1) := s_iconst (by decide +kernel : decode cX13_beginnings 0 = .ok (.iconst 0, 1)) (by decide)
theorem oX13_beginnings_1 : OpS mX13_beginnings 1 (o_istore 1 3 2) := s_istore_n (by decide +kernel : decode cX13_beginnings 1 = .ok (.istore_n 1, 1)) rfl rfl
theorem oX13_beginnings_2 : OpS mX13_beginnings 2 (o_const (.int 0) 3) := s_iconst (by decide +kernel : decode cX13_beginnings 2 = .ok (.iconst 0, 1)) (by decide)
theorem oX13_beginnings_3 : OpS mX13_beginnings 3 (o_istore 2 3 4) := s_istore_n (by decide +kernel : decode cX13_beginnings 3 = .ok (.istore_n 2, 1)) rfl rfl
theorem oX13_beginnings_4 : OpS mX13_beginnings 4 (o_iload 2 5) := s_iload_n (by decide +kernel : decode cX13_beginnings 4 = .ok (.iload_n 2, 1)) rfl
theorem oX13_beginnings_5 : OpS mX13_beginnings 5 (o_aload 0 6) := s_aload_n (by decide +kernel : decode cX13_beginnings 5 = .ok (.aload_n 0, 1)) rfl
theorem oX13_beginnings_6 : OpS mX13_beginnings 6 (o_getP 13 8 9) := s_getP (k := 8) clsX13 (by decide) rfl (Or.inl wd_1252) (by decide +kernel : decode cX13_beginnings 6 = .ok (.getfield 87, 3)) rfl
theorem oX13_beginnings_9 : OpS mX13_beginnings 9 (o_getI 12 1 12) := s_getI (k := 1) clsX12 (by decide) rfl (Or.inr ⟨_, wd_1179⟩) (by decide +kernel : decode cX13_beginnings 9 = .ok (.getfield 181, 3)) rfl
theorem oX13_beginnings_12 : OpS mX13_beginnings 12 (o_icmp (fun x y => y ≤ x) 37 15) := s_icmp_ge (by decide +kernel : decode cX13_beginnings 12 = .ok (.if_icmp .ge 25, 3)) (by decide)
theorem oX13_beginnings_15 : OpS mX13_beginnings 15 (o_iload 1 16) := s_iload_n (by decide +kernel : decode cX13_beginnings 15 = .ok (.iload_n 1, 1)) rfl
theorem oX13_beginnings_16 : OpS mX13_beginnings 16 (o_aload 0 17) := s_aload_n (by decide +kernel : decode cX13_beginnings 16 = .ok (.aload_n 0, 1)) rfl
theorem oX13_beginnings_17 : OpS mX13_beginnings 17 (o_iload 2 18) := s_iload_n (by decide +kernel : decode cX13_beginnings 17 = .ok (.iload_n 2, 1)) rfl
theorem oX13_beginnings_18 : OpS mX13_beginnings 18 (o_callV mX13_isBeginning 13 1 21) := s_callV ceX13_isBeginning clsX13 (Or.inl wd_1553) wd_1555 selX13_isBeginning (by decide +kernel : decode cX13_beginnings 18 = .ok (.invokevirtual 334, 3))
theorem oX13_beginnings_21 : OpS mX13_beginnings 21 (o_if (fun x => x = 0) 28 24) := s_if_eq (by decide +kernel : decode cX13_beginnings 21 = .ok (.ifCond .eq 7, 3)) (by decide)
theorem oX13_beginnings_24 : OpS mX13_beginnings 24 (o_const (.int 1) 25) := s_iconst (by decide +kernel : decode cX13_beginnings 24 = .ok (.iconst 1, 1)) (by decide)
theorem oX13_beginnings_25 : OpS mX13_beginnings 25 (o_goto 29) := s_goto (by decide +kernel : decode cX13_beginnings 25 = .ok (.goto 4, 3)) (by decide)
theorem oX13_beginnings_28 : OpS mX13_beginnings 28 (o_const (.int 0) 29) := s_iconst (by decide +kernel : decode cX13_beginnings 28 = .ok (.iconst 0, 1)) (by decide)
theorem oX13_beginnings_29 : OpS mX13_beginnings 29 (o_ibin (fun x y => x + y) 30) := s_iadd (by decide +kernel : decode cX13_beginnings 29 = .ok (.iadd, 1))
theorem oX13_beginnings_30 : OpS mX13_beginnings 30 (o_istore 1 3 31) := s_istore_n (by decide +kernel : decode cX13_beginnings 30 = .ok (.istore_n 1, 1)) rfl rfl
theorem oX13_beginnings_31 : OpS mX13_beginnings 31 (o_iinc 2 3 1 34) := s_iinc (by decide +kernel : decode cX13_beginnings 31 = .ok (.iinc 2 1, 3)) (by decide) rfl
theorem oX13_beginnings_34 : OpS mX13_beginnings 34 (o_goto 4) := s_goto (by decide +kernel : decode cX13_beginnings 34 = .ok (.goto (-30), 3)) (by decide)
theorem oX13_beginnings_37 : OpS mX13_beginnings 37 (o_iload 1 38) := s_iload_n (by decide +kernel : decode cX13_beginnings 37 = .ok (.iload_n 1, 1)) rfl
theorem oX13_beginnings_38 : OpS mX13_beginnings 38 (o_iret) := s_iret rfl (by decide +kernel : decode cX13_beginnings 38 = .ok (.ireturn, 1))
theorem oX13_shared_0 : OpS mX13_shared 0 (o_const (.int 0) 1) := s_iconst (by decide +kernel : decode cX13_shared 0 = .ok (.iconst 0, 1)) (by decide)
theorem oX13_shared_1 : OpS mX13_shared 1 (o_istore 3 4 2) := s_istore_n (by decide +kernel : decode cX13_shared 1 = .ok (.istore_n 3, 1)) rfl rfl
theorem oX13_shared_2 : OpS mX13_shared 2 (o_iload 3 3) := s_iload_n (by decide +kernel : decode cX13_shared 2 = .ok (.iload_n 3, 1)) rfl
theorem oX13_shared_3 : OpS mX13_shared 3 (o_aload 0 4) := s_aload_n (by decide +kernel : decode cX13_shared 3 = .ok (.aload_n 0, 1)) rfl
theorem oX13_shared_4 : OpS mX13_shared 4 (o_getP 13 8 7) := s_getP (k := 8) clsX13 (by decide) rfl (Or.inl wd_1252) (by decide +kernel : decode cX13_shared 4 = .ok (.getfield 87, 3)) rfl
theorem oX13_shared_7 : OpS mX13_shared 7 (o_getP 12 5 10) := s_getP (k := 5) clsX12 (by decide) rfl (Or.inr ⟨_, wd_1187⟩) (by decide +kernel : decode cX13_shared 7 = .ok (.getfield 242, 3)) rfl
theorem oX13_shared_10 : OpS mX13_shared 10 (o_iload 1 11) := s_iload_n (by decide +kernel : decode cX13_shared 10 = .ok (.iload_n 1, 1)) rfl
theorem oX13_shared_11 : OpS mX13_shared 11 (o_iald 12) := s_iald (by decide +kernel : decode cX13_shared 11 = .ok (.iaload, 1))
theorem oX13_shared_12 : OpS mX13_shared 12 (o_icmp (fun x y => y ≤ x) 55 15) := s_icmp_ge (by decide +kernel : decode cX13_shared 12 = .ok (.if_icmp .ge 43, 3)) (by decide)
theorem oX13_shared_15 : OpS mX13_shared 15 (o_iload 3 16) := s_iload_n (by decide +kernel : decode cX13_shared 15 = .ok (.iload_n 3, 1)) rfl
theorem oX13_shared_16 : OpS mX13_shared 16 (o_aload 0 17) := s_aload_n (by decide +kernel : decode cX13_shared 16 = .ok (.aload_n 0, 1)) rfl
theorem oX13_shared_17 : OpS mX13_shared 17 (o_getP 13 8 20) := s_getP (k := 8) clsX13 (by decide) rfl (Or.inl wd_1252) (by decide +kernel : decode cX13_shared 17 = .ok (.getfield 87, 3)) rfl
theorem oX13_shared_20 : OpS mX13_shared 20 (o_getP 12 5 23) := s_getP (k := 5) clsX12 (by decide) rfl (Or.inr ⟨_, wd_1187⟩) (by decide +kernel : decode cX13_shared 20 = .ok (.getfield 242, 3)) rfl
theorem oX13_shared_23 : OpS mX13_shared 23 (o_iload 2 24) := s_iload_n (by decide +kernel : decode cX13_shared 23 = .ok (.iload_n 2, 1)) rfl
theorem oX13_shared_24 : OpS mX13_shared 24 (o_iald 25) := s_iald (by decide +kernel : decode cX13_shared 24 = .ok (.iaload, 1))
theorem oX13_shared_25 : OpS mX13_shared 25 (o_icmp (fun x y => y ≤ x) 55 28) := s_icmp_ge (by decide +kernel : decode cX13_shared 25 = .ok (.if_icmp .ge 30, 3)) (by decide)
theorem oX13_shared_28 : OpS mX13_shared 28 (o_aload 0 29) := s_aload_n (by decide +kernel : decode cX13_shared 28 = .ok (.aload_n 0, 1)) rfl
theorem oX13_shared_29 : OpS mX13_shared 29 (o_getP 13 8 32) := s_getP (k := 8) clsX13 (by decide) rfl (Or.inl wd_1252) (by decide +kernel : decode cX13_shared 29 = .ok (.getfield 87, 3)) rfl
theorem oX13_shared_32 : OpS mX13_shared 32 (o_iload 1 33) := s_iload_n (by decide +kernel : decode cX13_shared 32 = .ok (.iload_n 1, 1)) rfl
theorem oX13_shared_33 : OpS mX13_shared 33 (o_iload 3 34) := s_iload_n (by decide +kernel : decode cX13_shared 33 = .ok (.iload_n 3, 1)) rfl
theorem oX13_shared_34 : OpS mX13_shared 34 (o_callV mX12_byteOf 12 2 37) := s_callV ceX12_byteOf clsX12 (Or.inl wd_1509) wd_1510 selX12_byteOf (by decide +kernel : decode cX13_shared 34 = .ok (.invokevirtual 290, 3))
theorem oX13_shared_37 : OpS mX13_shared 37 (o_aload 0 38) := s_aload_n (by decide +kernel : decode cX13_shared 37 = .ok (.aload_n 0, 1)) rfl
theorem oX13_shared_38 : OpS mX13_shared 38 (o_getP 13 8 41) := s_getP (k := 8) clsX13 (by decide) rfl (Or.inl wd_1252) (by decide +kernel : decode cX13_shared 38 = .ok (.getfield 87, 3)) rfl
theorem oX13_shared_41 : OpS mX13_shared 41 (o_iload 2 42) := s_iload_n (by decide +kernel : decode cX13_shared 41 = .ok (.iload_n 2, 1)) rfl
theorem oX13_shared_42 : OpS mX13_shared 42 (o_iload 3 43) := s_iload_n (by decide +kernel : decode cX13_shared 42 = .ok (.iload_n 3, 1)) rfl
theorem oX13_shared_43 : OpS mX13_shared 43 (o_callV mX12_byteOf 12 2 46) := s_callV ceX12_byteOf clsX12 (Or.inl wd_1509) wd_1510 selX12_byteOf (by decide +kernel : decode cX13_shared 43 = .ok (.invokevirtual 290, 3))
theorem oX13_shared_46 : OpS mX13_shared 46 (o_icmp (fun x y => x = y) 49 55) := s_icmp_ne (by decide +kernel : decode cX13_shared 46 = .ok (.if_icmp .ne 9, 3)) (by decide)
theorem oX13_shared_49 : OpS mX13_shared 49 (o_iinc 3 4 1 52) := s_iinc (by decide +kernel : decode cX13_shared 49 = .ok (.iinc 3 1, 3)) (by decide) rfl
theorem oX13_shared_52 : OpS mX13_shared 52 (o_goto 2) := s_goto (by decide +kernel : decode cX13_shared 52 = .ok (.goto (-50), 3)) (by decide)
theorem oX13_shared_55 : OpS mX13_shared 55 (o_iload 3 56) := s_iload_n (by decide +kernel : decode cX13_shared 55 = .ok (.iload_n 3, 1)) rfl
theorem oX13_shared_56 : OpS mX13_shared 56 (o_iret) := s_iret rfl (by decide +kernel : decode cX13_shared 56 = .ok (.ireturn, 1))
theorem oX13_nodes_0 : OpS mX13_nodes 0 (o_const (.int 1) 1) := s_iconst (by decide +kernel : decode cX13_nodes 0 = .ok (.iconst 1, 1)) (by decide)
theorem oX13_nodes_1 : OpS mX13_nodes 1 (o_istore 1 5 2) := s_istore_n (by decide +kernel : decode cX13_nodes 1 = .ok (.istore_n 1, 1)) rfl rfl
theorem oX13_nodes_2 : OpS mX13_nodes 2 (o_const (.int 0) 3) := s_iconst (by decide +kernel : decode cX13_nodes 2 = .ok (.iconst 0, 1)) (by decide)
theorem oX13_nodes_3 : OpS mX13_nodes 3 (o_istore 2 5 4) := s_istore_n (by decide +kernel : decode cX13_nodes 3 = .ok (.istore_n 2, 1)) rfl rfl
theorem oX13_nodes_4 : OpS mX13_nodes 4 (o_iload 2 5) := s_iload_n (by decide +kernel : decode cX13_nodes 4 = .ok (.iload_n 2, 1)) rfl
theorem oX13_nodes_5 : OpS mX13_nodes 5 (o_aload 0 6) := s_aload_n (by decide +kernel : decode cX13_nodes 5 = .ok (.aload_n 0, 1)) rfl
theorem oX13_nodes_6 : OpS mX13_nodes 6 (o_getP 13 8 9) := s_getP (k := 8) clsX13 (by decide) rfl (Or.inl wd_1252) (by decide +kernel : decode cX13_nodes 6 = .ok (.getfield 87, 3)) rfl
theorem oX13_nodes_9 : OpS mX13_nodes 9 (o_getI 12 1 12) := s_getI (k := 1) clsX12 (by decide) rfl (Or.inr ⟨_, wd_1179⟩) (by decide +kernel : decode cX13_nodes 9 = .ok (.getfield 181, 3)) rfl
theorem oX13_nodes_12 : OpS mX13_nodes 12 (o_icmp (fun x y => y ≤ x) 64 15) := s_icmp_ge (by decide +kernel : decode cX13_nodes 12 = .ok (.if_icmp .ge 52, 3)) (by decide)
theorem oX13_nodes_15 : OpS mX13_nodes 15 (o_const (.int 0) 16) := s_iconst (by decide +kernel : decode cX13_nodes 15 = .ok (.iconst 0, 1)) (by decide)
theorem oX13_nodes_16 : OpS mX13_nodes 16 (o_istore 3 5 17) := s_istore_n (by decide +kernel : decode cX13_nodes 16 = .ok (.istore_n 3, 1)) rfl rfl
theorem oX13_nodes_17 : OpS mX13_nodes 17 (o_const (.int 0) 18) := s_iconst (by decide +kernel : decode cX13_nodes 17 = .ok (.iconst 0, 1)) (by decide)
theorem oX13_nodes_18 : OpS mX13_nodes 18 (o_istore 4 5 20) := s_istore (by decide +kernel : decode cX13_nodes 18 = .ok (.istore 4, 2)) rfl
theorem oX13_nodes_20 : OpS mX13_nodes 20 (o_iload 4 22) := s_iload (by decide +kernel : decode cX13_nodes 20 = .ok (.iload 4, 2))
theorem oX13_nodes_22 : OpS mX13_nodes 22 (o_iload 2 23) := s_iload_n (by decide +kernel : decode cX13_nodes 22 = .ok (.iload_n 2, 1)) rfl
theorem oX13_nodes_23 : OpS mX13_nodes 23 (o_icmp (fun x y => y ≤ x) 44 26) := s_icmp_ge (by decide +kernel : decode cX13_nodes 23 = .ok (.if_icmp .ge 21, 3)) (by decide)
theorem oX13_nodes_26 : OpS mX13_nodes 26 (o_iload 3 27) := s_iload_n (by decide +kernel : decode cX13_nodes 26 = .ok (.iload_n 3, 1)) rfl
theorem oX13_nodes_27 : OpS mX13_nodes 27 (o_aload 0 28) := s_aload_n (by decide +kernel : decode cX13_nodes 27 = .ok (.aload_n 0, 1)) rfl
theorem oX13_nodes_28 : OpS mX13_nodes 28 (o_iload 4 30) := s_iload (by decide +kernel : decode cX13_nodes 28 = .ok (.iload 4, 2))
theorem oX13_nodes_30 : OpS mX13_nodes 30 (o_iload 2 31) := s_iload_n (by decide +kernel : decode cX13_nodes 30 = .ok (.iload_n 2, 1)) rfl
theorem oX13_nodes_31 : OpS mX13_nodes 31 (o_callV mX13_shared 13 2 34) := s_callV ceX13_shared clsX13 (Or.inl wd_1581) wd_1583 selX13_shared (by decide +kernel : decode cX13_nodes 31 = .ok (.invokevirtual 337, 3))
theorem oX13_nodes_34 : OpS mX13_nodes 34 (o_max 37) := s_max wd_1521 wd_43 wd_3 wd_44 (by decide +kernel : decode cX13_nodes 34 = .ok (.invokestatic 287, 3))
theorem oX13_nodes_37 : OpS mX13_nodes 37 (o_istore 3 5 38) := s_istore_n (by decide +kernel : decode cX13_nodes 37 = .ok (.istore_n 3, 1)) rfl rfl
theorem oX13_nodes_38 : OpS mX13_nodes 38 (o_iinc 4 5 1 41) := s_iinc (by decide +kernel : decode cX13_nodes 38 = .ok (.iinc 4 1, 3)) (by decide) rfl
theorem oX13_nodes_41 : OpS mX13_nodes 41 (o_goto 20) := s_goto (by decide +kernel : decode cX13_nodes 41 = .ok (.goto (-21), 3)) (by decide)
theorem oX13_nodes_44 : OpS mX13_nodes 44 (o_iload 1 45) := s_iload_n (by decide +kernel : decode cX13_nodes 44 = .ok (.iload_n 1, 1)) rfl
theorem oX13_nodes_45 : OpS mX13_nodes 45 (o_aload 0 46) := s_aload_n (by decide +kernel : decode cX13_nodes 45 = .ok (.aload_n 0, 1)) rfl
theorem oX13_nodes_46 : OpS mX13_nodes 46 (o_getP 13 8 49) := s_getP (k := 8) clsX13 (by decide) rfl (Or.inl wd_1252) (by decide +kernel : decode cX13_nodes 46 = .ok (.getfield 87, 3)) rfl
theorem oX13_nodes_49 : OpS mX13_nodes 49 (o_getP 12 5 52) := s_getP (k := 5) clsX12 (by decide) rfl (Or.inr ⟨_, wd_1187⟩) (by decide +kernel : decode cX13_nodes 49 = .ok (.getfield 242, 3)) rfl
theorem oX13_nodes_52 : OpS mX13_nodes 52 (o_iload 2 53) := s_iload_n (by decide +kernel : decode cX13_nodes 52 = .ok (.iload_n 2, 1)) rfl
theorem oX13_nodes_53 : OpS mX13_nodes 53 (o_iald 54) := s_iald (by decide +kernel : decode cX13_nodes 53 = .ok (.iaload, 1))
theorem oX13_nodes_54 : OpS mX13_nodes 54 (o_iload 3 55) := s_iload_n (by decide +kernel : decode cX13_nodes 54 = .ok (.iload_n 3, 1)) rfl
theorem oX13_nodes_55 : OpS mX13_nodes 55 (o_ibin (fun x y => x - y) 56) := s_isub (by decide +kernel : decode cX13_nodes 55 = .ok (.isub, 1))
theorem oX13_nodes_56 : OpS mX13_nodes 56 (o_ibin (fun x y => x + y) 57) := s_iadd (by decide +kernel : decode cX13_nodes 56 = .ok (.iadd, 1))
theorem oX13_nodes_57 : OpS mX13_nodes 57 (o_istore 1 5 58) := s_istore_n (by decide +kernel : decode cX13_nodes 57 = .ok (.istore_n 1, 1)) rfl rfl
theorem oX13_nodes_58 : OpS mX13_nodes 58 (o_iinc 2 5 1 61) := s_iinc (by decide +kernel : decode cX13_nodes 58 = .ok (.iinc 2 1, 3)) (by decide) rfl
theorem oX13_nodes_61 : OpS mX13_nodes 61 (o_goto 4) := s_goto (by decide +kernel : decode cX13_nodes 61 = .ok (.goto (-57), 3)) (by decide)
theorem oX13_nodes_64 : OpS mX13_nodes 64 (o_iload 1 65) := s_iload_n (by decide +kernel : decode cX13_nodes 64 = .ok (.iload_n 1, 1)) rfl
theorem oX13_nodes_65 : OpS mX13_nodes 65 (o_iret) := s_iret rfl (by decide +kernel : decode cX13_nodes 65 = .ok (.ireturn, 1))
theorem oX13_counted_0 : OpS mX13_counted 0 (o_iload 1 1) := s_iload_n (by decide +kernel : decode cX13_counted 0 = .ok (.iload_n 1, 1)) rfl
theorem oX13_counted_1 : OpS mX13_counted 1 (o_sw [(0, 64), (1, 72), (2, 80), (3, 88), (4, 96), (5, 101), (6, 106), (7, 111), (8, 116), (9, 121), (10, 126), (11, 131)] 136) := s_tsw (by decide +kernel : decode cX13_counted 1 = .ok (.tableswitch 135 0 11 #[63, 71, 79, 87, 95, 100, 105, 110, 115, 120, 125, 130], 63)) (by decide) (by decide) (by decide)
theorem oX13_counted_64 : OpS mX13_counted 64 (o_aload 0 65) := s_aload_n (by decide +kernel : decode cX13_counted 64 = .ok (.aload_n 0, 1)) rfl
theorem oX13_counted_65 : OpS mX13_counted 65 (o_getP 13 8 68) := s_getP (k := 8) clsX13 (by decide) rfl (Or.inl wd_1252) (by decide +kernel : decode cX13_counted 65 = .ok (.getfield 87, 3)) rfl
theorem oX13_counted_68 : OpS mX13_counted 68 (o_getI 12 1 71) := s_getI (k := 1) clsX12 (by decide) rfl (Or.inr ⟨_, wd_1179⟩) (by decide +kernel : decode cX13_counted 68 = .ok (.getfield 181, 3)) rfl
theorem oX13_counted_71 : OpS mX13_counted 71 (o_iret) := s_iret rfl (by decide +kernel : decode cX13_counted 71 = .ok (.ireturn, 1))
theorem oX13_counted_72 : OpS mX13_counted 72 (o_aload 0 73) := s_aload_n (by decide +kernel : decode cX13_counted 72 = .ok (.aload_n 0, 1)) rfl
theorem oX13_counted_73 : OpS mX13_counted 73 (o_getP 13 8 76) := s_getP (k := 8) clsX13 (by decide) rfl (Or.inl wd_1252) (by decide +kernel : decode cX13_counted 73 = .ok (.getfield 87, 3)) rfl
theorem oX13_counted_76 : OpS mX13_counted 76 (o_getI 12 0 79) := s_getI (k := 0) clsX12 (by decide) rfl (Or.inr ⟨_, wd_1177⟩) (by decide +kernel : decode cX13_counted 76 = .ok (.getfield 233, 3)) rfl
theorem oX13_counted_79 : OpS mX13_counted 79 (o_iret) := s_iret rfl (by decide +kernel : decode cX13_counted 79 = .ok (.ireturn, 1))
theorem oX13_counted_80 : OpS mX13_counted 80 (o_aload 0 81) := s_aload_n (by decide +kernel : decode cX13_counted 80 = .ok (.aload_n 0, 1)) rfl
theorem oX13_counted_81 : OpS mX13_counted 81 (o_getP 13 8 84) := s_getP (k := 8) clsX13 (by decide) rfl (Or.inl wd_1252) (by decide +kernel : decode cX13_counted 81 = .ok (.getfield 87, 3)) rfl
theorem oX13_counted_84 : OpS mX13_counted 84 (o_getI 12 2 87) := s_getI (k := 2) clsX12 (by decide) rfl (Or.inr ⟨_, wd_1181⟩) (by decide +kernel : decode cX13_counted 84 = .ok (.getfield 252, 3)) rfl
theorem oX13_counted_87 : OpS mX13_counted 87 (o_iret) := s_iret rfl (by decide +kernel : decode cX13_counted 87 = .ok (.ireturn, 1))
theorem oX13_counted_88 : OpS mX13_counted 88 (o_aload 0 89) := s_aload_n (by decide +kernel : decode cX13_counted 88 = .ok (.aload_n 0, 1)) rfl
theorem oX13_counted_89 : OpS mX13_counted 89 (o_getP 13 8 92) := s_getP (k := 8) clsX13 (by decide) rfl (Or.inl wd_1252) (by decide +kernel : decode cX13_counted 89 = .ok (.getfield 87, 3)) rfl
theorem oX13_counted_92 : OpS mX13_counted 92 (o_getI 12 3 95) := s_getI (k := 3) clsX12 (by decide) rfl (Or.inr ⟨_, wd_1183⟩) (by decide +kernel : decode cX13_counted 92 = .ok (.getfield 263, 3)) rfl
theorem oX13_counted_95 : OpS mX13_counted 95 (o_iret) := s_iret rfl (by decide +kernel : decode cX13_counted 95 = .ok (.ireturn, 1))
theorem oX13_counted_96 : OpS mX13_counted 96 (o_aload 0 97) := s_aload_n (by decide +kernel : decode cX13_counted 96 = .ok (.aload_n 0, 1)) rfl
theorem oX13_counted_97 : OpS mX13_counted 97 (o_getI 13 18 100) := s_getI (k := 18) clsX13 (by decide) rfl (Or.inl wd_1262) (by decide +kernel : decode cX13_counted 97 = .ok (.getfield 278, 3)) rfl
theorem oX13_counted_100 : OpS mX13_counted 100 (o_iret) := s_iret rfl (by decide +kernel : decode cX13_counted 100 = .ok (.ireturn, 1))
theorem oX13_counted_101 : OpS mX13_counted 101 (o_aload 0 102) := s_aload_n (by decide +kernel : decode cX13_counted 101 = .ok (.aload_n 0, 1)) rfl
theorem oX13_counted_102 : OpS mX13_counted 102 (o_getI 13 19 105) := s_getI (k := 19) clsX13 (by decide) rfl (Or.inl wd_1263) (by decide +kernel : decode cX13_counted 102 = .ok (.getfield 281, 3)) rfl
theorem oX13_counted_105 : OpS mX13_counted 105 (o_iret) := s_iret rfl (by decide +kernel : decode cX13_counted 105 = .ok (.ireturn, 1))
theorem oX13_counted_106 : OpS mX13_counted 106 (o_aload 0 107) := s_aload_n (by decide +kernel : decode cX13_counted 106 = .ok (.aload_n 0, 1)) rfl
theorem oX13_counted_107 : OpS mX13_counted 107 (o_getI 13 21 110) := s_getI (k := 21) clsX13 (by decide) rfl (Or.inl wd_1265) (by decide +kernel : decode cX13_counted 107 = .ok (.getfield 106, 3)) rfl
theorem oX13_counted_110 : OpS mX13_counted 110 (o_iret) := s_iret rfl (by decide +kernel : decode cX13_counted 110 = .ok (.ireturn, 1))
theorem oX13_counted_111 : OpS mX13_counted 111 (o_aload 0 112) := s_aload_n (by decide +kernel : decode cX13_counted 111 = .ok (.aload_n 0, 1)) rfl
theorem oX13_counted_112 : OpS mX13_counted 112 (o_callV mX13_weights 13 0 115) := s_callV ceX13_weights clsX13 (Or.inl wd_1569) wd_1571 selX13_weights (by decide +kernel : decode cX13_counted 112 = .ok (.invokevirtual 340, 3))
theorem oX13_counted_115 : OpS mX13_counted 115 (o_iret) := s_iret rfl (by decide +kernel : decode cX13_counted 115 = .ok (.ireturn, 1))
theorem oX13_counted_116 : OpS mX13_counted 116 (o_aload 0 117) := s_aload_n (by decide +kernel : decode cX13_counted 116 = .ok (.aload_n 0, 1)) rfl
theorem oX13_counted_117 : OpS mX13_counted 117 (o_getI 13 27 120) := s_getI (k := 27) clsX13 (by decide) rfl (Or.inl wd_1271) (by decide +kernel : decode cX13_counted 117 = .ok (.getfield 316, 3)) rfl
theorem oX13_counted_120 : OpS mX13_counted 120 (o_iret) := s_iret rfl (by decide +kernel : decode cX13_counted 120 = .ok (.ireturn, 1))
theorem oX13_counted_121 : OpS mX13_counted 121 (o_aload 0 122) := s_aload_n (by decide +kernel : decode cX13_counted 121 = .ok (.aload_n 0, 1)) rfl
theorem oX13_counted_122 : OpS mX13_counted 122 (o_callV mX13_beginnings 13 0 125) := s_callV ceX13_beginnings clsX13 (Or.inl wd_1573) wd_1575 selX13_beginnings (by decide +kernel : decode cX13_counted 122 = .ok (.invokevirtual 343, 3))
theorem oX13_counted_125 : OpS mX13_counted 125 (o_iret) := s_iret rfl (by decide +kernel : decode cX13_counted 125 = .ok (.ireturn, 1))
theorem oX13_counted_126 : OpS mX13_counted 126 (o_aload 0 127) := s_aload_n (by decide +kernel : decode cX13_counted 126 = .ok (.aload_n 0, 1)) rfl
theorem oX13_counted_127 : OpS mX13_counted 127 (o_callV mX13_nodes 13 0 130) := s_callV ceX13_nodes clsX13 (Or.inl wd_1577) wd_1579 selX13_nodes (by decide +kernel : decode cX13_counted 127 = .ok (.invokevirtual 346, 3))
theorem oX13_counted_130 : OpS mX13_counted 130 (o_iret) := s_iret rfl (by decide +kernel : decode cX13_counted 130 = .ok (.ireturn, 1))
theorem oX13_counted_131 : OpS mX13_counted 131 (o_aload 0 132) := s_aload_n (by decide +kernel : decode cX13_counted 131 = .ok (.aload_n 0, 1)) rfl
theorem oX13_counted_132 : OpS mX13_counted 132 (o_getI 13 20 135) := s_getI (k := 20) clsX13 (by decide) rfl (Or.inl wd_1264) (by decide +kernel : decode cX13_counted 132 = .ok (.getfield 103, 3)) rfl
theorem oX13_counted_135 : OpS mX13_counted 135 (o_iret) := s_iret rfl (by decide +kernel : decode cX13_counted 135 = .ok (.ireturn, 1))
theorem oX13_counted_136 : OpS mX13_counted 136 (o_aload 0 137) := s_aload_n (by decide +kernel : decode cX13_counted 136 = .ok (.aload_n 0, 1)) rfl
theorem oX13_counted_137 : OpS mX13_counted 137 (o_getI 13 2 140) := s_getI (k := 2) clsX13 (by decide) rfl (Or.inl wd_1246) (by decide +kernel : decode cX13_counted 137 = .ok (.getfield 7, 3)) rfl
theorem oX13_counted_140 : OpS mX13_counted 140 (o_iret) := s_iret rfl (by decide +kernel : decode cX13_counted 140 = .ok (.ireturn, 1))
theorem oX13_count_0 : OpS mX13_count 0 (o_aload 0 1) := s_aload_n (by decide +kernel : decode cX13_count 0 = .ok (.aload_n 0, 1)) rfl
theorem oX13_count_1 : OpS mX13_count 1 (o_const (.int 0) 2) := s_iconst (by decide +kernel : decode cX13_count 1 = .ok (.iconst 0, 1)) (by decide)
theorem oX13_count_2 : OpS mX13_count 2 (o_putI 13 0 5) := s_putI (k := 0) clsX13 (by decide) rfl (Or.inl ⟨wd_1244, Or.inl rfl⟩) (by decide +kernel : decode cX13_count 2 = .ok (.putfield 1, 3)) rfl rfl
theorem oX13_count_5 : OpS mX13_count 5 (o_iload 1 6) := s_iload_n (by decide +kernel : decode cX13_count 5 = .ok (.iload_n 1, 1)) rfl
theorem oX13_count_6 : OpS mX13_count 6 (o_const (.int 0) 7) := s_iconst (by decide +kernel : decode cX13_count 6 = .ok (.iconst 0, 1)) (by decide)
theorem oX13_count_7 : OpS mX13_count 7 (o_const (.int 12) 9) := s_bipush (by decide +kernel : decode cX13_count 7 = .ok (.bipush 12, 2)) (by decide)
theorem oX13_count_9 : OpS mX13_count 9 (o_callS mX13_isIn 3 12) := s_callS ceX13_isIn (Or.inl wd_1162) wd_1163 (by decide +kernel : decode cX13_count 9 = .ok (.invokestatic 22, 3))
theorem oX13_count_12 : OpS mX13_count 12 (o_if (fun x => x = 0) 15 21) := s_if_ne (by decide +kernel : decode cX13_count 12 = .ok (.ifCond .ne 9, 3)) (by decide)
theorem oX13_count_15 : OpS mX13_count 15 (o_aload 0 16) := s_aload_n (by decide +kernel : decode cX13_count 15 = .ok (.aload_n 0, 1)) rfl
theorem oX13_count_16 : OpS mX13_count 16 (o_const (.int 1) 17) := s_iconst (by decide +kernel : decode cX13_count 16 = .ok (.iconst 1, 1)) (by decide)
theorem oX13_count_17 : OpS mX13_count 17 (o_callV mX13_no 13 1 20) := s_callV ceX13_no clsX13 (Or.inl wd_1149) wd_1151 selX13_no (by decide +kernel : decode cX13_count 17 = .ok (.invokevirtual 10, 3))
theorem oX13_count_20 : OpS mX13_count 20 (o_iret) := s_iret rfl (by decide +kernel : decode cX13_count 20 = .ok (.ireturn, 1))
theorem oX13_count_21 : OpS mX13_count 21 (o_aload 0 22) := s_aload_n (by decide +kernel : decode cX13_count 21 = .ok (.aload_n 0, 1)) rfl
theorem oX13_count_22 : OpS mX13_count 22 (o_callV mX13_look 13 0 25) := s_callV ceX13_look clsX13 (Or.inl wd_1501) wd_1503 selX13_look (by decide +kernel : decode cX13_count 22 = .ok (.invokevirtual 328, 3))
theorem oX13_count_25 : OpS mX13_count 25 (o_aload 0 26) := s_aload_n (by decide +kernel : decode cX13_count 25 = .ok (.aload_n 0, 1)) rfl
theorem oX13_count_26 : OpS mX13_count 26 (o_iload 1 27) := s_iload_n (by decide +kernel : decode cX13_count 26 = .ok (.iload_n 1, 1)) rfl
theorem oX13_count_27 : OpS mX13_count 27 (o_callV mX13_counted 13 1 30) := s_callV ceX13_counted clsX13 (Or.inl wd_1565) wd_1567 selX13_counted (by decide +kernel : decode cX13_count 27 = .ok (.invokevirtual 349, 3))
theorem oX13_count_30 : OpS mX13_count 30 (o_iret) := s_iret rfl (by decide +kernel : decode cX13_count 30 = .ok (.ireturn, 1))
theorem oX13_offer_0 : OpS mX13_offer 0 (o_aload 0 1) := s_aload_n (by decide +kernel : decode cX13_offer 0 = .ok (.aload_n 0, 1)) rfl
theorem oX13_offer_1 : OpS mX13_offer 1 (o_const (.int 0) 2) := s_iconst (by decide +kernel : decode cX13_offer 1 = .ok (.iconst 0, 1)) (by decide)
theorem oX13_offer_2 : OpS mX13_offer 2 (o_putI 13 0 5) := s_putI (k := 0) clsX13 (by decide) rfl (Or.inl ⟨wd_1244, Or.inl rfl⟩) (by decide +kernel : decode cX13_offer 2 = .ok (.putfield 1, 3)) rfl rfl
theorem oX13_offer_5 : OpS mX13_offer 5 (o_iload 1 6) := s_iload_n (by decide +kernel : decode cX13_offer 5 = .ok (.iload_n 1, 1)) rfl
theorem oX13_offer_6 : OpS mX13_offer 6 (o_const (.int 0) 7) := s_iconst (by decide +kernel : decode cX13_offer 6 = .ok (.iconst 0, 1)) (by decide)
theorem oX13_offer_7 : OpS mX13_offer 7 (o_const (.int 4) 8) := s_iconst (by decide +kernel : decode cX13_offer 7 = .ok (.iconst 4, 1)) (by decide)
theorem oX13_offer_8 : OpS mX13_offer 8 (o_callS mX13_isIn 3 11) := s_callS ceX13_isIn (Or.inl wd_1162) wd_1163 (by decide +kernel : decode cX13_offer 8 = .ok (.invokestatic 22, 3))
theorem oX13_offer_11 : OpS mX13_offer 11 (o_if (fun x => x = 0) 14 20) := s_if_ne (by decide +kernel : decode cX13_offer 11 = .ok (.ifCond .ne 9, 3)) (by decide)
theorem oX13_offer_14 : OpS mX13_offer 14 (o_aload 0 15) := s_aload_n (by decide +kernel : decode cX13_offer 14 = .ok (.aload_n 0, 1)) rfl
theorem oX13_offer_15 : OpS mX13_offer 15 (o_const (.int 1) 16) := s_iconst (by decide +kernel : decode cX13_offer 15 = .ok (.iconst 1, 1)) (by decide)
theorem oX13_offer_16 : OpS mX13_offer 16 (o_callV mX13_no 13 1 19) := s_callV ceX13_no clsX13 (Or.inl wd_1149) wd_1151 selX13_no (by decide +kernel : decode cX13_offer 16 = .ok (.invokevirtual 10, 3))
theorem oX13_offer_19 : OpS mX13_offer 19 (o_iret) := s_iret rfl (by decide +kernel : decode cX13_offer 19 = .ok (.ireturn, 1))
theorem oX13_offer_20 : OpS mX13_offer 20 (o_aload 0 21) := s_aload_n (by decide +kernel : decode cX13_offer 20 = .ok (.aload_n 0, 1)) rfl
theorem oX13_offer_21 : OpS mX13_offer 21 (o_callV mX13_look 13 0 24) := s_callV ceX13_look clsX13 (Or.inl wd_1501) wd_1503 selX13_look (by decide +kernel : decode cX13_offer 21 = .ok (.invokevirtual 328, 3))
theorem oX13_offer_24 : OpS mX13_offer 24 (o_iload 1 25) := s_iload_n (by decide +kernel : decode cX13_offer 24 = .ok (.iload_n 1, 1)) rfl
theorem oX13_offer_25 : OpS mX13_offer 25 (o_aload 0 26) := s_aload_n (by decide +kernel : decode cX13_offer 25 = .ok (.aload_n 0, 1)) rfl
theorem oX13_offer_26 : OpS mX13_offer 26 (o_getI 13 27 29) := s_getI (k := 27) clsX13 (by decide) rfl (Or.inl wd_1271) (by decide +kernel : decode cX13_offer 26 = .ok (.getfield 316, 3)) rfl
theorem oX13_offer_29 : OpS mX13_offer 29 (o_icmp (fun x y => y ≤ x) 41 32) := s_icmp_ge (by decide +kernel : decode cX13_offer 29 = .ok (.if_icmp .ge 12, 3)) (by decide)
theorem oX13_offer_32 : OpS mX13_offer 32 (o_aload 0 33) := s_aload_n (by decide +kernel : decode cX13_offer 32 = .ok (.aload_n 0, 1)) rfl
theorem oX13_offer_33 : OpS mX13_offer 33 (o_getP 13 26 36) := s_getP (k := 26) clsX13 (by decide) rfl (Or.inl wd_1270) (by decide +kernel : decode cX13_offer 33 = .ok (.getfield 121, 3)) rfl
theorem oX13_offer_36 : OpS mX13_offer 36 (o_iload 1 37) := s_iload_n (by decide +kernel : decode cX13_offer 36 = .ok (.iload_n 1, 1)) rfl
theorem oX13_offer_37 : OpS mX13_offer 37 (o_iald 38) := s_iald (by decide +kernel : decode cX13_offer 37 = .ok (.iaload, 1))
theorem oX13_offer_38 : OpS mX13_offer 38 (o_goto 42) := s_goto (by decide +kernel : decode cX13_offer 38 = .ok (.goto 4, 3)) (by decide)
theorem oX13_offer_41 : OpS mX13_offer 41 (o_const (.int (-1)) 42) := s_iconst (by decide +kernel : decode cX13_offer 41 = .ok (.iconst (-1), 1)) (by decide)
theorem oX13_offer_42 : OpS mX13_offer 42 (o_iret) := s_iret rfl (by decide +kernel : decode cX13_offer 42 = .ok (.ireturn, 1))
theorem oX13_isThere_0 : OpS mX13_isThere 0 (o_iload 1 1) := s_iload_n (by decide +kernel : decode cX13_isThere 0 = .ok (.iload_n 1, 1)) rfl
theorem oX13_isThere_1 : OpS mX13_isThere 1 (o_const (.int 0) 2) := s_iconst (by decide +kernel : decode cX13_isThere 1 = .ok (.iconst 0, 1)) (by decide)
theorem oX13_isThere_2 : OpS mX13_isThere 2 (o_aload 0 3) := s_aload_n (by decide +kernel : decode cX13_isThere 2 = .ok (.aload_n 0, 1)) rfl
theorem oX13_isThere_3 : OpS mX13_isThere 3 (o_getP 13 8 6) := s_getP (k := 8) clsX13 (by decide) rfl (Or.inl wd_1252) (by decide +kernel : decode cX13_isThere 3 = .ok (.getfield 87, 3)) rfl
theorem oX13_isThere_6 : OpS mX13_isThere 6 (o_getI 12 1 9) := s_getI (k := 1) clsX12 (by decide) rfl (Or.inr ⟨_, wd_1179⟩) (by decide +kernel : decode cX13_isThere 6 = .ok (.getfield 181, 3)) rfl
theorem oX13_isThere_9 : OpS mX13_isThere 9 (o_const (.int 1) 10) := s_iconst (by decide +kernel : decode cX13_isThere 9 = .ok (.iconst 1, 1)) (by decide)
theorem oX13_isThere_10 : OpS mX13_isThere 10 (o_ibin (fun x y => x - y) 11) := s_isub (by decide +kernel : decode cX13_isThere 10 = .ok (.isub, 1))
theorem oX13_isThere_11 : OpS mX13_isThere 11 (o_callS mX13_isIn 3 14) := s_callS ceX13_isIn (Or.inl wd_1162) wd_1163 (by decide +kernel : decode cX13_isThere 11 = .ok (.invokestatic 22, 3))
theorem oX13_isThere_14 : OpS mX13_isThere 14 (o_zret) := s_zret rfl (by decide +kernel : decode cX13_isThere 14 = .ok (.ireturn, 1))
theorem oX13_wordTold_0 : OpS mX13_wordTold 0 (o_iload 2 1) := s_iload_n (by decide +kernel : decode cX13_wordTold 0 = .ok (.iload_n 2, 1)) rfl
theorem oX13_wordTold_1 : OpS mX13_wordTold 1 (o_sw [(0, 36), (1, 46), (2, 56), (3, 66), (4, 73)] 80) := s_tsw (by decide +kernel : decode cX13_wordTold 1 = .ok (.tableswitch 79 0 4 #[35, 45, 55, 65, 72], 35)) (by decide) (by decide) (by decide)
theorem oX13_wordTold_36 : OpS mX13_wordTold 36 (o_aload 0 37) := s_aload_n (by decide +kernel : decode cX13_wordTold 36 = .ok (.aload_n 0, 1)) rfl
theorem oX13_wordTold_37 : OpS mX13_wordTold 37 (o_getP 13 8 40) := s_getP (k := 8) clsX13 (by decide) rfl (Or.inl wd_1252) (by decide +kernel : decode cX13_wordTold 37 = .ok (.getfield 87, 3)) rfl
theorem oX13_wordTold_40 : OpS mX13_wordTold 40 (o_getP 12 6 43) := s_getP (k := 6) clsX12 (by decide) rfl (Or.inr ⟨_, wd_1189⟩) (by decide +kernel : decode cX13_wordTold 40 = .ok (.getfield 243, 3)) rfl
theorem oX13_wordTold_43 : OpS mX13_wordTold 43 (o_iload 1 44) := s_iload_n (by decide +kernel : decode cX13_wordTold 43 = .ok (.iload_n 1, 1)) rfl
theorem oX13_wordTold_44 : OpS mX13_wordTold 44 (o_iald 45) := s_iald (by decide +kernel : decode cX13_wordTold 44 = .ok (.iaload, 1))
theorem oX13_wordTold_45 : OpS mX13_wordTold 45 (o_iret) := s_iret rfl (by decide +kernel : decode cX13_wordTold 45 = .ok (.ireturn, 1))
theorem oX13_wordTold_46 : OpS mX13_wordTold 46 (o_aload 0 47) := s_aload_n (by decide +kernel : decode cX13_wordTold 46 = .ok (.aload_n 0, 1)) rfl
theorem oX13_wordTold_47 : OpS mX13_wordTold 47 (o_getP 13 8 50) := s_getP (k := 8) clsX13 (by decide) rfl (Or.inl wd_1252) (by decide +kernel : decode cX13_wordTold 47 = .ok (.getfield 87, 3)) rfl
theorem oX13_wordTold_50 : OpS mX13_wordTold 50 (o_getP 12 7 53) := s_getP (k := 7) clsX12 (by decide) rfl (Or.inr ⟨_, wd_1191⟩) (by decide +kernel : decode cX13_wordTold 50 = .ok (.getfield 246, 3)) rfl
theorem oX13_wordTold_53 : OpS mX13_wordTold 53 (o_iload 1 54) := s_iload_n (by decide +kernel : decode cX13_wordTold 53 = .ok (.iload_n 1, 1)) rfl
theorem oX13_wordTold_54 : OpS mX13_wordTold 54 (o_iald 55) := s_iald (by decide +kernel : decode cX13_wordTold 54 = .ok (.iaload, 1))
theorem oX13_wordTold_55 : OpS mX13_wordTold 55 (o_iret) := s_iret rfl (by decide +kernel : decode cX13_wordTold 55 = .ok (.ireturn, 1))
theorem oX13_wordTold_56 : OpS mX13_wordTold 56 (o_aload 0 57) := s_aload_n (by decide +kernel : decode cX13_wordTold 56 = .ok (.aload_n 0, 1)) rfl
theorem oX13_wordTold_57 : OpS mX13_wordTold 57 (o_getP 13 8 60) := s_getP (k := 8) clsX13 (by decide) rfl (Or.inl wd_1252) (by decide +kernel : decode cX13_wordTold 57 = .ok (.getfield 87, 3)) rfl
theorem oX13_wordTold_60 : OpS mX13_wordTold 60 (o_getP 12 5 63) := s_getP (k := 5) clsX12 (by decide) rfl (Or.inr ⟨_, wd_1187⟩) (by decide +kernel : decode cX13_wordTold 60 = .ok (.getfield 242, 3)) rfl
theorem oX13_wordTold_63 : OpS mX13_wordTold 63 (o_iload 1 64) := s_iload_n (by decide +kernel : decode cX13_wordTold 63 = .ok (.iload_n 1, 1)) rfl
theorem oX13_wordTold_64 : OpS mX13_wordTold 64 (o_iald 65) := s_iald (by decide +kernel : decode cX13_wordTold 64 = .ok (.iaload, 1))
theorem oX13_wordTold_65 : OpS mX13_wordTold 65 (o_iret) := s_iret rfl (by decide +kernel : decode cX13_wordTold 65 = .ok (.ireturn, 1))
theorem oX13_wordTold_66 : OpS mX13_wordTold 66 (o_aload 0 67) := s_aload_n (by decide +kernel : decode cX13_wordTold 66 = .ok (.aload_n 0, 1)) rfl
theorem oX13_wordTold_67 : OpS mX13_wordTold 67 (o_getP 13 24 70) := s_getP (k := 24) clsX13 (by decide) rfl (Or.inl wd_1268) (by decide +kernel : decode cX13_wordTold 67 = .ok (.getfield 115, 3)) rfl
theorem oX13_wordTold_70 : OpS mX13_wordTold 70 (o_iload 1 71) := s_iload_n (by decide +kernel : decode cX13_wordTold 70 = .ok (.iload_n 1, 1)) rfl
theorem oX13_wordTold_71 : OpS mX13_wordTold 71 (o_iald 72) := s_iald (by decide +kernel : decode cX13_wordTold 71 = .ok (.iaload, 1))
theorem oX13_wordTold_72 : OpS mX13_wordTold 72 (o_iret) := s_iret rfl (by decide +kernel : decode cX13_wordTold 72 = .ok (.ireturn, 1))
theorem oX13_wordTold_73 : OpS mX13_wordTold 73 (o_aload 0 74) := s_aload_n (by decide +kernel : decode cX13_wordTold 73 = .ok (.aload_n 0, 1)) rfl
theorem oX13_wordTold_74 : OpS mX13_wordTold 74 (o_getP 13 25 77) := s_getP (k := 25) clsX13 (by decide) rfl (Or.inl wd_1269) (by decide +kernel : decode cX13_wordTold 74 = .ok (.getfield 118, 3)) rfl
theorem oX13_wordTold_77 : OpS mX13_wordTold 77 (o_iload 1 78) := s_iload_n (by decide +kernel : decode cX13_wordTold 77 = .ok (.iload_n 1, 1)) rfl
theorem oX13_wordTold_78 : OpS mX13_wordTold 78 (o_iald 79) := s_iald (by decide +kernel : decode cX13_wordTold 78 = .ok (.iaload, 1))
theorem oX13_wordTold_79 : OpS mX13_wordTold 79 (o_iret) := s_iret rfl (by decide +kernel : decode cX13_wordTold 79 = .ok (.ireturn, 1))
theorem oX13_wordTold_80 : OpS mX13_wordTold 80 (o_aload 0 81) := s_aload_n (by decide +kernel : decode cX13_wordTold 80 = .ok (.aload_n 0, 1)) rfl
theorem oX13_wordTold_81 : OpS mX13_wordTold 81 (o_iload 1 82) := s_iload_n (by decide +kernel : decode cX13_wordTold 81 = .ok (.iload_n 1, 1)) rfl
theorem oX13_wordTold_82 : OpS mX13_wordTold 82 (o_callV mX13_placeOf 13 1 85) := s_callV ceX13_placeOf clsX13 (Or.inl wd_1601) wd_1603 selX13_placeOf (by decide +kernel : decode cX13_wordTold 82 = .ok (.invokevirtual 352, 3))
theorem oX13_wordTold_85 : OpS mX13_wordTold 85 (o_iret) := s_iret rfl (by decide +kernel : decode cX13_wordTold 85 = .ok (.ireturn, 1))
theorem oX13_word_0 : OpS mX13_word 0 (o_aload 0 1) := s_aload_n (by decide +kernel : decode cX13_word 0 = .ok (.aload_n 0, 1)) rfl
theorem oX13_word_1 : OpS mX13_word 1 (o_const (.int 0) 2) := s_iconst (by decide +kernel : decode cX13_word 1 = .ok (.iconst 0, 1)) (by decide)
theorem oX13_word_2 : OpS mX13_word 2 (o_putI 13 0 5) := s_putI (k := 0) clsX13 (by decide) rfl (Or.inl ⟨wd_1244, Or.inl rfl⟩) (by decide +kernel : decode cX13_word 2 = .ok (.putfield 1, 3)) rfl rfl
theorem oX13_word_5 : OpS mX13_word 5 (o_aload 0 6) := s_aload_n (by decide +kernel : decode cX13_word 5 = .ok (.aload_n 0, 1)) rfl
theorem oX13_word_6 : OpS mX13_word 6 (o_iload 1 7) := s_iload_n (by decide +kernel : decode cX13_word 6 = .ok (.iload_n 1, 1)) rfl
theorem oX13_word_7 : OpS mX13_word 7 (o_callV mX13_isThere 13 1 10) := s_callV ceX13_isThere clsX13 (Or.inl wd_1593) wd_1595 selX13_isThere (by decide +kernel : decode cX13_word 7 = .ok (.invokevirtual 355, 3))
theorem oX13_word_10 : OpS mX13_word 10 (o_if (fun x => x = 0) 22 13) := s_if_eq (by decide +kernel : decode cX13_word 10 = .ok (.ifCond .eq 12, 3)) (by decide)
theorem oX13_word_13 : OpS mX13_word 13 (o_iload 2 14) := s_iload_n (by decide +kernel : decode cX13_word 13 = .ok (.iload_n 2, 1)) rfl
theorem oX13_word_14 : OpS mX13_word 14 (o_const (.int 0) 15) := s_iconst (by decide +kernel : decode cX13_word 14 = .ok (.iconst 0, 1)) (by decide)
theorem oX13_word_15 : OpS mX13_word 15 (o_const (.int 5) 16) := s_iconst (by decide +kernel : decode cX13_word 15 = .ok (.iconst 5, 1)) (by decide)
theorem oX13_word_16 : OpS mX13_word 16 (o_callS mX13_isIn 3 19) := s_callS ceX13_isIn (Or.inl wd_1162) wd_1163 (by decide +kernel : decode cX13_word 16 = .ok (.invokestatic 22, 3))
theorem oX13_word_19 : OpS mX13_word 19 (o_if (fun x => x = 0) 22 28) := s_if_ne (by decide +kernel : decode cX13_word 19 = .ok (.ifCond .ne 9, 3)) (by decide)
theorem oX13_word_22 : OpS mX13_word 22 (o_aload 0 23) := s_aload_n (by decide +kernel : decode cX13_word 22 = .ok (.aload_n 0, 1)) rfl
theorem oX13_word_23 : OpS mX13_word 23 (o_const (.int 1) 24) := s_iconst (by decide +kernel : decode cX13_word 23 = .ok (.iconst 1, 1)) (by decide)
theorem oX13_word_24 : OpS mX13_word 24 (o_callV mX13_no 13 1 27) := s_callV ceX13_no clsX13 (Or.inl wd_1149) wd_1151 selX13_no (by decide +kernel : decode cX13_word 24 = .ok (.invokevirtual 10, 3))
theorem oX13_word_27 : OpS mX13_word 27 (o_iret) := s_iret rfl (by decide +kernel : decode cX13_word 27 = .ok (.ireturn, 1))
theorem oX13_word_28 : OpS mX13_word 28 (o_aload 0 29) := s_aload_n (by decide +kernel : decode cX13_word 28 = .ok (.aload_n 0, 1)) rfl
theorem oX13_word_29 : OpS mX13_word 29 (o_callV mX13_look 13 0 32) := s_callV ceX13_look clsX13 (Or.inl wd_1501) wd_1503 selX13_look (by decide +kernel : decode cX13_word 29 = .ok (.invokevirtual 328, 3))
theorem oX13_word_32 : OpS mX13_word 32 (o_aload 0 33) := s_aload_n (by decide +kernel : decode cX13_word 32 = .ok (.aload_n 0, 1)) rfl
theorem oX13_word_33 : OpS mX13_word 33 (o_iload 1 34) := s_iload_n (by decide +kernel : decode cX13_word 33 = .ok (.iload_n 1, 1)) rfl
theorem oX13_word_34 : OpS mX13_word 34 (o_iload 2 35) := s_iload_n (by decide +kernel : decode cX13_word 34 = .ok (.iload_n 2, 1)) rfl
theorem oX13_word_35 : OpS mX13_word 35 (o_callV mX13_wordTold 13 2 38) := s_callV ceX13_wordTold clsX13 (Or.inl wd_1597) wd_1599 selX13_wordTold (by decide +kernel : decode cX13_word 35 = .ok (.invokevirtual 358, 3))
theorem oX13_word_38 : OpS mX13_word 38 (o_iret) := s_iret rfl (by decide +kernel : decode cX13_word 38 = .ok (.ireturn, 1))
theorem oX13_letter_0 : OpS mX13_letter 0 (o_aload 0 1) := s_aload_n (by decide +kernel : decode cX13_letter 0 = .ok (.aload_n 0, 1)) rfl
theorem oX13_letter_1 : OpS mX13_letter 1 (o_const (.int 0) 2) := s_iconst (by decide +kernel : decode cX13_letter 1 = .ok (.iconst 0, 1)) (by decide)
theorem oX13_letter_2 : OpS mX13_letter 2 (o_putI 13 0 5) := s_putI (k := 0) clsX13 (by decide) rfl (Or.inl ⟨wd_1244, Or.inl rfl⟩) (by decide +kernel : decode cX13_letter 2 = .ok (.putfield 1, 3)) rfl rfl
theorem oX13_letter_5 : OpS mX13_letter 5 (o_aload 0 6) := s_aload_n (by decide +kernel : decode cX13_letter 5 = .ok (.aload_n 0, 1)) rfl
theorem oX13_letter_6 : OpS mX13_letter 6 (o_iload 1 7) := s_iload_n (by decide +kernel : decode cX13_letter 6 = .ok (.iload_n 1, 1)) rfl
theorem oX13_letter_7 : OpS mX13_letter 7 (o_callV mX13_isThere 13 1 10) := s_callV ceX13_isThere clsX13 (Or.inl wd_1593) wd_1595 selX13_isThere (by decide +kernel : decode cX13_letter 7 = .ok (.invokevirtual 355, 3))
theorem oX13_letter_10 : OpS mX13_letter 10 (o_if (fun x => x = 0) 32 13) := s_if_eq (by decide +kernel : decode cX13_letter 10 = .ok (.ifCond .eq 22, 3)) (by decide)
theorem oX13_letter_13 : OpS mX13_letter 13 (o_iload 2 14) := s_iload_n (by decide +kernel : decode cX13_letter 13 = .ok (.iload_n 2, 1)) rfl
theorem oX13_letter_14 : OpS mX13_letter 14 (o_const (.int 0) 15) := s_iconst (by decide +kernel : decode cX13_letter 14 = .ok (.iconst 0, 1)) (by decide)
theorem oX13_letter_15 : OpS mX13_letter 15 (o_aload 0 16) := s_aload_n (by decide +kernel : decode cX13_letter 15 = .ok (.aload_n 0, 1)) rfl
theorem oX13_letter_16 : OpS mX13_letter 16 (o_getP 13 8 19) := s_getP (k := 8) clsX13 (by decide) rfl (Or.inl wd_1252) (by decide +kernel : decode cX13_letter 16 = .ok (.getfield 87, 3)) rfl
theorem oX13_letter_19 : OpS mX13_letter 19 (o_getP 12 5 22) := s_getP (k := 5) clsX12 (by decide) rfl (Or.inr ⟨_, wd_1187⟩) (by decide +kernel : decode cX13_letter 19 = .ok (.getfield 242, 3)) rfl
theorem oX13_letter_22 : OpS mX13_letter 22 (o_iload 1 23) := s_iload_n (by decide +kernel : decode cX13_letter 22 = .ok (.iload_n 1, 1)) rfl
theorem oX13_letter_23 : OpS mX13_letter 23 (o_iald 24) := s_iald (by decide +kernel : decode cX13_letter 23 = .ok (.iaload, 1))
theorem oX13_letter_24 : OpS mX13_letter 24 (o_const (.int 1) 25) := s_iconst (by decide +kernel : decode cX13_letter 24 = .ok (.iconst 1, 1)) (by decide)
theorem oX13_letter_25 : OpS mX13_letter 25 (o_ibin (fun x y => x - y) 26) := s_isub (by decide +kernel : decode cX13_letter 25 = .ok (.isub, 1))
theorem oX13_letter_26 : OpS mX13_letter 26 (o_callS mX13_isIn 3 29) := s_callS ceX13_isIn (Or.inl wd_1162) wd_1163 (by decide +kernel : decode cX13_letter 26 = .ok (.invokestatic 22, 3))
theorem oX13_letter_29 : OpS mX13_letter 29 (o_if (fun x => x = 0) 32 38) := s_if_ne (by decide +kernel : decode cX13_letter 29 = .ok (.ifCond .ne 9, 3)) (by decide)
theorem oX13_letter_32 : OpS mX13_letter 32 (o_aload 0 33) := s_aload_n (by decide +kernel : decode cX13_letter 32 = .ok (.aload_n 0, 1)) rfl
theorem oX13_letter_33 : OpS mX13_letter 33 (o_const (.int 1) 34) := s_iconst (by decide +kernel : decode cX13_letter 33 = .ok (.iconst 1, 1)) (by decide)
theorem oX13_letter_34 : OpS mX13_letter 34 (o_callV mX13_no 13 1 37) := s_callV ceX13_no clsX13 (Or.inl wd_1149) wd_1151 selX13_no (by decide +kernel : decode cX13_letter 34 = .ok (.invokevirtual 10, 3))
theorem oX13_letter_37 : OpS mX13_letter 37 (o_iret) := s_iret rfl (by decide +kernel : decode cX13_letter 37 = .ok (.ireturn, 1))
theorem oX13_letter_38 : OpS mX13_letter 38 (o_aload 0 39) := s_aload_n (by decide +kernel : decode cX13_letter 38 = .ok (.aload_n 0, 1)) rfl
theorem oX13_letter_39 : OpS mX13_letter 39 (o_getP 13 8 42) := s_getP (k := 8) clsX13 (by decide) rfl (Or.inl wd_1252) (by decide +kernel : decode cX13_letter 39 = .ok (.getfield 87, 3)) rfl
theorem oX13_letter_42 : OpS mX13_letter 42 (o_iload 1 43) := s_iload_n (by decide +kernel : decode cX13_letter 42 = .ok (.iload_n 1, 1)) rfl
theorem oX13_letter_43 : OpS mX13_letter 43 (o_iload 2 44) := s_iload_n (by decide +kernel : decode cX13_letter 43 = .ok (.iload_n 2, 1)) rfl
theorem oX13_letter_44 : OpS mX13_letter 44 (o_callV mX12_byteOf 12 2 47) := s_callV ceX12_byteOf clsX12 (Or.inl wd_1509) wd_1510 selX12_byteOf (by decide +kernel : decode cX13_letter 44 = .ok (.invokevirtual 290, 3))
theorem oX13_letter_47 : OpS mX13_letter 47 (o_iret) := s_iret rfl (by decide +kernel : decode cX13_letter 47 = .ok (.ireturn, 1))
theorem oX13_near_0 : OpS mX13_near 0 (o_aload 0 1) := s_aload_n (by decide +kernel : decode cX13_near 0 = .ok (.aload_n 0, 1)) rfl
theorem oX13_near_1 : OpS mX13_near 1 (o_const (.int 0) 2) := s_iconst (by decide +kernel : decode cX13_near 1 = .ok (.iconst 0, 1)) (by decide)
theorem oX13_near_2 : OpS mX13_near 2 (o_putI 13 0 5) := s_putI (k := 0) clsX13 (by decide) rfl (Or.inl ⟨wd_1244, Or.inl rfl⟩) (by decide +kernel : decode cX13_near 2 = .ok (.putfield 1, 3)) rfl rfl
theorem oX13_near_5 : OpS mX13_near 5 (o_aload 0 6) := s_aload_n (by decide +kernel : decode cX13_near 5 = .ok (.aload_n 0, 1)) rfl
theorem oX13_near_6 : OpS mX13_near 6 (o_iload 1 7) := s_iload_n (by decide +kernel : decode cX13_near 6 = .ok (.iload_n 1, 1)) rfl
theorem oX13_near_7 : OpS mX13_near 7 (o_iload 2 8) := s_iload_n (by decide +kernel : decode cX13_near 7 = .ok (.iload_n 2, 1)) rfl
theorem oX13_near_8 : OpS mX13_near 8 (o_callV mX13_isNear 13 2 11) := s_callV ceX13_isNear clsX13 (Or.inl wd_1513) wd_1515 selX13_isNear (by decide +kernel : decode cX13_near 8 = .ok (.invokevirtual 293, 3))
theorem oX13_near_11 : OpS mX13_near 11 (o_zret) := s_zret rfl (by decide +kernel : decode cX13_near 11 = .ok (.ireturn, 1))
theorem oX13_best_0 : OpS mX13_best 0 (o_aload 0 1) := s_aload_n (by decide +kernel : decode cX13_best 0 = .ok (.aload_n 0, 1)) rfl
theorem oX13_best_1 : OpS mX13_best 1 (o_const (.int 0) 2) := s_iconst (by decide +kernel : decode cX13_best 1 = .ok (.iconst 0, 1)) (by decide)
theorem oX13_best_2 : OpS mX13_best 2 (o_putI 13 0 5) := s_putI (k := 0) clsX13 (by decide) rfl (Or.inl ⟨wd_1244, Or.inl rfl⟩) (by decide +kernel : decode cX13_best 2 = .ok (.putfield 1, 3)) rfl rfl
theorem oX13_best_5 : OpS mX13_best 5 (o_const (.int (-1)) 6) := s_iconst (by decide +kernel : decode cX13_best 5 = .ok (.iconst (-1), 1)) (by decide)
theorem oX13_best_6 : OpS mX13_best 6 (o_istore 1 5 7) := s_istore_n (by decide +kernel : decode cX13_best 6 = .ok (.istore_n 1, 1)) rfl rfl
theorem oX13_best_7 : OpS mX13_best 7 (o_const (.int (-1)) 8) := s_iconst (by decide +kernel : decode cX13_best 7 = .ok (.iconst (-1), 1)) (by decide)
theorem oX13_best_8 : OpS mX13_best 8 (o_istore 2 5 9) := s_istore_n (by decide +kernel : decode cX13_best 8 = .ok (.istore_n 2, 1)) rfl rfl
theorem oX13_best_9 : OpS mX13_best 9 (o_const (.int 97) 11) := s_bipush (by decide +kernel : decode cX13_best 9 = .ok (.bipush 97, 2)) (by decide)
theorem oX13_best_11 : OpS mX13_best 11 (o_istore 3 5 12) := s_istore_n (by decide +kernel : decode cX13_best 11 = .ok (.istore_n 3, 1)) rfl rfl
theorem oX13_best_12 : OpS mX13_best 12 (o_iload 3 13) := s_iload_n (by decide +kernel : decode cX13_best 12 = .ok (.iload_n 3, 1)) rfl
theorem oX13_best_13 : OpS mX13_best 13 (o_const (.int 122) 15) := s_bipush (by decide +kernel : decode cX13_best 13 = .ok (.bipush 122, 2)) (by decide)
theorem oX13_best_15 : OpS mX13_best 15 (o_icmp (fun x y => y < x) 45 18) := s_icmp_gt (by decide +kernel : decode cX13_best 15 = .ok (.if_icmp .gt 30, 3)) (by decide)
theorem oX13_best_18 : OpS mX13_best 18 (o_aload 0 19) := s_aload_n (by decide +kernel : decode cX13_best 18 = .ok (.aload_n 0, 1)) rfl
theorem oX13_best_19 : OpS mX13_best 19 (o_iload 3 20) := s_iload_n (by decide +kernel : decode cX13_best 19 = .ok (.iload_n 3, 1)) rfl
theorem oX13_best_20 : OpS mX13_best 20 (o_callV mX13_weightsWith 13 1 23) := s_callV ceX13_weightsWith clsX13 (Or.inl wd_1617) wd_1619 selX13_weightsWith (by decide +kernel : decode cX13_best 20 = .ok (.invokevirtual 361, 3))
theorem oX13_best_23 : OpS mX13_best 23 (o_istore 4 5 25) := s_istore (by decide +kernel : decode cX13_best 23 = .ok (.istore 4, 2)) rfl
theorem oX13_best_25 : OpS mX13_best 25 (o_iload 4 27) := s_iload (by decide +kernel : decode cX13_best 25 = .ok (.iload 4, 2))
theorem oX13_best_27 : OpS mX13_best 27 (o_iload 2 28) := s_iload_n (by decide +kernel : decode cX13_best 27 = .ok (.iload_n 2, 1)) rfl
theorem oX13_best_28 : OpS mX13_best 28 (o_icmp (fun x y => y < x) 34 31) := s_icmp_gt (by decide +kernel : decode cX13_best 28 = .ok (.if_icmp .gt 6, 3)) (by decide)
theorem oX13_best_31 : OpS mX13_best 31 (o_goto 39) := s_goto (by decide +kernel : decode cX13_best 31 = .ok (.goto 8, 3)) (by decide)
theorem oX13_best_34 : OpS mX13_best 34 (o_iload 3 35) := s_iload_n (by decide +kernel : decode cX13_best 34 = .ok (.iload_n 3, 1)) rfl
theorem oX13_best_35 : OpS mX13_best 35 (o_istore 1 5 36) := s_istore_n (by decide +kernel : decode cX13_best 35 = .ok (.istore_n 1, 1)) rfl rfl
theorem oX13_best_36 : OpS mX13_best 36 (o_iload 4 38) := s_iload (by decide +kernel : decode cX13_best 36 = .ok (.iload 4, 2))
theorem oX13_best_38 : OpS mX13_best 38 (o_istore 2 5 39) := s_istore_n (by decide +kernel : decode cX13_best 38 = .ok (.istore_n 2, 1)) rfl rfl
theorem oX13_best_39 : OpS mX13_best 39 (o_iinc 3 5 1 42) := s_iinc (by decide +kernel : decode cX13_best 39 = .ok (.iinc 3 1, 3)) (by decide) rfl
theorem oX13_best_42 : OpS mX13_best 42 (o_goto 12) := s_goto (by decide +kernel : decode cX13_best 42 = .ok (.goto (-30), 3)) (by decide)
theorem oX13_best_45 : OpS mX13_best 45 (o_iload 1 46) := s_iload_n (by decide +kernel : decode cX13_best 45 = .ok (.iload_n 1, 1)) rfl
theorem oX13_best_46 : OpS mX13_best 46 (o_iret) := s_iret rfl (by decide +kernel : decode cX13_best 46 = .ok (.ireturn, 1))
theorem oX13_weightsWith_0 : OpS mX13_weightsWith 0 (o_const (.int (-1)) 1) := s_iconst (by decide +kernel : decode cX13_weightsWith 0 = .ok (.iconst (-1), 1)) (by decide)
theorem oX13_weightsWith_1 : OpS mX13_weightsWith 1 (o_istore 2 4 2) := s_istore_n (by decide +kernel : decode cX13_weightsWith 1 = .ok (.istore_n 2, 1)) rfl rfl
theorem oX13_weightsWith_2 : OpS mX13_weightsWith 2 (o_const (.int 0) 3) := s_iconst (by decide +kernel : decode cX13_weightsWith 2 = .ok (.iconst 0, 1)) (by decide)
theorem oX13_weightsWith_3 : OpS mX13_weightsWith 3 (o_istore 3 4 4) := s_istore_n (by decide +kernel : decode cX13_weightsWith 3 = .ok (.istore_n 3, 1)) rfl rfl
theorem oX13_weightsWith_4 : OpS mX13_weightsWith 4 (o_iload 3 5) := s_iload_n (by decide +kernel : decode cX13_weightsWith 4 = .ok (.iload_n 3, 1)) rfl
theorem oX13_weightsWith_5 : OpS mX13_weightsWith 5 (o_aload 0 6) := s_aload_n (by decide +kernel : decode cX13_weightsWith 5 = .ok (.aload_n 0, 1)) rfl
theorem oX13_weightsWith_6 : OpS mX13_weightsWith 6 (o_getP 13 8 9) := s_getP (k := 8) clsX13 (by decide) rfl (Or.inl wd_1252) (by decide +kernel : decode cX13_weightsWith 6 = .ok (.getfield 87, 3)) rfl
theorem oX13_weightsWith_9 : OpS mX13_weightsWith 9 (o_getI 12 1 12) := s_getI (k := 1) clsX12 (by decide) rfl (Or.inr ⟨_, wd_1179⟩) (by decide +kernel : decode cX13_weightsWith 9 = .ok (.getfield 181, 3)) rfl
theorem oX13_weightsWith_12 : OpS mX13_weightsWith 12 (o_icmp (fun x y => y ≤ x) 77 15) := s_icmp_ge (by decide +kernel : decode cX13_weightsWith 12 = .ok (.if_icmp .ge 65, 3)) (by decide)
theorem oX13_weightsWith_15 : OpS mX13_weightsWith 15 (o_aload 0 16) := s_aload_n (by decide +kernel : decode cX13_weightsWith 15 = .ok (.aload_n 0, 1)) rfl
theorem oX13_weightsWith_16 : OpS mX13_weightsWith 16 (o_iload 3 17) := s_iload_n (by decide +kernel : decode cX13_weightsWith 16 = .ok (.iload_n 3, 1)) rfl
theorem oX13_weightsWith_17 : OpS mX13_weightsWith 17 (o_callV mX13_isBeginning 13 1 20) := s_callV ceX13_isBeginning clsX13 (Or.inl wd_1553) wd_1555 selX13_isBeginning (by decide +kernel : decode cX13_weightsWith 17 = .ok (.invokevirtual 334, 3))
theorem oX13_weightsWith_20 : OpS mX13_weightsWith 20 (o_if (fun x => x = 0) 71 23) := s_if_eq (by decide +kernel : decode cX13_weightsWith 20 = .ok (.ifCond .eq 51, 3)) (by decide)
theorem oX13_weightsWith_23 : OpS mX13_weightsWith 23 (o_aload 0 24) := s_aload_n (by decide +kernel : decode cX13_weightsWith 23 = .ok (.aload_n 0, 1)) rfl
theorem oX13_weightsWith_24 : OpS mX13_weightsWith 24 (o_getP 13 8 27) := s_getP (k := 8) clsX13 (by decide) rfl (Or.inl wd_1252) (by decide +kernel : decode cX13_weightsWith 24 = .ok (.getfield 87, 3)) rfl
theorem oX13_weightsWith_27 : OpS mX13_weightsWith 27 (o_getP 12 5 30) := s_getP (k := 5) clsX12 (by decide) rfl (Or.inr ⟨_, wd_1187⟩) (by decide +kernel : decode cX13_weightsWith 27 = .ok (.getfield 242, 3)) rfl
theorem oX13_weightsWith_30 : OpS mX13_weightsWith 30 (o_iload 3 31) := s_iload_n (by decide +kernel : decode cX13_weightsWith 30 = .ok (.iload_n 3, 1)) rfl
theorem oX13_weightsWith_31 : OpS mX13_weightsWith 31 (o_iald 32) := s_iald (by decide +kernel : decode cX13_weightsWith 31 = .ok (.iaload, 1))
theorem oX13_weightsWith_32 : OpS mX13_weightsWith 32 (o_aload 0 33) := s_aload_n (by decide +kernel : decode cX13_weightsWith 32 = .ok (.aload_n 0, 1)) rfl
theorem oX13_weightsWith_33 : OpS mX13_weightsWith 33 (o_getI 13 18 36) := s_getI (k := 18) clsX13 (by decide) rfl (Or.inl wd_1262) (by decide +kernel : decode cX13_weightsWith 33 = .ok (.getfield 278, 3)) rfl
theorem oX13_weightsWith_36 : OpS mX13_weightsWith 36 (o_icmp (fun x y => x ≤ y) 71 39) := s_icmp_le (by decide +kernel : decode cX13_weightsWith 36 = .ok (.if_icmp .le 35, 3)) (by decide)
theorem oX13_weightsWith_39 : OpS mX13_weightsWith 39 (o_aload 0 40) := s_aload_n (by decide +kernel : decode cX13_weightsWith 39 = .ok (.aload_n 0, 1)) rfl
theorem oX13_weightsWith_40 : OpS mX13_weightsWith 40 (o_getP 13 8 43) := s_getP (k := 8) clsX13 (by decide) rfl (Or.inl wd_1252) (by decide +kernel : decode cX13_weightsWith 40 = .ok (.getfield 87, 3)) rfl
theorem oX13_weightsWith_43 : OpS mX13_weightsWith 43 (o_iload 3 44) := s_iload_n (by decide +kernel : decode cX13_weightsWith 43 = .ok (.iload_n 3, 1)) rfl
theorem oX13_weightsWith_44 : OpS mX13_weightsWith 44 (o_aload 0 45) := s_aload_n (by decide +kernel : decode cX13_weightsWith 44 = .ok (.aload_n 0, 1)) rfl
theorem oX13_weightsWith_45 : OpS mX13_weightsWith 45 (o_getI 13 18 48) := s_getI (k := 18) clsX13 (by decide) rfl (Or.inl wd_1262) (by decide +kernel : decode cX13_weightsWith 45 = .ok (.getfield 278, 3)) rfl
theorem oX13_weightsWith_48 : OpS mX13_weightsWith 48 (o_callV mX12_byteOf 12 2 51) := s_callV ceX12_byteOf clsX12 (Or.inl wd_1509) wd_1510 selX12_byteOf (by decide +kernel : decode cX13_weightsWith 48 = .ok (.invokevirtual 290, 3))
theorem oX13_weightsWith_51 : OpS mX13_weightsWith 51 (o_iload 1 52) := s_iload_n (by decide +kernel : decode cX13_weightsWith 51 = .ok (.iload_n 1, 1)) rfl
theorem oX13_weightsWith_52 : OpS mX13_weightsWith 52 (o_icmp (fun x y => x = y) 55 71) := s_icmp_ne (by decide +kernel : decode cX13_weightsWith 52 = .ok (.if_icmp .ne 19, 3)) (by decide)
theorem oX13_weightsWith_55 : OpS mX13_weightsWith 55 (o_const (.int 0) 56) := s_iconst (by decide +kernel : decode cX13_weightsWith 55 = .ok (.iconst 0, 1)) (by decide)
theorem oX13_weightsWith_56 : OpS mX13_weightsWith 56 (o_iload 2 57) := s_iload_n (by decide +kernel : decode cX13_weightsWith 56 = .ok (.iload_n 2, 1)) rfl
theorem oX13_weightsWith_57 : OpS mX13_weightsWith 57 (o_max 60) := s_max wd_1521 wd_43 wd_3 wd_44 (by decide +kernel : decode cX13_weightsWith 57 = .ok (.invokestatic 287, 3))
theorem oX13_weightsWith_60 : OpS mX13_weightsWith 60 (o_aload 0 61) := s_aload_n (by decide +kernel : decode cX13_weightsWith 60 = .ok (.aload_n 0, 1)) rfl
theorem oX13_weightsWith_61 : OpS mX13_weightsWith 61 (o_getP 13 8 64) := s_getP (k := 8) clsX13 (by decide) rfl (Or.inl wd_1252) (by decide +kernel : decode cX13_weightsWith 61 = .ok (.getfield 87, 3)) rfl
theorem oX13_weightsWith_64 : OpS mX13_weightsWith 64 (o_getP 12 6 67) := s_getP (k := 6) clsX12 (by decide) rfl (Or.inr ⟨_, wd_1189⟩) (by decide +kernel : decode cX13_weightsWith 64 = .ok (.getfield 243, 3)) rfl
theorem oX13_weightsWith_67 : OpS mX13_weightsWith 67 (o_iload 3 68) := s_iload_n (by decide +kernel : decode cX13_weightsWith 67 = .ok (.iload_n 3, 1)) rfl
theorem oX13_weightsWith_68 : OpS mX13_weightsWith 68 (o_iald 69) := s_iald (by decide +kernel : decode cX13_weightsWith 68 = .ok (.iaload, 1))
theorem oX13_weightsWith_69 : OpS mX13_weightsWith 69 (o_ibin (fun x y => x + y) 70) := s_iadd (by decide +kernel : decode cX13_weightsWith 69 = .ok (.iadd, 1))
theorem oX13_weightsWith_70 : OpS mX13_weightsWith 70 (o_istore 2 4 71) := s_istore_n (by decide +kernel : decode cX13_weightsWith 70 = .ok (.istore_n 2, 1)) rfl rfl
theorem oX13_weightsWith_71 : OpS mX13_weightsWith 71 (o_iinc 3 4 1 74) := s_iinc (by decide +kernel : decode cX13_weightsWith 71 = .ok (.iinc 3 1, 3)) (by decide) rfl
theorem oX13_weightsWith_74 : OpS mX13_weightsWith 74 (o_goto 4) := s_goto (by decide +kernel : decode cX13_weightsWith 74 = .ok (.goto (-70), 3)) (by decide)
theorem oX13_weightsWith_77 : OpS mX13_weightsWith 77 (o_iload 2 78) := s_iload_n (by decide +kernel : decode cX13_weightsWith 77 = .ok (.iload_n 2, 1)) rfl
theorem oX13_weightsWith_78 : OpS mX13_weightsWith 78 (o_iret) := s_iret rfl (by decide +kernel : decode cX13_weightsWith 78 = .ok (.ireturn, 1))
theorem oX13_putAside_0 : OpS mX13_putAside 0 (o_aload 0 1) := s_aload_n (by decide +kernel : decode cX13_putAside 0 = .ok (.aload_n 0, 1)) rfl
theorem oX13_putAside_1 : OpS mX13_putAside 1 (o_getP 13 17 4) := s_getP (k := 17) clsX13 (by decide) rfl (Or.inl wd_1261) (by decide +kernel : decode cX13_putAside 1 = .ok (.getfield 100, 3)) rfl
theorem oX13_putAside_4 : OpS mX13_putAside 4 (o_const (.int 0) 5) := s_iconst (by decide +kernel : decode cX13_putAside 4 = .ok (.iconst 0, 1)) (by decide)
theorem oX13_putAside_5 : OpS mX13_putAside 5 (o_aload 0 6) := s_aload_n (by decide +kernel : decode cX13_putAside 5 = .ok (.aload_n 0, 1)) rfl
theorem oX13_putAside_6 : OpS mX13_putAside 6 (o_getP 13 22 9) := s_getP (k := 22) clsX13 (by decide) rfl (Or.inl wd_1266) (by decide +kernel : decode cX13_putAside 6 = .ok (.getfield 109, 3)) rfl
theorem oX13_putAside_9 : OpS mX13_putAside 9 (o_const (.int 0) 10) := s_iconst (by decide +kernel : decode cX13_putAside 9 = .ok (.iconst 0, 1)) (by decide)
theorem oX13_putAside_10 : OpS mX13_putAside 10 (o_const (.int 20) 12) := s_bipush (by decide +kernel : decode cX13_putAside 10 = .ok (.bipush 20, 2)) (by decide)
theorem oX13_putAside_12 : OpS mX13_putAside 12 (o_copy 15) := s_copy wd_1629 wd_1631 wd_1630 wd_27 (by decide +kernel : decode cX13_putAside 12 = .ok (.invokestatic 364, 3))
theorem oX13_putAside_15 : OpS mX13_putAside 15 (o_vret) := s_vret rfl (by decide +kernel : decode cX13_putAside 15 = .ok (.return_, 1))
theorem oX13_putBack_0 : OpS mX13_putBack 0 (o_aload 0 1) := s_aload_n (by decide +kernel : decode cX13_putBack 0 = .ok (.aload_n 0, 1)) rfl
theorem oX13_putBack_1 : OpS mX13_putBack 1 (o_getP 13 22 4) := s_getP (k := 22) clsX13 (by decide) rfl (Or.inl wd_1266) (by decide +kernel : decode cX13_putBack 1 = .ok (.getfield 109, 3)) rfl
theorem oX13_putBack_4 : OpS mX13_putBack 4 (o_const (.int 0) 5) := s_iconst (by decide +kernel : decode cX13_putBack 4 = .ok (.iconst 0, 1)) (by decide)
theorem oX13_putBack_5 : OpS mX13_putBack 5 (o_aload 0 6) := s_aload_n (by decide +kernel : decode cX13_putBack 5 = .ok (.aload_n 0, 1)) rfl
theorem oX13_putBack_6 : OpS mX13_putBack 6 (o_getP 13 17 9) := s_getP (k := 17) clsX13 (by decide) rfl (Or.inl wd_1261) (by decide +kernel : decode cX13_putBack 6 = .ok (.getfield 100, 3)) rfl
theorem oX13_putBack_9 : OpS mX13_putBack 9 (o_const (.int 0) 10) := s_iconst (by decide +kernel : decode cX13_putBack 9 = .ok (.iconst 0, 1)) (by decide)
theorem oX13_putBack_10 : OpS mX13_putBack 10 (o_const (.int 20) 12) := s_bipush (by decide +kernel : decode cX13_putBack 10 = .ok (.bipush 20, 2)) (by decide)
theorem oX13_putBack_12 : OpS mX13_putBack 12 (o_copy 15) := s_copy wd_1629 wd_1631 wd_1630 wd_27 (by decide +kernel : decode cX13_putBack 12 = .ok (.invokestatic 364, 3))
theorem oX13_putBack_15 : OpS mX13_putBack 15 (o_aload 0 16) := s_aload_n (by decide +kernel : decode cX13_putBack 15 = .ok (.aload_n 0, 1)) rfl
theorem oX13_putBack_16 : OpS mX13_putBack 16 (o_iload 1 17) := s_iload_n (by decide +kernel : decode cX13_putBack 16 = .ok (.iload_n 1, 1)) rfl
theorem oX13_putBack_17 : OpS mX13_putBack 17 (o_putI 13 18 20) := s_putI (k := 18) clsX13 (by decide) rfl (Or.inl ⟨wd_1262, Or.inl rfl⟩) (by decide +kernel : decode cX13_putBack 17 = .ok (.putfield 278, 3)) rfl rfl
theorem oX13_putBack_20 : OpS mX13_putBack 20 (o_vret) := s_vret rfl (by decide +kernel : decode cX13_putBack 20 = .ok (.return_, 1))
theorem oX13_strokes_0 : OpS mX13_strokes 0 (o_aload 0 1) := s_aload_n (by decide +kernel : decode cX13_strokes 0 = .ok (.aload_n 0, 1)) rfl
theorem oX13_strokes_1 : OpS mX13_strokes 1 (o_const (.int 0) 2) := s_iconst (by decide +kernel : decode cX13_strokes 1 = .ok (.iconst 0, 1)) (by decide)
theorem oX13_strokes_2 : OpS mX13_strokes 2 (o_putI 13 0 5) := s_putI (k := 0) clsX13 (by decide) rfl (Or.inl ⟨wd_1244, Or.inl rfl⟩) (by decide +kernel : decode cX13_strokes 2 = .ok (.putfield 1, 3)) rfl rfl
theorem oX13_strokes_5 : OpS mX13_strokes 5 (o_aload 0 6) := s_aload_n (by decide +kernel : decode cX13_strokes 5 = .ok (.aload_n 0, 1)) rfl
theorem oX13_strokes_6 : OpS mX13_strokes 6 (o_iload 1 7) := s_iload_n (by decide +kernel : decode cX13_strokes 6 = .ok (.iload_n 1, 1)) rfl
theorem oX13_strokes_7 : OpS mX13_strokes 7 (o_callV mX13_isThere 13 1 10) := s_callV ceX13_isThere clsX13 (Or.inl wd_1593) wd_1595 selX13_isThere (by decide +kernel : decode cX13_strokes 7 = .ok (.invokevirtual 355, 3))
theorem oX13_strokes_10 : OpS mX13_strokes 10 (o_if (fun x => x = 0) 13 19) := s_if_ne (by decide +kernel : decode cX13_strokes 10 = .ok (.ifCond .ne 9, 3)) (by decide)
theorem oX13_strokes_13 : OpS mX13_strokes 13 (o_aload 0 14) := s_aload_n (by decide +kernel : decode cX13_strokes 13 = .ok (.aload_n 0, 1)) rfl
theorem oX13_strokes_14 : OpS mX13_strokes 14 (o_const (.int 1) 15) := s_iconst (by decide +kernel : decode cX13_strokes 14 = .ok (.iconst 1, 1)) (by decide)
theorem oX13_strokes_15 : OpS mX13_strokes 15 (o_callV mX13_no 13 1 18) := s_callV ceX13_no clsX13 (Or.inl wd_1149) wd_1151 selX13_no (by decide +kernel : decode cX13_strokes 15 = .ok (.invokevirtual 10, 3))
theorem oX13_strokes_18 : OpS mX13_strokes 18 (o_iret) := s_iret rfl (by decide +kernel : decode cX13_strokes 18 = .ok (.ireturn, 1))
theorem oX13_strokes_19 : OpS mX13_strokes 19 (o_aload 0 20) := s_aload_n (by decide +kernel : decode cX13_strokes 19 = .ok (.aload_n 0, 1)) rfl
theorem oX13_strokes_20 : OpS mX13_strokes 20 (o_getI 13 18 23) := s_getI (k := 18) clsX13 (by decide) rfl (Or.inl wd_1262) (by decide +kernel : decode cX13_strokes 20 = .ok (.getfield 278, 3)) rfl
theorem oX13_strokes_23 : OpS mX13_strokes 23 (o_istore 2 4 24) := s_istore_n (by decide +kernel : decode cX13_strokes 23 = .ok (.istore_n 2, 1)) rfl rfl
theorem oX13_strokes_24 : OpS mX13_strokes 24 (o_aload 0 25) := s_aload_n (by decide +kernel : decode cX13_strokes 24 = .ok (.aload_n 0, 1)) rfl
theorem oX13_strokes_25 : OpS mX13_strokes 25 (o_callV mX13_putAside 13 0 28) := s_callV ceX13_putAside clsX13 (Or.inl wd_1625) wd_1627 selX13_putAside (by decide +kernel : decode cX13_strokes 25 = .ok (.invokevirtual 370, 3))
theorem oX13_strokes_28 : OpS mX13_strokes 28 (o_aload 0 29) := s_aload_n (by decide +kernel : decode cX13_strokes 28 = .ok (.aload_n 0, 1)) rfl
theorem oX13_strokes_29 : OpS mX13_strokes 29 (o_const (.int 0) 30) := s_iconst (by decide +kernel : decode cX13_strokes 29 = .ok (.iconst 0, 1)) (by decide)
theorem oX13_strokes_30 : OpS mX13_strokes 30 (o_putI 13 18 33) := s_putI (k := 18) clsX13 (by decide) rfl (Or.inl ⟨wd_1262, Or.inl rfl⟩) (by decide +kernel : decode cX13_strokes 30 = .ok (.putfield 278, 3)) rfl rfl
theorem oX13_strokes_33 : OpS mX13_strokes 33 (o_aload 0 34) := s_aload_n (by decide +kernel : decode cX13_strokes 33 = .ok (.aload_n 0, 1)) rfl
theorem oX13_strokes_34 : OpS mX13_strokes 34 (o_iload 1 35) := s_iload_n (by decide +kernel : decode cX13_strokes 34 = .ok (.iload_n 1, 1)) rfl
theorem oX13_strokes_35 : OpS mX13_strokes 35 (o_callV mX13_strokesOf 13 1 38) := s_callV ceX13_strokesOf clsX13 (Or.inl wd_1632) wd_1634 selX13_strokesOf (by decide +kernel : decode cX13_strokes 35 = .ok (.invokevirtual 373, 3))
theorem oX13_strokes_38 : OpS mX13_strokes 38 (o_istore 3 4 39) := s_istore_n (by decide +kernel : decode cX13_strokes 38 = .ok (.istore_n 3, 1)) rfl rfl
theorem oX13_strokes_39 : OpS mX13_strokes 39 (o_aload 0 40) := s_aload_n (by decide +kernel : decode cX13_strokes 39 = .ok (.aload_n 0, 1)) rfl
theorem oX13_strokes_40 : OpS mX13_strokes 40 (o_iload 2 41) := s_iload_n (by decide +kernel : decode cX13_strokes 40 = .ok (.iload_n 2, 1)) rfl
theorem oX13_strokes_41 : OpS mX13_strokes 41 (o_callV mX13_putBack 13 1 44) := s_callV ceX13_putBack clsX13 (Or.inl wd_1636) wd_1638 selX13_putBack (by decide +kernel : decode cX13_strokes 41 = .ok (.invokevirtual 376, 3))
theorem oX13_strokes_44 : OpS mX13_strokes 44 (o_iload 3 45) := s_iload_n (by decide +kernel : decode cX13_strokes 44 = .ok (.iload_n 3, 1)) rfl
theorem oX13_strokes_45 : OpS mX13_strokes 45 (o_iret) := s_iret rfl (by decide +kernel : decode cX13_strokes 45 = .ok (.ireturn, 1))
theorem oX13_strokesOf_0 : OpS mX13_strokesOf 0 (o_aload 0 1) := s_aload_n (by decide +kernel : decode cX13_strokesOf 0 = .ok (.aload_n 0, 1)) rfl
theorem oX13_strokesOf_1 : OpS mX13_strokesOf 1 (o_callV mX13_look 13 0 4) := s_callV ceX13_look clsX13 (Or.inl wd_1501) wd_1503 selX13_look (by decide +kernel : decode cX13_strokesOf 1 = .ok (.invokevirtual 328, 3))
theorem oX13_strokesOf_4 : OpS mX13_strokesOf 4 (o_aload 0 5) := s_aload_n (by decide +kernel : decode cX13_strokesOf 4 = .ok (.aload_n 0, 1)) rfl
theorem oX13_strokesOf_5 : OpS mX13_strokesOf 5 (o_iload 1 6) := s_iload_n (by decide +kernel : decode cX13_strokesOf 5 = .ok (.iload_n 1, 1)) rfl
theorem oX13_strokesOf_6 : OpS mX13_strokesOf 6 (o_callV mX13_placeOf 13 1 9) := s_callV ceX13_placeOf clsX13 (Or.inl wd_1601) wd_1603 selX13_placeOf (by decide +kernel : decode cX13_strokesOf 6 = .ok (.invokevirtual 352, 3))
theorem oX13_strokesOf_9 : OpS mX13_strokesOf 9 (o_const (.int 0) 10) := s_iconst (by decide +kernel : decode cX13_strokesOf 9 = .ok (.iconst 0, 1)) (by decide)
theorem oX13_strokesOf_10 : OpS mX13_strokesOf 10 (o_const (.int 4) 11) := s_iconst (by decide +kernel : decode cX13_strokesOf 10 = .ok (.iconst 4, 1)) (by decide)
theorem oX13_strokesOf_11 : OpS mX13_strokesOf 11 (o_callS mX13_isIn 3 14) := s_callS ceX13_isIn (Or.inl wd_1162) wd_1163 (by decide +kernel : decode cX13_strokesOf 11 = .ok (.invokestatic 22, 3))
theorem oX13_strokesOf_14 : OpS mX13_strokesOf 14 (o_if (fun x => x = 0) 17 33) := s_if_ne (by decide +kernel : decode cX13_strokesOf 14 = .ok (.ifCond .ne 19, 3)) (by decide)
theorem oX13_strokesOf_17 : OpS mX13_strokesOf 17 (o_aload 0 18) := s_aload_n (by decide +kernel : decode cX13_strokesOf 17 = .ok (.aload_n 0, 1)) rfl
theorem oX13_strokesOf_18 : OpS mX13_strokesOf 18 (o_getI 13 18 21) := s_getI (k := 18) clsX13 (by decide) rfl (Or.inl wd_1262) (by decide +kernel : decode cX13_strokesOf 18 = .ok (.getfield 278, 3)) rfl
theorem oX13_strokesOf_21 : OpS mX13_strokesOf 21 (o_aload 0 22) := s_aload_n (by decide +kernel : decode cX13_strokesOf 21 = .ok (.aload_n 0, 1)) rfl
theorem oX13_strokesOf_22 : OpS mX13_strokesOf 22 (o_getP 13 8 25) := s_getP (k := 8) clsX13 (by decide) rfl (Or.inl wd_1252) (by decide +kernel : decode cX13_strokesOf 22 = .ok (.getfield 87, 3)) rfl
theorem oX13_strokesOf_25 : OpS mX13_strokesOf 25 (o_getP 12 5 28) := s_getP (k := 5) clsX12 (by decide) rfl (Or.inr ⟨_, wd_1187⟩) (by decide +kernel : decode cX13_strokesOf 25 = .ok (.getfield 242, 3)) rfl
theorem oX13_strokesOf_28 : OpS mX13_strokesOf 28 (o_iload 1 29) := s_iload_n (by decide +kernel : decode cX13_strokesOf 28 = .ok (.iload_n 1, 1)) rfl
theorem oX13_strokesOf_29 : OpS mX13_strokesOf 29 (o_iald 30) := s_iald (by decide +kernel : decode cX13_strokesOf 29 = .ok (.iaload, 1))
theorem oX13_strokesOf_30 : OpS mX13_strokesOf 30 (o_icmp (fun x y => x = y) 33 40) := s_icmp_ne (by decide +kernel : decode cX13_strokesOf 30 = .ok (.if_icmp .ne 10, 3)) (by decide)
theorem oX13_strokesOf_33 : OpS mX13_strokesOf 33 (o_aload 0 34) := s_aload_n (by decide +kernel : decode cX13_strokesOf 33 = .ok (.aload_n 0, 1)) rfl
theorem oX13_strokesOf_34 : OpS mX13_strokesOf 34 (o_getI 13 18 37) := s_getI (k := 18) clsX13 (by decide) rfl (Or.inl wd_1262) (by decide +kernel : decode cX13_strokesOf 34 = .ok (.getfield 278, 3)) rfl
theorem oX13_strokesOf_37 : OpS mX13_strokesOf 37 (o_const (.int 1) 38) := s_iconst (by decide +kernel : decode cX13_strokesOf 37 = .ok (.iconst 1, 1)) (by decide)
theorem oX13_strokesOf_38 : OpS mX13_strokesOf 38 (o_ibin (fun x y => x + y) 39) := s_iadd (by decide +kernel : decode cX13_strokesOf 38 = .ok (.iadd, 1))
theorem oX13_strokesOf_39 : OpS mX13_strokesOf 39 (o_iret) := s_iret rfl (by decide +kernel : decode cX13_strokesOf 39 = .ok (.ireturn, 1))
theorem oX13_strokesOf_40 : OpS mX13_strokesOf 40 (o_aload 0 41) := s_aload_n (by decide +kernel : decode cX13_strokesOf 40 = .ok (.aload_n 0, 1)) rfl
theorem oX13_strokesOf_41 : OpS mX13_strokesOf 41 (o_getP 13 8 44) := s_getP (k := 8) clsX13 (by decide) rfl (Or.inl wd_1252) (by decide +kernel : decode cX13_strokesOf 41 = .ok (.getfield 87, 3)) rfl
theorem oX13_strokesOf_44 : OpS mX13_strokesOf 44 (o_iload 1 45) := s_iload_n (by decide +kernel : decode cX13_strokesOf 44 = .ok (.iload_n 1, 1)) rfl
theorem oX13_strokesOf_45 : OpS mX13_strokesOf 45 (o_aload 0 46) := s_aload_n (by decide +kernel : decode cX13_strokesOf 45 = .ok (.aload_n 0, 1)) rfl
theorem oX13_strokesOf_46 : OpS mX13_strokesOf 46 (o_getI 13 18 49) := s_getI (k := 18) clsX13 (by decide) rfl (Or.inl wd_1262) (by decide +kernel : decode cX13_strokesOf 46 = .ok (.getfield 278, 3)) rfl
theorem oX13_strokesOf_49 : OpS mX13_strokesOf 49 (o_callV mX12_byteOf 12 2 52) := s_callV ceX12_byteOf clsX12 (Or.inl wd_1509) wd_1510 selX12_byteOf (by decide +kernel : decode cX13_strokesOf 49 = .ok (.invokevirtual 290, 3))
theorem oX13_strokesOf_52 : OpS mX13_strokesOf 52 (o_istore 2 3 53) := s_istore_n (by decide +kernel : decode cX13_strokesOf 52 = .ok (.istore_n 2, 1)) rfl rfl
theorem oX13_strokesOf_53 : OpS mX13_strokesOf 53 (o_iload 2 54) := s_iload_n (by decide +kernel : decode cX13_strokesOf 53 = .ok (.iload_n 2, 1)) rfl
theorem oX13_strokesOf_54 : OpS mX13_strokesOf 54 (o_callS mX13_isLetter 1 57) := s_callS ceX13_isLetter (Or.inl wd_1345) wd_1346 (by decide +kernel : decode cX13_strokesOf 54 = .ok (.invokestatic 45, 3))
theorem oX13_strokesOf_57 : OpS mX13_strokesOf 57 (o_if (fun x => x = 0) 60 62) := s_if_ne (by decide +kernel : decode cX13_strokesOf 57 = .ok (.ifCond .ne 5, 3)) (by decide)
theorem oX13_strokesOf_60 : OpS mX13_strokesOf 60 (o_const (.int (-1)) 61) := s_iconst (by decide +kernel : decode cX13_strokesOf 60 = .ok (.iconst (-1), 1)) (by decide)
theorem oX13_strokesOf_61 : OpS mX13_strokesOf 61 (o_iret) := s_iret rfl (by decide +kernel : decode cX13_strokesOf 61 = .ok (.ireturn, 1))
theorem oX13_strokesOf_62 : OpS mX13_strokesOf 62 (o_aload 0 63) := s_aload_n (by decide +kernel : decode cX13_strokesOf 62 = .ok (.aload_n 0, 1)) rfl
theorem oX13_strokesOf_63 : OpS mX13_strokesOf 63 (o_getP 13 17 66) := s_getP (k := 17) clsX13 (by decide) rfl (Or.inl wd_1261) (by decide +kernel : decode cX13_strokesOf 63 = .ok (.getfield 100, 3)) rfl
theorem oX13_strokesOf_66 : OpS mX13_strokesOf 66 (o_aload 0 67) := s_aload_n (by decide +kernel : decode cX13_strokesOf 66 = .ok (.aload_n 0, 1)) rfl
theorem oX13_strokesOf_67 : OpS mX13_strokesOf 67 (o_getI 13 18 70) := s_getI (k := 18) clsX13 (by decide) rfl (Or.inl wd_1262) (by decide +kernel : decode cX13_strokesOf 67 = .ok (.getfield 278, 3)) rfl
theorem oX13_strokesOf_70 : OpS mX13_strokesOf 70 (o_iload 2 71) := s_iload_n (by decide +kernel : decode cX13_strokesOf 70 = .ok (.iload_n 2, 1)) rfl
theorem oX13_strokesOf_71 : OpS mX13_strokesOf 71 (o_iast 72) := s_iast (by decide +kernel : decode cX13_strokesOf 71 = .ok (.iastore, 1))
theorem oX13_strokesOf_72 : OpS mX13_strokesOf 72 (o_aload 0 73) := s_aload_n (by decide +kernel : decode cX13_strokesOf 72 = .ok (.aload_n 0, 1)) rfl
theorem oX13_strokesOf_73 : OpS mX13_strokesOf 73 (o_dup 74) := s_dup (by decide +kernel : decode cX13_strokesOf 73 = .ok (.dup, 1))
theorem oX13_strokesOf_74 : OpS mX13_strokesOf 74 (o_getI 13 18 77) := s_getI (k := 18) clsX13 (by decide) rfl (Or.inl wd_1262) (by decide +kernel : decode cX13_strokesOf 74 = .ok (.getfield 278, 3)) rfl
theorem oX13_strokesOf_77 : OpS mX13_strokesOf 77 (o_const (.int 1) 78) := s_iconst (by decide +kernel : decode cX13_strokesOf 77 = .ok (.iconst 1, 1)) (by decide)
theorem oX13_strokesOf_78 : OpS mX13_strokesOf 78 (o_ibin (fun x y => x + y) 79) := s_iadd (by decide +kernel : decode cX13_strokesOf 78 = .ok (.iadd, 1))
theorem oX13_strokesOf_79 : OpS mX13_strokesOf 79 (o_putI 13 18 82) := s_putI (k := 18) clsX13 (by decide) rfl (Or.inl ⟨wd_1262, Or.inl rfl⟩) (by decide +kernel : decode cX13_strokesOf 79 = .ok (.putfield 278, 3)) rfl rfl
theorem oX13_strokesOf_82 : OpS mX13_strokesOf 82 (o_goto 0) := s_goto (by decide +kernel : decode cX13_strokesOf 82 = .ok (.goto (-82), 3)) (by decide)
theorem oX13_needs_0 : OpS mX13_needs 0 (o_aload 0 1) := s_aload_n (by decide +kernel : decode cX13_needs 0 = .ok (.aload_n 0, 1)) rfl
theorem oX13_needs_1 : OpS mX13_needs 1 (o_const (.int 0) 2) := s_iconst (by decide +kernel : decode cX13_needs 1 = .ok (.iconst 0, 1)) (by decide)
theorem oX13_needs_2 : OpS mX13_needs 2 (o_putI 13 0 5) := s_putI (k := 0) clsX13 (by decide) rfl (Or.inl ⟨wd_1244, Or.inl rfl⟩) (by decide +kernel : decode cX13_needs 2 = .ok (.putfield 1, 3)) rfl rfl
theorem oX13_needs_5 : OpS mX13_needs 5 (o_aload 0 6) := s_aload_n (by decide +kernel : decode cX13_needs 5 = .ok (.aload_n 0, 1)) rfl
theorem oX13_needs_6 : OpS mX13_needs 6 (o_iload 1 7) := s_iload_n (by decide +kernel : decode cX13_needs 6 = .ok (.iload_n 1, 1)) rfl
theorem oX13_needs_7 : OpS mX13_needs 7 (o_callV mX13_isThere 13 1 10) := s_callV ceX13_isThere clsX13 (Or.inl wd_1593) wd_1595 selX13_isThere (by decide +kernel : decode cX13_needs 7 = .ok (.invokevirtual 355, 3))
theorem oX13_needs_10 : OpS mX13_needs 10 (o_if (fun x => x = 0) 13 19) := s_if_ne (by decide +kernel : decode cX13_needs 10 = .ok (.ifCond .ne 9, 3)) (by decide)
theorem oX13_needs_13 : OpS mX13_needs 13 (o_aload 0 14) := s_aload_n (by decide +kernel : decode cX13_needs 13 = .ok (.aload_n 0, 1)) rfl
theorem oX13_needs_14 : OpS mX13_needs 14 (o_const (.int 1) 15) := s_iconst (by decide +kernel : decode cX13_needs 14 = .ok (.iconst 1, 1)) (by decide)
theorem oX13_needs_15 : OpS mX13_needs 15 (o_callV mX13_no 13 1 18) := s_callV ceX13_no clsX13 (Or.inl wd_1149) wd_1151 selX13_no (by decide +kernel : decode cX13_needs 15 = .ok (.invokevirtual 10, 3))
theorem oX13_needs_18 : OpS mX13_needs 18 (o_iret) := s_iret rfl (by decide +kernel : decode cX13_needs 18 = .ok (.ireturn, 1))
theorem oX13_needs_19 : OpS mX13_needs 19 (o_aload 0 20) := s_aload_n (by decide +kernel : decode cX13_needs 19 = .ok (.aload_n 0, 1)) rfl
theorem oX13_needs_20 : OpS mX13_needs 20 (o_callV mX13_look 13 0 23) := s_callV ceX13_look clsX13 (Or.inl wd_1501) wd_1503 selX13_look (by decide +kernel : decode cX13_needs 20 = .ok (.invokevirtual 328, 3))
theorem oX13_needs_23 : OpS mX13_needs 23 (o_aload 0 24) := s_aload_n (by decide +kernel : decode cX13_needs 23 = .ok (.aload_n 0, 1)) rfl
theorem oX13_needs_24 : OpS mX13_needs 24 (o_iload 1 25) := s_iload_n (by decide +kernel : decode cX13_needs 24 = .ok (.iload_n 1, 1)) rfl
theorem oX13_needs_25 : OpS mX13_needs 25 (o_callV mX13_placeOf 13 1 28) := s_callV ceX13_placeOf clsX13 (Or.inl wd_1601) wd_1603 selX13_placeOf (by decide +kernel : decode cX13_needs 25 = .ok (.invokevirtual 352, 3))
theorem oX13_needs_28 : OpS mX13_needs 28 (o_const (.int (-1)) 29) := s_iconst (by decide +kernel : decode cX13_needs 28 = .ok (.iconst (-1), 1)) (by decide)
theorem oX13_needs_29 : OpS mX13_needs 29 (o_icmp (fun x y => x = y) 32 34) := s_icmp_ne (by decide +kernel : decode cX13_needs 29 = .ok (.if_icmp .ne 5, 3)) (by decide)
theorem oX13_needs_32 : OpS mX13_needs 32 (o_const (.int (-1)) 33) := s_iconst (by decide +kernel : decode cX13_needs 32 = .ok (.iconst (-1), 1)) (by decide)
theorem oX13_needs_33 : OpS mX13_needs 33 (o_iret) := s_iret rfl (by decide +kernel : decode cX13_needs 33 = .ok (.ireturn, 1))
theorem oX13_needs_34 : OpS mX13_needs 34 (o_aload 0 35) := s_aload_n (by decide +kernel : decode cX13_needs 34 = .ok (.aload_n 0, 1)) rfl
theorem oX13_needs_35 : OpS mX13_needs 35 (o_getP 13 26 38) := s_getP (k := 26) clsX13 (by decide) rfl (Or.inl wd_1270) (by decide +kernel : decode cX13_needs 35 = .ok (.getfield 121, 3)) rfl
theorem oX13_needs_38 : OpS mX13_needs 38 (o_const (.int 0) 39) := s_iconst (by decide +kernel : decode cX13_needs 38 = .ok (.iconst 0, 1)) (by decide)
theorem oX13_needs_39 : OpS mX13_needs 39 (o_iald 40) := s_iald (by decide +kernel : decode cX13_needs 39 = .ok (.iaload, 1))
theorem oX13_needs_40 : OpS mX13_needs 40 (o_iload 1 41) := s_iload_n (by decide +kernel : decode cX13_needs 40 = .ok (.iload_n 1, 1)) rfl
theorem oX13_needs_41 : OpS mX13_needs 41 (o_icmp (fun x y => x = y) 44 65) := s_icmp_ne (by decide +kernel : decode cX13_needs 41 = .ok (.if_icmp .ne 24, 3)) (by decide)
theorem oX13_needs_44 : OpS mX13_needs 44 (o_aload 0 45) := s_aload_n (by decide +kernel : decode cX13_needs 44 = .ok (.aload_n 0, 1)) rfl
theorem oX13_needs_45 : OpS mX13_needs 45 (o_getI 13 27 48) := s_getI (k := 27) clsX13 (by decide) rfl (Or.inl wd_1271) (by decide +kernel : decode cX13_needs 45 = .ok (.getfield 316, 3)) rfl
theorem oX13_needs_48 : OpS mX13_needs 48 (o_const (.int 1) 49) := s_iconst (by decide +kernel : decode cX13_needs 48 = .ok (.iconst 1, 1)) (by decide)
theorem oX13_needs_49 : OpS mX13_needs 49 (o_icmp (fun x y => x ≤ y) 61 52) := s_icmp_le (by decide +kernel : decode cX13_needs 49 = .ok (.if_icmp .le 12, 3)) (by decide)
theorem oX13_needs_52 : OpS mX13_needs 52 (o_aload 0 53) := s_aload_n (by decide +kernel : decode cX13_needs 52 = .ok (.aload_n 0, 1)) rfl
theorem oX13_needs_53 : OpS mX13_needs 53 (o_getP 13 26 56) := s_getP (k := 26) clsX13 (by decide) rfl (Or.inl wd_1270) (by decide +kernel : decode cX13_needs 53 = .ok (.getfield 121, 3)) rfl
theorem oX13_needs_56 : OpS mX13_needs 56 (o_const (.int 1) 57) := s_iconst (by decide +kernel : decode cX13_needs 56 = .ok (.iconst 1, 1)) (by decide)
theorem oX13_needs_57 : OpS mX13_needs 57 (o_iald 58) := s_iald (by decide +kernel : decode cX13_needs 57 = .ok (.iaload, 1))
theorem oX13_needs_58 : OpS mX13_needs 58 (o_goto 71) := s_goto (by decide +kernel : decode cX13_needs 58 = .ok (.goto 13, 3)) (by decide)
theorem oX13_needs_61 : OpS mX13_needs 61 (o_const (.int (-1)) 62) := s_iconst (by decide +kernel : decode cX13_needs 61 = .ok (.iconst (-1), 1)) (by decide)
theorem oX13_needs_62 : OpS mX13_needs 62 (o_goto 71) := s_goto (by decide +kernel : decode cX13_needs 62 = .ok (.goto 9, 3)) (by decide)
theorem oX13_needs_65 : OpS mX13_needs 65 (o_aload 0 66) := s_aload_n (by decide +kernel : decode cX13_needs 65 = .ok (.aload_n 0, 1)) rfl
theorem oX13_needs_66 : OpS mX13_needs 66 (o_getP 13 26 69) := s_getP (k := 26) clsX13 (by decide) rfl (Or.inl wd_1270) (by decide +kernel : decode cX13_needs 66 = .ok (.getfield 121, 3)) rfl
theorem oX13_needs_69 : OpS mX13_needs 69 (o_const (.int 0) 70) := s_iconst (by decide +kernel : decode cX13_needs 69 = .ok (.iconst 0, 1)) (by decide)
theorem oX13_needs_70 : OpS mX13_needs 70 (o_iald 71) := s_iald (by decide +kernel : decode cX13_needs 70 = .ok (.iaload, 1))
theorem oX13_needs_71 : OpS mX13_needs 71 (o_istore 2 4 72) := s_istore_n (by decide +kernel : decode cX13_needs 71 = .ok (.istore_n 2, 1)) rfl rfl
theorem oX13_needs_72 : OpS mX13_needs 72 (o_const (.int 0) 73) := s_iconst (by decide +kernel : decode cX13_needs 72 = .ok (.iconst 0, 1)) (by decide)
theorem oX13_needs_73 : OpS mX13_needs 73 (o_istore 3 4 74) := s_istore_n (by decide +kernel : decode cX13_needs 73 = .ok (.istore_n 3, 1)) rfl rfl
theorem oX13_needs_74 : OpS mX13_needs 74 (o_iload 3 75) := s_iload_n (by decide +kernel : decode cX13_needs 74 = .ok (.iload_n 3, 1)) rfl
theorem oX13_needs_75 : OpS mX13_needs 75 (o_const (.int 9999) 78) := s_sipush (by decide +kernel : decode cX13_needs 75 = .ok (.sipush 9999, 3)) (by decide)
theorem oX13_needs_78 : OpS mX13_needs 78 (o_icmp (fun x y => y < x) 121 81) := s_icmp_gt (by decide +kernel : decode cX13_needs 78 = .ok (.if_icmp .gt 43, 3)) (by decide)
theorem oX13_needs_81 : OpS mX13_needs 81 (o_iload 2 82) := s_iload_n (by decide +kernel : decode cX13_needs 81 = .ok (.iload_n 2, 1)) rfl
theorem oX13_needs_82 : OpS mX13_needs 82 (o_const (.int (-1)) 83) := s_iconst (by decide +kernel : decode cX13_needs 82 = .ok (.iconst (-1), 1)) (by decide)
theorem oX13_needs_83 : OpS mX13_needs 83 (o_icmp (fun x y => x = y) 113 86) := s_icmp_eq (by decide +kernel : decode cX13_needs 83 = .ok (.if_icmp .eq 30, 3)) (by decide)
theorem oX13_needs_86 : OpS mX13_needs 86 (o_aload 0 87) := s_aload_n (by decide +kernel : decode cX13_needs 86 = .ok (.aload_n 0, 1)) rfl
theorem oX13_needs_87 : OpS mX13_needs 87 (o_iload 1 88) := s_iload_n (by decide +kernel : decode cX13_needs 87 = .ok (.iload_n 1, 1)) rfl
theorem oX13_needs_88 : OpS mX13_needs 88 (o_aload 0 89) := s_aload_n (by decide +kernel : decode cX13_needs 88 = .ok (.aload_n 0, 1)) rfl
theorem oX13_needs_89 : OpS mX13_needs 89 (o_getP 13 25 92) := s_getP (k := 25) clsX13 (by decide) rfl (Or.inl wd_1269) (by decide +kernel : decode cX13_needs 89 = .ok (.getfield 118, 3)) rfl
theorem oX13_needs_92 : OpS mX13_needs 92 (o_iload 1 93) := s_iload_n (by decide +kernel : decode cX13_needs 92 = .ok (.iload_n 1, 1)) rfl
theorem oX13_needs_93 : OpS mX13_needs 93 (o_iald 94) := s_iald (by decide +kernel : decode cX13_needs 93 = .ok (.iaload, 1))
theorem oX13_needs_94 : OpS mX13_needs 94 (o_aload 0 95) := s_aload_n (by decide +kernel : decode cX13_needs 94 = .ok (.aload_n 0, 1)) rfl
theorem oX13_needs_95 : OpS mX13_needs 95 (o_getP 13 8 98) := s_getP (k := 8) clsX13 (by decide) rfl (Or.inl wd_1252) (by decide +kernel : decode cX13_needs 95 = .ok (.getfield 87, 3)) rfl
theorem oX13_needs_98 : OpS mX13_needs 98 (o_getP 12 6 101) := s_getP (k := 6) clsX12 (by decide) rfl (Or.inr ⟨_, wd_1189⟩) (by decide +kernel : decode cX13_needs 98 = .ok (.getfield 243, 3)) rfl
theorem oX13_needs_101 : OpS mX13_needs 101 (o_iload 1 102) := s_iload_n (by decide +kernel : decode cX13_needs 101 = .ok (.iload_n 1, 1)) rfl
theorem oX13_needs_102 : OpS mX13_needs 102 (o_iald 103) := s_iald (by decide +kernel : decode cX13_needs 102 = .ok (.iaload, 1))
theorem oX13_needs_103 : OpS mX13_needs 103 (o_ibin (fun x y => x - y) 104) := s_isub (by decide +kernel : decode cX13_needs 103 = .ok (.isub, 1))
theorem oX13_needs_104 : OpS mX13_needs 104 (o_iload 3 105) := s_iload_n (by decide +kernel : decode cX13_needs 104 = .ok (.iload_n 3, 1)) rfl
theorem oX13_needs_105 : OpS mX13_needs 105 (o_ibin (fun x y => x + y) 106) := s_iadd (by decide +kernel : decode cX13_needs 105 = .ok (.iadd, 1))
theorem oX13_needs_106 : OpS mX13_needs 106 (o_iload 2 107) := s_iload_n (by decide +kernel : decode cX13_needs 106 = .ok (.iload_n 2, 1)) rfl
theorem oX13_needs_107 : OpS mX13_needs 107 (o_callV mX13_isAhead 13 3 110) := s_callV ceX13_isAhead clsX13 (Or.inl wd_1541) wd_1543 selX13_isAhead (by decide +kernel : decode cX13_needs 107 = .ok (.invokevirtual 325, 3))
theorem oX13_needs_110 : OpS mX13_needs 110 (o_if (fun x => x = 0) 115 113) := s_if_eq (by decide +kernel : decode cX13_needs 110 = .ok (.ifCond .eq 5, 3)) (by decide)
theorem oX13_needs_113 : OpS mX13_needs 113 (o_iload 3 114) := s_iload_n (by decide +kernel : decode cX13_needs 113 = .ok (.iload_n 3, 1)) rfl
theorem oX13_needs_114 : OpS mX13_needs 114 (o_iret) := s_iret rfl (by decide +kernel : decode cX13_needs 114 = .ok (.ireturn, 1))
theorem oX13_needs_115 : OpS mX13_needs 115 (o_iinc 3 4 1 118) := s_iinc (by decide +kernel : decode cX13_needs 115 = .ok (.iinc 3 1, 3)) (by decide) rfl
theorem oX13_needs_118 : OpS mX13_needs 118 (o_goto 74) := s_goto (by decide +kernel : decode cX13_needs 118 = .ok (.goto (-44), 3)) (by decide)
theorem oX13_needs_121 : OpS mX13_needs 121 (o_const (.int (-1)) 122) := s_iconst (by decide +kernel : decode cX13_needs 121 = .ok (.iconst (-1), 1)) (by decide)
theorem oX13_needs_122 : OpS mX13_needs 122 (o_iret) := s_iret rfl (by decide +kernel : decode cX13_needs 122 = .ok (.ireturn, 1))
theorem oX13_closest_0 : OpS mX13_closest 0 (o_aload 0 1) := s_aload_n (by decide +kernel : decode cX13_closest 0 = .ok (.aload_n 0, 1)) rfl
theorem oX13_closest_1 : OpS mX13_closest 1 (o_const (.int 0) 2) := s_iconst (by decide +kernel : decode cX13_closest 1 = .ok (.iconst 0, 1)) (by decide)
theorem oX13_closest_2 : OpS mX13_closest 2 (o_putI 13 0 5) := s_putI (k := 0) clsX13 (by decide) rfl (Or.inl ⟨wd_1244, Or.inl rfl⟩) (by decide +kernel : decode cX13_closest 2 = .ok (.putfield 1, 3)) rfl rfl
theorem oX13_closest_5 : OpS mX13_closest 5 (o_aload 0 6) := s_aload_n (by decide +kernel : decode cX13_closest 5 = .ok (.aload_n 0, 1)) rfl
theorem oX13_closest_6 : OpS mX13_closest 6 (o_iload 1 7) := s_iload_n (by decide +kernel : decode cX13_closest 6 = .ok (.iload_n 1, 1)) rfl
theorem oX13_closest_7 : OpS mX13_closest 7 (o_callV mX13_isThere 13 1 10) := s_callV ceX13_isThere clsX13 (Or.inl wd_1593) wd_1595 selX13_isThere (by decide +kernel : decode cX13_closest 7 = .ok (.invokevirtual 355, 3))
theorem oX13_closest_10 : OpS mX13_closest 10 (o_if (fun x => x = 0) 13 19) := s_if_ne (by decide +kernel : decode cX13_closest 10 = .ok (.ifCond .ne 9, 3)) (by decide)
theorem oX13_closest_13 : OpS mX13_closest 13 (o_aload 0 14) := s_aload_n (by decide +kernel : decode cX13_closest 13 = .ok (.aload_n 0, 1)) rfl
theorem oX13_closest_14 : OpS mX13_closest 14 (o_const (.int 1) 15) := s_iconst (by decide +kernel : decode cX13_closest 14 = .ok (.iconst 1, 1)) (by decide)
theorem oX13_closest_15 : OpS mX13_closest 15 (o_callV mX13_no 13 1 18) := s_callV ceX13_no clsX13 (Or.inl wd_1149) wd_1151 selX13_no (by decide +kernel : decode cX13_closest 15 = .ok (.invokevirtual 10, 3))
theorem oX13_closest_18 : OpS mX13_closest 18 (o_iret) := s_iret rfl (by decide +kernel : decode cX13_closest 18 = .ok (.ireturn, 1))
theorem oX13_closest_19 : OpS mX13_closest 19 (o_aload 0 20) := s_aload_n (by decide +kernel : decode cX13_closest 19 = .ok (.aload_n 0, 1)) rfl
theorem oX13_closest_20 : OpS mX13_closest 20 (o_getI 13 18 23) := s_getI (k := 18) clsX13 (by decide) rfl (Or.inl wd_1262) (by decide +kernel : decode cX13_closest 20 = .ok (.getfield 278, 3)) rfl
theorem oX13_closest_23 : OpS mX13_closest 23 (o_istore 2 6 24) := s_istore_n (by decide +kernel : decode cX13_closest 23 = .ok (.istore_n 2, 1)) rfl rfl
theorem oX13_closest_24 : OpS mX13_closest 24 (o_aload 0 25) := s_aload_n (by decide +kernel : decode cX13_closest 24 = .ok (.aload_n 0, 1)) rfl
theorem oX13_closest_25 : OpS mX13_closest 25 (o_callV mX13_putAside 13 0 28) := s_callV ceX13_putAside clsX13 (Or.inl wd_1625) wd_1627 selX13_putAside (by decide +kernel : decode cX13_closest 25 = .ok (.invokevirtual 370, 3))
theorem oX13_closest_28 : OpS mX13_closest 28 (o_aload 0 29) := s_aload_n (by decide +kernel : decode cX13_closest 28 = .ok (.aload_n 0, 1)) rfl
theorem oX13_closest_29 : OpS mX13_closest 29 (o_aload 0 30) := s_aload_n (by decide +kernel : decode cX13_closest 29 = .ok (.aload_n 0, 1)) rfl
theorem oX13_closest_30 : OpS mX13_closest 30 (o_getP 13 8 33) := s_getP (k := 8) clsX13 (by decide) rfl (Or.inl wd_1252) (by decide +kernel : decode cX13_closest 30 = .ok (.getfield 87, 3)) rfl
theorem oX13_closest_33 : OpS mX13_closest 33 (o_getP 12 5 36) := s_getP (k := 5) clsX12 (by decide) rfl (Or.inr ⟨_, wd_1187⟩) (by decide +kernel : decode cX13_closest 33 = .ok (.getfield 242, 3)) rfl
theorem oX13_closest_36 : OpS mX13_closest 36 (o_iload 1 37) := s_iload_n (by decide +kernel : decode cX13_closest 36 = .ok (.iload_n 1, 1)) rfl
theorem oX13_closest_37 : OpS mX13_closest 37 (o_iald 38) := s_iald (by decide +kernel : decode cX13_closest 37 = .ok (.iaload, 1))
theorem oX13_closest_38 : OpS mX13_closest 38 (o_putI 13 18 41) := s_putI (k := 18) clsX13 (by decide) rfl (Or.inl ⟨wd_1262, Or.inl rfl⟩) (by decide +kernel : decode cX13_closest 38 = .ok (.putfield 278, 3)) rfl rfl
theorem oX13_closest_41 : OpS mX13_closest 41 (o_const (.int 0) 42) := s_iconst (by decide +kernel : decode cX13_closest 41 = .ok (.iconst 0, 1)) (by decide)
theorem oX13_closest_42 : OpS mX13_closest 42 (o_istore 3 6 43) := s_istore_n (by decide +kernel : decode cX13_closest 42 = .ok (.istore_n 3, 1)) rfl rfl
theorem oX13_closest_43 : OpS mX13_closest 43 (o_iload 3 44) := s_iload_n (by decide +kernel : decode cX13_closest 43 = .ok (.iload_n 3, 1)) rfl
theorem oX13_closest_44 : OpS mX13_closest 44 (o_aload 0 45) := s_aload_n (by decide +kernel : decode cX13_closest 44 = .ok (.aload_n 0, 1)) rfl
theorem oX13_closest_45 : OpS mX13_closest 45 (o_getI 13 18 48) := s_getI (k := 18) clsX13 (by decide) rfl (Or.inl wd_1262) (by decide +kernel : decode cX13_closest 45 = .ok (.getfield 278, 3)) rfl
theorem oX13_closest_48 : OpS mX13_closest 48 (o_icmp (fun x y => y ≤ x) 72 51) := s_icmp_ge (by decide +kernel : decode cX13_closest 48 = .ok (.if_icmp .ge 24, 3)) (by decide)
theorem oX13_closest_51 : OpS mX13_closest 51 (o_aload 0 52) := s_aload_n (by decide +kernel : decode cX13_closest 51 = .ok (.aload_n 0, 1)) rfl
theorem oX13_closest_52 : OpS mX13_closest 52 (o_getP 13 17 55) := s_getP (k := 17) clsX13 (by decide) rfl (Or.inl wd_1261) (by decide +kernel : decode cX13_closest 52 = .ok (.getfield 100, 3)) rfl
theorem oX13_closest_55 : OpS mX13_closest 55 (o_iload 3 56) := s_iload_n (by decide +kernel : decode cX13_closest 55 = .ok (.iload_n 3, 1)) rfl
theorem oX13_closest_56 : OpS mX13_closest 56 (o_aload 0 57) := s_aload_n (by decide +kernel : decode cX13_closest 56 = .ok (.aload_n 0, 1)) rfl
theorem oX13_closest_57 : OpS mX13_closest 57 (o_getP 13 8 60) := s_getP (k := 8) clsX13 (by decide) rfl (Or.inl wd_1252) (by decide +kernel : decode cX13_closest 57 = .ok (.getfield 87, 3)) rfl
theorem oX13_closest_60 : OpS mX13_closest 60 (o_iload 1 61) := s_iload_n (by decide +kernel : decode cX13_closest 60 = .ok (.iload_n 1, 1)) rfl
theorem oX13_closest_61 : OpS mX13_closest 61 (o_iload 3 62) := s_iload_n (by decide +kernel : decode cX13_closest 61 = .ok (.iload_n 3, 1)) rfl
theorem oX13_closest_62 : OpS mX13_closest 62 (o_callV mX12_byteOf 12 2 65) := s_callV ceX12_byteOf clsX12 (Or.inl wd_1509) wd_1510 selX12_byteOf (by decide +kernel : decode cX13_closest 62 = .ok (.invokevirtual 290, 3))
theorem oX13_closest_65 : OpS mX13_closest 65 (o_iast 66) := s_iast (by decide +kernel : decode cX13_closest 65 = .ok (.iastore, 1))
theorem oX13_closest_66 : OpS mX13_closest 66 (o_iinc 3 6 1 69) := s_iinc (by decide +kernel : decode cX13_closest 66 = .ok (.iinc 3 1, 3)) (by decide) rfl
theorem oX13_closest_69 : OpS mX13_closest 69 (o_goto 43) := s_goto (by decide +kernel : decode cX13_closest 69 = .ok (.goto (-26), 3)) (by decide)
theorem oX13_closest_72 : OpS mX13_closest 72 (o_const (.int (-1)) 73) := s_iconst (by decide +kernel : decode cX13_closest 72 = .ok (.iconst (-1), 1)) (by decide)
theorem oX13_closest_73 : OpS mX13_closest 73 (o_istore 3 6 74) := s_istore_n (by decide +kernel : decode cX13_closest 73 = .ok (.istore_n 3, 1)) rfl rfl
theorem oX13_closest_74 : OpS mX13_closest 74 (o_const (.int 0) 75) := s_iconst (by decide +kernel : decode cX13_closest 74 = .ok (.iconst 0, 1)) (by decide)
theorem oX13_closest_75 : OpS mX13_closest 75 (o_istore 4 6 77) := s_istore (by decide +kernel : decode cX13_closest 75 = .ok (.istore 4, 2)) rfl
theorem oX13_closest_77 : OpS mX13_closest 77 (o_iload 4 79) := s_iload (by decide +kernel : decode cX13_closest 77 = .ok (.iload 4, 2))
theorem oX13_closest_79 : OpS mX13_closest 79 (o_aload 0 80) := s_aload_n (by decide +kernel : decode cX13_closest 79 = .ok (.aload_n 0, 1)) rfl
theorem oX13_closest_80 : OpS mX13_closest 80 (o_getP 13 8 83) := s_getP (k := 8) clsX13 (by decide) rfl (Or.inl wd_1252) (by decide +kernel : decode cX13_closest 80 = .ok (.getfield 87, 3)) rfl
theorem oX13_closest_83 : OpS mX13_closest 83 (o_getI 12 1 86) := s_getI (k := 1) clsX12 (by decide) rfl (Or.inr ⟨_, wd_1179⟩) (by decide +kernel : decode cX13_closest 83 = .ok (.getfield 181, 3)) rfl
theorem oX13_closest_86 : OpS mX13_closest 86 (o_icmp (fun x y => y ≤ x) 129 89) := s_icmp_ge (by decide +kernel : decode cX13_closest 86 = .ok (.if_icmp .ge 43, 3)) (by decide)
theorem oX13_closest_89 : OpS mX13_closest 89 (o_iload 4 91) := s_iload (by decide +kernel : decode cX13_closest 89 = .ok (.iload 4, 2))
theorem oX13_closest_91 : OpS mX13_closest 91 (o_iload 1 92) := s_iload_n (by decide +kernel : decode cX13_closest 91 = .ok (.iload_n 1, 1)) rfl
theorem oX13_closest_92 : OpS mX13_closest 92 (o_icmp (fun x y => x = y) 95 98) := s_icmp_ne (by decide +kernel : decode cX13_closest 92 = .ok (.if_icmp .ne 6, 3)) (by decide)
theorem oX13_closest_95 : OpS mX13_closest 95 (o_goto 123) := s_goto (by decide +kernel : decode cX13_closest 95 = .ok (.goto 28, 3)) (by decide)
theorem oX13_closest_98 : OpS mX13_closest 98 (o_aload 0 99) := s_aload_n (by decide +kernel : decode cX13_closest 98 = .ok (.aload_n 0, 1)) rfl
theorem oX13_closest_99 : OpS mX13_closest 99 (o_iload 4 101) := s_iload (by decide +kernel : decode cX13_closest 99 = .ok (.iload 4, 2))
theorem oX13_closest_101 : OpS mX13_closest 101 (o_callV mX13_farOf 13 1 104) := s_callV ceX13_farOf clsX13 (Or.inl wd_1505) wd_1507 selX13_farOf (by decide +kernel : decode cX13_closest 101 = .ok (.invokevirtual 319, 3))
theorem oX13_closest_104 : OpS mX13_closest 104 (o_istore 5 6 106) := s_istore (by decide +kernel : decode cX13_closest 104 = .ok (.istore 5, 2)) rfl
theorem oX13_closest_106 : OpS mX13_closest 106 (o_iload 3 107) := s_iload_n (by decide +kernel : decode cX13_closest 106 = .ok (.iload_n 3, 1)) rfl
theorem oX13_closest_107 : OpS mX13_closest 107 (o_const (.int (-1)) 108) := s_iconst (by decide +kernel : decode cX13_closest 107 = .ok (.iconst (-1), 1)) (by decide)
theorem oX13_closest_108 : OpS mX13_closest 108 (o_icmp (fun x y => x = y) 111 116) := s_icmp_ne (by decide +kernel : decode cX13_closest 108 = .ok (.if_icmp .ne 8, 3)) (by decide)
theorem oX13_closest_111 : OpS mX13_closest 111 (o_iload 5 113) := s_iload (by decide +kernel : decode cX13_closest 111 = .ok (.iload 5, 2))
theorem oX13_closest_113 : OpS mX13_closest 113 (o_goto 122) := s_goto (by decide +kernel : decode cX13_closest 113 = .ok (.goto 9, 3)) (by decide)
theorem oX13_closest_116 : OpS mX13_closest 116 (o_iload 3 117) := s_iload_n (by decide +kernel : decode cX13_closest 116 = .ok (.iload_n 3, 1)) rfl
theorem oX13_closest_117 : OpS mX13_closest 117 (o_iload 5 119) := s_iload (by decide +kernel : decode cX13_closest 117 = .ok (.iload 5, 2))
theorem oX13_closest_119 : OpS mX13_closest 119 (o_min 122) := s_min wd_1431 wd_472 wd_3 wd_473 (by decide +kernel : decode cX13_closest 119 = .ok (.invokestatic 258, 3))
theorem oX13_closest_122 : OpS mX13_closest 122 (o_istore 3 6 123) := s_istore_n (by decide +kernel : decode cX13_closest 122 = .ok (.istore_n 3, 1)) rfl rfl
theorem oX13_closest_123 : OpS mX13_closest 123 (o_iinc 4 6 1 126) := s_iinc (by decide +kernel : decode cX13_closest 123 = .ok (.iinc 4 1, 3)) (by decide) rfl
theorem oX13_closest_126 : OpS mX13_closest 126 (o_goto 77) := s_goto (by decide +kernel : decode cX13_closest 126 = .ok (.goto (-49), 3)) (by decide)
theorem oX13_closest_129 : OpS mX13_closest 129 (o_aload 0 130) := s_aload_n (by decide +kernel : decode cX13_closest 129 = .ok (.aload_n 0, 1)) rfl
theorem oX13_closest_130 : OpS mX13_closest 130 (o_iload 2 131) := s_iload_n (by decide +kernel : decode cX13_closest 130 = .ok (.iload_n 2, 1)) rfl
theorem oX13_closest_131 : OpS mX13_closest 131 (o_callV mX13_putBack 13 1 134) := s_callV ceX13_putBack clsX13 (Or.inl wd_1636) wd_1638 selX13_putBack (by decide +kernel : decode cX13_closest 131 = .ok (.invokevirtual 376, 3))
theorem oX13_closest_134 : OpS mX13_closest 134 (o_iload 3 135) := s_iload_n (by decide +kernel : decode cX13_closest 134 = .ok (.iload_n 3, 1)) rfl
theorem oX13_closest_135 : OpS mX13_closest 135 (o_iret) := s_iret rfl (by decide +kernel : decode cX13_closest 135 = .ok (.ireturn, 1))
theorem oX13_mean_0 : OpS mX13_mean 0 (o_aload 0 1) := s_aload_n (by decide +kernel : decode cX13_mean 0 = .ok (.aload_n 0, 1)) rfl
theorem oX13_mean_1 : OpS mX13_mean 1 (o_const (.int 0) 2) := s_iconst (by decide +kernel : decode cX13_mean 1 = .ok (.iconst 0, 1)) (by decide)
theorem oX13_mean_2 : OpS mX13_mean 2 (o_putI 13 0 5) := s_putI (k := 0) clsX13 (by decide) rfl (Or.inl ⟨wd_1244, Or.inl rfl⟩) (by decide +kernel : decode cX13_mean 2 = .ok (.putfield 1, 3)) rfl rfl
theorem oX13_mean_5 : OpS mX13_mean 5 (o_aload 0 6) := s_aload_n (by decide +kernel : decode cX13_mean 5 = .ok (.aload_n 0, 1)) rfl
theorem oX13_mean_6 : OpS mX13_mean 6 (o_getP 13 8 9) := s_getP (k := 8) clsX13 (by decide) rfl (Or.inl wd_1252) (by decide +kernel : decode cX13_mean 6 = .ok (.getfield 87, 3)) rfl
theorem oX13_mean_9 : OpS mX13_mean 9 (o_getI 12 1 12) := s_getI (k := 1) clsX12 (by decide) rfl (Or.inr ⟨_, wd_1179⟩) (by decide +kernel : decode cX13_mean 9 = .ok (.getfield 181, 3)) rfl
theorem oX13_mean_12 : OpS mX13_mean 12 (o_if (fun x => x = 0) 15 19) := s_if_ne (by decide +kernel : decode cX13_mean 12 = .ok (.ifCond .ne 7, 3)) (by decide)
theorem oX13_mean_15 : OpS mX13_mean 15 (o_const (.double FP.dconst0) 16) := s_dconst0 (by decide +kernel : decode cX13_mean 15 = .ok (.dconst 0, 1))
theorem oX13_mean_16 : OpS mX13_mean 16 (o_goto 33) := s_goto (by decide +kernel : decode cX13_mean 16 = .ok (.goto 17, 3)) (by decide)
theorem oX13_mean_19 : OpS mX13_mean 19 (o_aload 0 20) := s_aload_n (by decide +kernel : decode cX13_mean 19 = .ok (.aload_n 0, 1)) rfl
theorem oX13_mean_20 : OpS mX13_mean 20 (o_callV mX13_weights 13 0 23) := s_callV ceX13_weights clsX13 (Or.inl wd_1569) wd_1571 selX13_weights (by decide +kernel : decode cX13_mean 20 = .ok (.invokevirtual 340, 3))
theorem oX13_mean_23 : OpS mX13_mean 23 (o_i2d 24) := s_i2d (by decide +kernel : decode cX13_mean 23 = .ok (.i2d, 1))
theorem oX13_mean_24 : OpS mX13_mean 24 (o_aload 0 25) := s_aload_n (by decide +kernel : decode cX13_mean 24 = .ok (.aload_n 0, 1)) rfl
theorem oX13_mean_25 : OpS mX13_mean 25 (o_getP 13 8 28) := s_getP (k := 8) clsX13 (by decide) rfl (Or.inl wd_1252) (by decide +kernel : decode cX13_mean 25 = .ok (.getfield 87, 3)) rfl
theorem oX13_mean_28 : OpS mX13_mean 28 (o_getI 12 1 31) := s_getI (k := 1) clsX12 (by decide) rfl (Or.inr ⟨_, wd_1179⟩) (by decide +kernel : decode cX13_mean 28 = .ok (.getfield 181, 3)) rfl
theorem oX13_mean_31 : OpS mX13_mean 31 (o_i2d 32) := s_i2d (by decide +kernel : decode cX13_mean 31 = .ok (.i2d, 1))
theorem oX13_mean_32 : OpS mX13_mean 32 (o_ddiv 33) := s_ddiv (by decide +kernel : decode cX13_mean 32 = .ok (.ddiv, 1))
theorem oX13_mean_33 : OpS mX13_mean 33 (o_dret) := s_dret rfl (by decide +kernel : decode cX13_mean 33 = .ok (.dreturn, 1))
theorem oX13_digest_0 : OpS mX13_digest 0 (o_aload 0 1) := s_aload_n (by decide +kernel : decode cX13_digest 0 = .ok (.aload_n 0, 1)) rfl
theorem oX13_digest_1 : OpS mX13_digest 1 (o_const (.int 0) 2) := s_iconst (by decide +kernel : decode cX13_digest 1 = .ok (.iconst 0, 1)) (by decide)
theorem oX13_digest_2 : OpS mX13_digest 2 (o_putI 13 0 5) := s_putI (k := 0) clsX13 (by decide) rfl (Or.inl ⟨wd_1244, Or.inl rfl⟩) (by decide +kernel : decode cX13_digest 2 = .ok (.putfield 1, 3)) rfl rfl
theorem oX13_digest_5 : OpS mX13_digest 5 (o_aload 0 6) := s_aload_n (by decide +kernel : decode cX13_digest 5 = .ok (.aload_n 0, 1)) rfl
theorem oX13_digest_6 : OpS mX13_digest 6 (o_callV mX13_look 13 0 9) := s_callV ceX13_look clsX13 (Or.inl wd_1501) wd_1503 selX13_look (by decide +kernel : decode cX13_digest 6 = .ok (.invokevirtual 328, 3))
theorem oX13_digest_9 : OpS mX13_digest 9 (o_const (.long 773) 12) := s_ldc2 wd_1656 (by decide +kernel : decode cX13_digest 9 = .ok (.ldc2_w 379, 3))
theorem oX13_digest_12 : OpS mX13_digest 12 (o_lstore 1 5 13) := s_lstore_n (by decide +kernel : decode cX13_digest 12 = .ok (.lstore_n 1, 1)) rfl rfl
theorem oX13_digest_13 : OpS mX13_digest 13 (o_const (.int 0) 14) := s_iconst (by decide +kernel : decode cX13_digest 13 = .ok (.iconst 0, 1)) (by decide)
theorem oX13_digest_14 : OpS mX13_digest 14 (o_istore 3 5 15) := s_istore_n (by decide +kernel : decode cX13_digest 14 = .ok (.istore_n 3, 1)) rfl rfl
theorem oX13_digest_15 : OpS mX13_digest 15 (o_iload 3 16) := s_iload_n (by decide +kernel : decode cX13_digest 15 = .ok (.iload_n 3, 1)) rfl
theorem oX13_digest_16 : OpS mX13_digest 16 (o_const (.int 13) 18) := s_bipush (by decide +kernel : decode cX13_digest 16 = .ok (.bipush 13, 2)) (by decide)
theorem oX13_digest_18 : OpS mX13_digest 18 (o_icmp (fun x y => y ≤ x) 40 21) := s_icmp_ge (by decide +kernel : decode cX13_digest 18 = .ok (.if_icmp .ge 22, 3)) (by decide)
theorem oX13_digest_21 : OpS mX13_digest 21 (o_lload 1 22) := s_lload_n (by decide +kernel : decode cX13_digest 21 = .ok (.lload_n 1, 1)) rfl
theorem oX13_digest_22 : OpS mX13_digest 22 (o_const (.long 31) 25) := s_ldc2 wd_1657 (by decide +kernel : decode cX13_digest 22 = .ok (.ldc2_w 381, 3))
theorem oX13_digest_25 : OpS mX13_digest 25 (o_lbin (fun x y => x * y) 26) := s_lmul (by decide +kernel : decode cX13_digest 25 = .ok (.lmul, 1))
theorem oX13_digest_26 : OpS mX13_digest 26 (o_aload 0 27) := s_aload_n (by decide +kernel : decode cX13_digest 26 = .ok (.aload_n 0, 1)) rfl
theorem oX13_digest_27 : OpS mX13_digest 27 (o_iload 3 28) := s_iload_n (by decide +kernel : decode cX13_digest 27 = .ok (.iload_n 3, 1)) rfl
theorem oX13_digest_28 : OpS mX13_digest 28 (o_callV mX13_counted 13 1 31) := s_callV ceX13_counted clsX13 (Or.inl wd_1565) wd_1567 selX13_counted (by decide +kernel : decode cX13_digest 28 = .ok (.invokevirtual 349, 3))
theorem oX13_digest_31 : OpS mX13_digest 31 (o_i2l 32) := s_i2l (by decide +kernel : decode cX13_digest 31 = .ok (.i2l, 1))
theorem oX13_digest_32 : OpS mX13_digest 32 (o_lbin (fun x y => x + y) 33) := s_ladd (by decide +kernel : decode cX13_digest 32 = .ok (.ladd, 1))
theorem oX13_digest_33 : OpS mX13_digest 33 (o_lstore 1 5 34) := s_lstore_n (by decide +kernel : decode cX13_digest 33 = .ok (.lstore_n 1, 1)) rfl rfl
theorem oX13_digest_34 : OpS mX13_digest 34 (o_iinc 3 5 1 37) := s_iinc (by decide +kernel : decode cX13_digest 34 = .ok (.iinc 3 1, 3)) (by decide) rfl
theorem oX13_digest_37 : OpS mX13_digest 37 (o_goto 15) := s_goto (by decide +kernel : decode cX13_digest 37 = .ok (.goto (-22), 3)) (by decide)
theorem oX13_digest_40 : OpS mX13_digest 40 (o_const (.int 0) 41) := s_iconst (by decide +kernel : decode cX13_digest 40 = .ok (.iconst 0, 1)) (by decide)
theorem oX13_digest_41 : OpS mX13_digest 41 (o_istore 3 5 42) := s_istore_n (by decide +kernel : decode cX13_digest 41 = .ok (.istore_n 3, 1)) rfl rfl
theorem oX13_digest_42 : OpS mX13_digest 42 (o_iload 3 43) := s_iload_n (by decide +kernel : decode cX13_digest 42 = .ok (.iload_n 3, 1)) rfl
theorem oX13_digest_43 : OpS mX13_digest 43 (o_aload 0 44) := s_aload_n (by decide +kernel : decode cX13_digest 43 = .ok (.aload_n 0, 1)) rfl
theorem oX13_digest_44 : OpS mX13_digest 44 (o_getI 13 18 47) := s_getI (k := 18) clsX13 (by decide) rfl (Or.inl wd_1262) (by decide +kernel : decode cX13_digest 44 = .ok (.getfield 278, 3)) rfl
theorem oX13_digest_47 : OpS mX13_digest 47 (o_icmp (fun x y => y ≤ x) 70 50) := s_icmp_ge (by decide +kernel : decode cX13_digest 47 = .ok (.if_icmp .ge 23, 3)) (by decide)
theorem oX13_digest_50 : OpS mX13_digest 50 (o_lload 1 51) := s_lload_n (by decide +kernel : decode cX13_digest 50 = .ok (.lload_n 1, 1)) rfl
theorem oX13_digest_51 : OpS mX13_digest 51 (o_const (.long 31) 54) := s_ldc2 wd_1657 (by decide +kernel : decode cX13_digest 51 = .ok (.ldc2_w 381, 3))
theorem oX13_digest_54 : OpS mX13_digest 54 (o_lbin (fun x y => x * y) 55) := s_lmul (by decide +kernel : decode cX13_digest 54 = .ok (.lmul, 1))
theorem oX13_digest_55 : OpS mX13_digest 55 (o_aload 0 56) := s_aload_n (by decide +kernel : decode cX13_digest 55 = .ok (.aload_n 0, 1)) rfl
theorem oX13_digest_56 : OpS mX13_digest 56 (o_getP 13 17 59) := s_getP (k := 17) clsX13 (by decide) rfl (Or.inl wd_1261) (by decide +kernel : decode cX13_digest 56 = .ok (.getfield 100, 3)) rfl
theorem oX13_digest_59 : OpS mX13_digest 59 (o_iload 3 60) := s_iload_n (by decide +kernel : decode cX13_digest 59 = .ok (.iload_n 3, 1)) rfl
theorem oX13_digest_60 : OpS mX13_digest 60 (o_iald 61) := s_iald (by decide +kernel : decode cX13_digest 60 = .ok (.iaload, 1))
theorem oX13_digest_61 : OpS mX13_digest 61 (o_i2l 62) := s_i2l (by decide +kernel : decode cX13_digest 61 = .ok (.i2l, 1))
theorem oX13_digest_62 : OpS mX13_digest 62 (o_lbin (fun x y => x + y) 63) := s_ladd (by decide +kernel : decode cX13_digest 62 = .ok (.ladd, 1))
theorem oX13_digest_63 : OpS mX13_digest 63 (o_lstore 1 5 64) := s_lstore_n (by decide +kernel : decode cX13_digest 63 = .ok (.lstore_n 1, 1)) rfl rfl
theorem oX13_digest_64 : OpS mX13_digest 64 (o_iinc 3 5 1 67) := s_iinc (by decide +kernel : decode cX13_digest 64 = .ok (.iinc 3 1, 3)) (by decide) rfl
theorem oX13_digest_67 : OpS mX13_digest 67 (o_goto 42) := s_goto (by decide +kernel : decode cX13_digest 67 = .ok (.goto (-25), 3)) (by decide)
theorem oX13_digest_70 : OpS mX13_digest 70 (o_const (.int 0) 71) := s_iconst (by decide +kernel : decode cX13_digest 70 = .ok (.iconst 0, 1)) (by decide)
theorem oX13_digest_71 : OpS mX13_digest 71 (o_istore 3 5 72) := s_istore_n (by decide +kernel : decode cX13_digest 71 = .ok (.istore_n 3, 1)) rfl rfl
theorem oX13_digest_72 : OpS mX13_digest 72 (o_iload 3 73) := s_iload_n (by decide +kernel : decode cX13_digest 72 = .ok (.iload_n 3, 1)) rfl
theorem oX13_digest_73 : OpS mX13_digest 73 (o_aload 0 74) := s_aload_n (by decide +kernel : decode cX13_digest 73 = .ok (.aload_n 0, 1)) rfl
theorem oX13_digest_74 : OpS mX13_digest 74 (o_getP 13 8 77) := s_getP (k := 8) clsX13 (by decide) rfl (Or.inl wd_1252) (by decide +kernel : decode cX13_digest 74 = .ok (.getfield 87, 3)) rfl
theorem oX13_digest_77 : OpS mX13_digest 77 (o_getI 12 1 80) := s_getI (k := 1) clsX12 (by decide) rfl (Or.inr ⟨_, wd_1179⟩) (by decide +kernel : decode cX13_digest 77 = .ok (.getfield 181, 3)) rfl
theorem oX13_digest_80 : OpS mX13_digest 80 (o_icmp (fun x y => y ≤ x) 161 83) := s_icmp_ge (by decide +kernel : decode cX13_digest 80 = .ok (.if_icmp .ge 81, 3)) (by decide)
theorem oX13_digest_83 : OpS mX13_digest 83 (o_const (.int 0) 84) := s_iconst (by decide +kernel : decode cX13_digest 83 = .ok (.iconst 0, 1)) (by decide)
theorem oX13_digest_84 : OpS mX13_digest 84 (o_istore 4 5 86) := s_istore (by decide +kernel : decode cX13_digest 84 = .ok (.istore 4, 2)) rfl
theorem oX13_digest_86 : OpS mX13_digest 86 (o_iload 4 88) := s_iload (by decide +kernel : decode cX13_digest 86 = .ok (.iload 4, 2))
theorem oX13_digest_88 : OpS mX13_digest 88 (o_const (.int 6) 90) := s_bipush (by decide +kernel : decode cX13_digest 88 = .ok (.bipush 6, 2)) (by decide)
theorem oX13_digest_90 : OpS mX13_digest 90 (o_icmp (fun x y => y ≤ x) 114 93) := s_icmp_ge (by decide +kernel : decode cX13_digest 90 = .ok (.if_icmp .ge 24, 3)) (by decide)
theorem oX13_digest_93 : OpS mX13_digest 93 (o_lload 1 94) := s_lload_n (by decide +kernel : decode cX13_digest 93 = .ok (.lload_n 1, 1)) rfl
theorem oX13_digest_94 : OpS mX13_digest 94 (o_const (.long 31) 97) := s_ldc2 wd_1657 (by decide +kernel : decode cX13_digest 94 = .ok (.ldc2_w 381, 3))
theorem oX13_digest_97 : OpS mX13_digest 97 (o_lbin (fun x y => x * y) 98) := s_lmul (by decide +kernel : decode cX13_digest 97 = .ok (.lmul, 1))
theorem oX13_digest_98 : OpS mX13_digest 98 (o_aload 0 99) := s_aload_n (by decide +kernel : decode cX13_digest 98 = .ok (.aload_n 0, 1)) rfl
theorem oX13_digest_99 : OpS mX13_digest 99 (o_iload 3 100) := s_iload_n (by decide +kernel : decode cX13_digest 99 = .ok (.iload_n 3, 1)) rfl
theorem oX13_digest_100 : OpS mX13_digest 100 (o_iload 4 102) := s_iload (by decide +kernel : decode cX13_digest 100 = .ok (.iload 4, 2))
theorem oX13_digest_102 : OpS mX13_digest 102 (o_callV mX13_wordTold 13 2 105) := s_callV ceX13_wordTold clsX13 (Or.inl wd_1597) wd_1599 selX13_wordTold (by decide +kernel : decode cX13_digest 102 = .ok (.invokevirtual 358, 3))
theorem oX13_digest_105 : OpS mX13_digest 105 (o_i2l 106) := s_i2l (by decide +kernel : decode cX13_digest 105 = .ok (.i2l, 1))
theorem oX13_digest_106 : OpS mX13_digest 106 (o_lbin (fun x y => x + y) 107) := s_ladd (by decide +kernel : decode cX13_digest 106 = .ok (.ladd, 1))
theorem oX13_digest_107 : OpS mX13_digest 107 (o_lstore 1 5 108) := s_lstore_n (by decide +kernel : decode cX13_digest 107 = .ok (.lstore_n 1, 1)) rfl rfl
theorem oX13_digest_108 : OpS mX13_digest 108 (o_iinc 4 5 1 111) := s_iinc (by decide +kernel : decode cX13_digest 108 = .ok (.iinc 4 1, 3)) (by decide) rfl
theorem oX13_digest_111 : OpS mX13_digest 111 (o_goto 86) := s_goto (by decide +kernel : decode cX13_digest 111 = .ok (.goto (-25), 3)) (by decide)
theorem oX13_digest_114 : OpS mX13_digest 114 (o_const (.int 0) 115) := s_iconst (by decide +kernel : decode cX13_digest 114 = .ok (.iconst 0, 1)) (by decide)
theorem oX13_digest_115 : OpS mX13_digest 115 (o_istore 4 5 117) := s_istore (by decide +kernel : decode cX13_digest 115 = .ok (.istore 4, 2)) rfl
theorem oX13_digest_117 : OpS mX13_digest 117 (o_iload 4 119) := s_iload (by decide +kernel : decode cX13_digest 117 = .ok (.iload 4, 2))
theorem oX13_digest_119 : OpS mX13_digest 119 (o_aload 0 120) := s_aload_n (by decide +kernel : decode cX13_digest 119 = .ok (.aload_n 0, 1)) rfl
theorem oX13_digest_120 : OpS mX13_digest 120 (o_getP 13 8 123) := s_getP (k := 8) clsX13 (by decide) rfl (Or.inl wd_1252) (by decide +kernel : decode cX13_digest 120 = .ok (.getfield 87, 3)) rfl
theorem oX13_digest_123 : OpS mX13_digest 123 (o_getP 12 5 126) := s_getP (k := 5) clsX12 (by decide) rfl (Or.inr ⟨_, wd_1187⟩) (by decide +kernel : decode cX13_digest 123 = .ok (.getfield 242, 3)) rfl
theorem oX13_digest_126 : OpS mX13_digest 126 (o_iload 3 127) := s_iload_n (by decide +kernel : decode cX13_digest 126 = .ok (.iload_n 3, 1)) rfl
theorem oX13_digest_127 : OpS mX13_digest 127 (o_iald 128) := s_iald (by decide +kernel : decode cX13_digest 127 = .ok (.iaload, 1))
theorem oX13_digest_128 : OpS mX13_digest 128 (o_icmp (fun x y => y ≤ x) 155 131) := s_icmp_ge (by decide +kernel : decode cX13_digest 128 = .ok (.if_icmp .ge 27, 3)) (by decide)
theorem oX13_digest_131 : OpS mX13_digest 131 (o_lload 1 132) := s_lload_n (by decide +kernel : decode cX13_digest 131 = .ok (.lload_n 1, 1)) rfl
theorem oX13_digest_132 : OpS mX13_digest 132 (o_const (.long 31) 135) := s_ldc2 wd_1657 (by decide +kernel : decode cX13_digest 132 = .ok (.ldc2_w 381, 3))
theorem oX13_digest_135 : OpS mX13_digest 135 (o_lbin (fun x y => x * y) 136) := s_lmul (by decide +kernel : decode cX13_digest 135 = .ok (.lmul, 1))
theorem oX13_digest_136 : OpS mX13_digest 136 (o_aload 0 137) := s_aload_n (by decide +kernel : decode cX13_digest 136 = .ok (.aload_n 0, 1)) rfl
theorem oX13_digest_137 : OpS mX13_digest 137 (o_getP 13 8 140) := s_getP (k := 8) clsX13 (by decide) rfl (Or.inl wd_1252) (by decide +kernel : decode cX13_digest 137 = .ok (.getfield 87, 3)) rfl
theorem oX13_digest_140 : OpS mX13_digest 140 (o_iload 3 141) := s_iload_n (by decide +kernel : decode cX13_digest 140 = .ok (.iload_n 3, 1)) rfl
theorem oX13_digest_141 : OpS mX13_digest 141 (o_iload 4 143) := s_iload (by decide +kernel : decode cX13_digest 141 = .ok (.iload 4, 2))
theorem oX13_digest_143 : OpS mX13_digest 143 (o_callV mX12_byteOf 12 2 146) := s_callV ceX12_byteOf clsX12 (Or.inl wd_1509) wd_1510 selX12_byteOf (by decide +kernel : decode cX13_digest 143 = .ok (.invokevirtual 290, 3))
theorem oX13_digest_146 : OpS mX13_digest 146 (o_i2l 147) := s_i2l (by decide +kernel : decode cX13_digest 146 = .ok (.i2l, 1))
theorem oX13_digest_147 : OpS mX13_digest 147 (o_lbin (fun x y => x + y) 148) := s_ladd (by decide +kernel : decode cX13_digest 147 = .ok (.ladd, 1))
theorem oX13_digest_148 : OpS mX13_digest 148 (o_lstore 1 5 149) := s_lstore_n (by decide +kernel : decode cX13_digest 148 = .ok (.lstore_n 1, 1)) rfl rfl
theorem oX13_digest_149 : OpS mX13_digest 149 (o_iinc 4 5 1 152) := s_iinc (by decide +kernel : decode cX13_digest 149 = .ok (.iinc 4 1, 3)) (by decide) rfl
theorem oX13_digest_152 : OpS mX13_digest 152 (o_goto 117) := s_goto (by decide +kernel : decode cX13_digest 152 = .ok (.goto (-35), 3)) (by decide)
theorem oX13_digest_155 : OpS mX13_digest 155 (o_iinc 3 5 1 158) := s_iinc (by decide +kernel : decode cX13_digest 155 = .ok (.iinc 3 1, 3)) (by decide) rfl
theorem oX13_digest_158 : OpS mX13_digest 158 (o_goto 72) := s_goto (by decide +kernel : decode cX13_digest 158 = .ok (.goto (-86), 3)) (by decide)
theorem oX13_digest_161 : OpS mX13_digest 161 (o_const (.int 0) 162) := s_iconst (by decide +kernel : decode cX13_digest 161 = .ok (.iconst 0, 1)) (by decide)
theorem oX13_digest_162 : OpS mX13_digest 162 (o_istore 3 5 163) := s_istore_n (by decide +kernel : decode cX13_digest 162 = .ok (.istore_n 3, 1)) rfl rfl
theorem oX13_digest_163 : OpS mX13_digest 163 (o_iload 3 164) := s_iload_n (by decide +kernel : decode cX13_digest 163 = .ok (.iload_n 3, 1)) rfl
theorem oX13_digest_164 : OpS mX13_digest 164 (o_const (.int 5) 165) := s_iconst (by decide +kernel : decode cX13_digest 164 = .ok (.iconst 5, 1)) (by decide)
theorem oX13_digest_165 : OpS mX13_digest 165 (o_icmp (fun x y => y ≤ x) 200 168) := s_icmp_ge (by decide +kernel : decode cX13_digest 165 = .ok (.if_icmp .ge 35, 3)) (by decide)
theorem oX13_digest_168 : OpS mX13_digest 168 (o_lload 1 169) := s_lload_n (by decide +kernel : decode cX13_digest 168 = .ok (.lload_n 1, 1)) rfl
theorem oX13_digest_169 : OpS mX13_digest 169 (o_const (.long 31) 172) := s_ldc2 wd_1657 (by decide +kernel : decode cX13_digest 169 = .ok (.ldc2_w 381, 3))
theorem oX13_digest_172 : OpS mX13_digest 172 (o_lbin (fun x y => x * y) 173) := s_lmul (by decide +kernel : decode cX13_digest 172 = .ok (.lmul, 1))
theorem oX13_digest_173 : OpS mX13_digest 173 (o_iload 3 174) := s_iload_n (by decide +kernel : decode cX13_digest 173 = .ok (.iload_n 3, 1)) rfl
theorem oX13_digest_174 : OpS mX13_digest 174 (o_aload 0 175) := s_aload_n (by decide +kernel : decode cX13_digest 174 = .ok (.aload_n 0, 1)) rfl
theorem oX13_digest_175 : OpS mX13_digest 175 (o_getI 13 27 178) := s_getI (k := 27) clsX13 (by decide) rfl (Or.inl wd_1271) (by decide +kernel : decode cX13_digest 175 = .ok (.getfield 316, 3)) rfl
theorem oX13_digest_178 : OpS mX13_digest 178 (o_icmp (fun x y => y ≤ x) 190 181) := s_icmp_ge (by decide +kernel : decode cX13_digest 178 = .ok (.if_icmp .ge 12, 3)) (by decide)
theorem oX13_digest_181 : OpS mX13_digest 181 (o_aload 0 182) := s_aload_n (by decide +kernel : decode cX13_digest 181 = .ok (.aload_n 0, 1)) rfl
theorem oX13_digest_182 : OpS mX13_digest 182 (o_getP 13 26 185) := s_getP (k := 26) clsX13 (by decide) rfl (Or.inl wd_1270) (by decide +kernel : decode cX13_digest 182 = .ok (.getfield 121, 3)) rfl
theorem oX13_digest_185 : OpS mX13_digest 185 (o_iload 3 186) := s_iload_n (by decide +kernel : decode cX13_digest 185 = .ok (.iload_n 3, 1)) rfl
theorem oX13_digest_186 : OpS mX13_digest 186 (o_iald 187) := s_iald (by decide +kernel : decode cX13_digest 186 = .ok (.iaload, 1))
theorem oX13_digest_187 : OpS mX13_digest 187 (o_goto 191) := s_goto (by decide +kernel : decode cX13_digest 187 = .ok (.goto 4, 3)) (by decide)
theorem oX13_digest_190 : OpS mX13_digest 190 (o_const (.int (-1)) 191) := s_iconst (by decide +kernel : decode cX13_digest 190 = .ok (.iconst (-1), 1)) (by decide)
theorem oX13_digest_191 : OpS mX13_digest 191 (o_i2l 192) := s_i2l (by decide +kernel : decode cX13_digest 191 = .ok (.i2l, 1))
theorem oX13_digest_192 : OpS mX13_digest 192 (o_lbin (fun x y => x + y) 193) := s_ladd (by decide +kernel : decode cX13_digest 192 = .ok (.ladd, 1))
theorem oX13_digest_193 : OpS mX13_digest 193 (o_lstore 1 5 194) := s_lstore_n (by decide +kernel : decode cX13_digest 193 = .ok (.lstore_n 1, 1)) rfl rfl
theorem oX13_digest_194 : OpS mX13_digest 194 (o_iinc 3 5 1 197) := s_iinc (by decide +kernel : decode cX13_digest 194 = .ok (.iinc 3 1, 3)) (by decide) rfl
theorem oX13_digest_197 : OpS mX13_digest 197 (o_goto 163) := s_goto (by decide +kernel : decode cX13_digest 197 = .ok (.goto (-34), 3)) (by decide)
theorem oX13_digest_200 : OpS mX13_digest 200 (o_lload 1 201) := s_lload_n (by decide +kernel : decode cX13_digest 200 = .ok (.lload_n 1, 1)) rfl
theorem oX13_digest_201 : OpS mX13_digest 201 (o_lret) := s_lret rfl (by decide +kernel : decode cX13_digest 201 = .ok (.lreturn, 1))
