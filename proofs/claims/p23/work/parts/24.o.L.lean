theorem oL_below_0 : OpS mL_below 0 (o_iload 0 1) := s_iload_n (by decide +kernel : decode cL_below 0 = .ok (.iload_n 0, 1)) rfl
theorem oL_below_1 : OpS mL_below 1 (o_const (.int 2147483647) 3) := s_ldc wd_412 (by decide +kernel : decode cL_below 1 = .ok (.ldc 7, 2))
theorem oL_below_3 : OpS mL_below 3 (o_ibin (fun x y => x &&& y) 4) := s_iand (by decide +kernel : decode cL_below 3 = .ok (.iand, 1))
theorem oL_below_4 : OpS mL_below 4 (o_iload 1 5) := s_iload_n (by decide +kernel : decode cL_below 4 = .ok (.iload_n 1, 1)) rfl
theorem oL_below_5 : OpS mL_below 5 (o_irem 6) := s_irem (by decide +kernel : decode cL_below 5 = .ok (.irem, 1))
theorem oL_below_6 : OpS mL_below 6 (o_iret) := s_iret rfl (by decide +kernel : decode cL_below 6 = .ok (.ireturn, 1))
theorem oL_cell_0 : OpS mL_cell 0 (o_iload 1 1) := s_iload_n (by decide +kernel : decode cL_cell 0 = .ok (.iload_n 1, 1)) rfl
theorem oL_cell_1 : OpS mL_cell 1 (o_aload 0 2) := s_aload_n (by decide +kernel : decode cL_cell 1 = .ok (.aload_n 0, 1)) rfl
theorem oL_cell_2 : OpS mL_cell 2 (o_slen 3) := s_slen (by decide +kernel : decode cL_cell 2 = .ok (.arraylength, 1))
theorem oL_cell_3 : OpS mL_cell 3 (o_icmp (fun x y => y ≤ x) 12 6) := s_icmp_ge (by decide +kernel : decode cL_cell 3 = .ok (.if_icmp .ge 9, 3)) (by decide)
theorem oL_cell_6 : OpS mL_cell 6 (o_aload 0 7) := s_aload_n (by decide +kernel : decode cL_cell 6 = .ok (.aload_n 0, 1)) rfl
theorem oL_cell_7 : OpS mL_cell 7 (o_iload 1 8) := s_iload_n (by decide +kernel : decode cL_cell 7 = .ok (.iload_n 1, 1)) rfl
theorem oL_cell_8 : OpS mL_cell 8 (o_sald 9) := s_sald (by decide +kernel : decode cL_cell 8 = .ok (.iaload, 1))
theorem oL_cell_9 : OpS mL_cell 9 (o_goto 18) := s_goto (by decide +kernel : decode cL_cell 9 = .ok (.goto 9, 3)) (by decide)
theorem oL_cell_12 : OpS mL_cell 12 (o_const (.int 461243603) 14) := s_ldc wd_416 (by decide +kernel : decode cL_cell 12 = .ok (.ldc 8, 2))
theorem oL_cell_14 : OpS mL_cell 14 (o_iload 1 15) := s_iload_n (by decide +kernel : decode cL_cell 14 = .ok (.iload_n 1, 1)) rfl
theorem oL_cell_15 : OpS mL_cell 15 (o_const (.int 3) 16) := s_iconst (by decide +kernel : decode cL_cell 15 = .ok (.iconst 3, 1)) (by decide)
theorem oL_cell_16 : OpS mL_cell 16 (o_ibin (fun x y => x + y) 17) := s_iadd (by decide +kernel : decode cL_cell 16 = .ok (.iadd, 1))
theorem oL_cell_17 : OpS mL_cell 17 (o_ibin (fun x y => x * y) 18) := s_imul (by decide +kernel : decode cL_cell 17 = .ok (.imul, 1))
theorem oL_cell_18 : OpS mL_cell 18 (o_iret) := s_iret rfl (by decide +kernel : decode cL_cell 18 = .ok (.ireturn, 1))
theorem oL_letter_0 : OpS mL_letter 0 (o_iload 1 1) := s_iload_n (by decide +kernel : decode cL_letter 0 = .ok (.iload_n 1, 1)) rfl
theorem oL_letter_1 : OpS mL_letter 1 (o_aload 0 2) := s_aload_n (by decide +kernel : decode cL_letter 1 = .ok (.aload_n 0, 1)) rfl
theorem oL_letter_5 : OpS mL_letter 5 (o_icmp (fun x y => y ≤ x) 16 8) := s_icmp_ge (by decide +kernel : decode cL_letter 5 = .ok (.if_icmp .ge 11, 3)) (by decide)
theorem oL_letter_8 : OpS mL_letter 8 (o_aload 0 9) := s_aload_n (by decide +kernel : decode cL_letter 8 = .ok (.aload_n 0, 1)) rfl
theorem oL_letter_9 : OpS mL_letter 9 (o_iload 1 10) := s_iload_n (by decide +kernel : decode cL_letter 9 = .ok (.iload_n 1, 1)) rfl
theorem oL_letter_13 : OpS mL_letter 13 (o_goto 18) := s_goto (by decide +kernel : decode cL_letter 13 = .ok (.goto 5, 3)) (by decide)
theorem oL_letter_16 : OpS mL_letter 16 (o_const (.int 32) 18) := s_bipush (by decide +kernel : decode cL_letter 16 = .ok (.bipush 32, 2)) (by decide)
theorem oL_letter_18 : OpS mL_letter 18 (o_iret) := s_iret rfl (by decide +kernel : decode cL_letter 18 = .ok (.ireturn, 1))
theorem oL_four_0 : OpS mL_four 0 (o_aload 0 1) := s_aload_n (by decide +kernel : decode cL_four 0 = .ok (.aload_n 0, 1)) rfl
theorem oL_four_1 : OpS mL_four 1 (o_iload 1 2) := s_iload_n (by decide +kernel : decode cL_four 1 = .ok (.iload_n 1, 1)) rfl
theorem oL_four_2 : OpS mL_four 2 (o_callS mL_letter 2 5) := s_callS ceL_letter (Or.inl wd_785) wd_786 (by decide +kernel : decode cL_four 2 = .ok (.invokestatic 19, 3))
theorem oL_four_5 : OpS mL_four 5 (o_const (.int 24) 7) := s_bipush (by decide +kernel : decode cL_four 5 = .ok (.bipush 24, 2)) (by decide)
theorem oL_four_8 : OpS mL_four 8 (o_aload 0 9) := s_aload_n (by decide +kernel : decode cL_four 8 = .ok (.aload_n 0, 1)) rfl
theorem oL_four_9 : OpS mL_four 9 (o_iload 1 10) := s_iload_n (by decide +kernel : decode cL_four 9 = .ok (.iload_n 1, 1)) rfl
theorem oL_four_10 : OpS mL_four 10 (o_const (.int 1) 11) := s_iconst (by decide +kernel : decode cL_four 10 = .ok (.iconst 1, 1)) (by decide)
theorem oL_four_11 : OpS mL_four 11 (o_ibin (fun x y => x + y) 12) := s_iadd (by decide +kernel : decode cL_four 11 = .ok (.iadd, 1))
theorem oL_four_12 : OpS mL_four 12 (o_callS mL_letter 2 15) := s_callS ceL_letter (Or.inl wd_785) wd_786 (by decide +kernel : decode cL_four 12 = .ok (.invokestatic 19, 3))
theorem oL_four_15 : OpS mL_four 15 (o_const (.int 16) 17) := s_bipush (by decide +kernel : decode cL_four 15 = .ok (.bipush 16, 2)) (by decide)
theorem oL_four_18 : OpS mL_four 18 (o_ibin (fun x y => x ||| y) 19) := s_ior (by decide +kernel : decode cL_four 18 = .ok (.ior, 1))
theorem oL_four_19 : OpS mL_four 19 (o_aload 0 20) := s_aload_n (by decide +kernel : decode cL_four 19 = .ok (.aload_n 0, 1)) rfl
theorem oL_four_20 : OpS mL_four 20 (o_iload 1 21) := s_iload_n (by decide +kernel : decode cL_four 20 = .ok (.iload_n 1, 1)) rfl
theorem oL_four_21 : OpS mL_four 21 (o_const (.int 2) 22) := s_iconst (by decide +kernel : decode cL_four 21 = .ok (.iconst 2, 1)) (by decide)
theorem oL_four_22 : OpS mL_four 22 (o_ibin (fun x y => x + y) 23) := s_iadd (by decide +kernel : decode cL_four 22 = .ok (.iadd, 1))
theorem oL_four_23 : OpS mL_four 23 (o_callS mL_letter 2 26) := s_callS ceL_letter (Or.inl wd_785) wd_786 (by decide +kernel : decode cL_four 23 = .ok (.invokestatic 19, 3))
theorem oL_four_26 : OpS mL_four 26 (o_const (.int 8) 28) := s_bipush (by decide +kernel : decode cL_four 26 = .ok (.bipush 8, 2)) (by decide)
theorem oL_four_29 : OpS mL_four 29 (o_ibin (fun x y => x ||| y) 30) := s_ior (by decide +kernel : decode cL_four 29 = .ok (.ior, 1))
theorem oL_four_30 : OpS mL_four 30 (o_aload 0 31) := s_aload_n (by decide +kernel : decode cL_four 30 = .ok (.aload_n 0, 1)) rfl
theorem oL_four_31 : OpS mL_four 31 (o_iload 1 32) := s_iload_n (by decide +kernel : decode cL_four 31 = .ok (.iload_n 1, 1)) rfl
theorem oL_four_32 : OpS mL_four 32 (o_const (.int 3) 33) := s_iconst (by decide +kernel : decode cL_four 32 = .ok (.iconst 3, 1)) (by decide)
theorem oL_four_33 : OpS mL_four 33 (o_ibin (fun x y => x + y) 34) := s_iadd (by decide +kernel : decode cL_four 33 = .ok (.iadd, 1))
theorem oL_four_34 : OpS mL_four 34 (o_callS mL_letter 2 37) := s_callS ceL_letter (Or.inl wd_785) wd_786 (by decide +kernel : decode cL_four 34 = .ok (.invokestatic 19, 3))
theorem oL_four_37 : OpS mL_four 37 (o_ibin (fun x y => x ||| y) 38) := s_ior (by decide +kernel : decode cL_four 37 = .ok (.ior, 1))
theorem oL_four_38 : OpS mL_four 38 (o_iret) := s_iret rfl (by decide +kernel : decode cL_four 38 = .ok (.ireturn, 1))
theorem oL_say_0 : OpS mL_say 0 (o_aload 0 1) := s_aload_n (by decide +kernel : decode cL_say 0 = .ok (.aload_n 0, 1)) rfl
theorem oL_say_1 : OpS mL_say 1 (o_const (.int 12) 3) := s_bipush (by decide +kernel : decode cL_say 1 = .ok (.bipush 12, 2)) (by decide)
theorem oL_say_3 : OpS mL_say 3 (o_callV mX11_count 11 1 6) := s_callV ceX11_count clsX11 (Or.inl wd_25) wd_26 selX11_count (by decide +kernel : decode cL_say 3 = .ok (.invokevirtual 25, 3))
theorem oL_say_6 : OpS mL_say 6 (o_istore 2 4 7) := s_istore_n (by decide +kernel : decode cL_say 6 = .ok (.istore_n 2, 1)) rfl rfl
theorem oL_say_7 : OpS mL_say 7 (o_const (.int 0) 8) := s_iconst (by decide +kernel : decode cL_say 7 = .ok (.iconst 0, 1)) (by decide)
theorem oL_say_8 : OpS mL_say 8 (o_istore 3 4 9) := s_istore_n (by decide +kernel : decode cL_say 8 = .ok (.istore_n 3, 1)) rfl rfl
theorem oL_say_9 : OpS mL_say 9 (o_iload 3 10) := s_iload_n (by decide +kernel : decode cL_say 9 = .ok (.iload_n 3, 1)) rfl
theorem oL_say_10 : OpS mL_say 10 (o_aload 1 11) := s_aload_n (by decide +kernel : decode cL_say 10 = .ok (.aload_n 1, 1)) rfl
theorem oL_say_14 : OpS mL_say 14 (o_icmp (fun x y => y ≤ x) 64 17) := s_icmp_ge (by decide +kernel : decode cL_say 14 = .ok (.if_icmp .ge 50, 3)) (by decide)
theorem oL_say_17 : OpS mL_say 17 (o_aload 0 18) := s_aload_n (by decide +kernel : decode cL_say 17 = .ok (.aload_n 0, 1)) rfl
theorem oL_say_18 : OpS mL_say 18 (o_aload 1 19) := s_aload_n (by decide +kernel : decode cL_say 18 = .ok (.aload_n 1, 1)) rfl
theorem oL_say_19 : OpS mL_say 19 (o_iload 3 20) := s_iload_n (by decide +kernel : decode cL_say 19 = .ok (.iload_n 3, 1)) rfl
theorem oL_say_20 : OpS mL_say 20 (o_callS mL_four 2 23) := s_callS ceL_four (Or.inl wd_782) wd_783 (by decide +kernel : decode cL_say 20 = .ok (.invokestatic 31, 3))
theorem oL_say_23 : OpS mL_say 23 (o_aload 1 24) := s_aload_n (by decide +kernel : decode cL_say 23 = .ok (.aload_n 1, 1)) rfl
theorem oL_say_24 : OpS mL_say 24 (o_iload 3 25) := s_iload_n (by decide +kernel : decode cL_say 24 = .ok (.iload_n 3, 1)) rfl
theorem oL_say_25 : OpS mL_say 25 (o_const (.int 4) 26) := s_iconst (by decide +kernel : decode cL_say 25 = .ok (.iconst 4, 1)) (by decide)
theorem oL_say_26 : OpS mL_say 26 (o_ibin (fun x y => x + y) 27) := s_iadd (by decide +kernel : decode cL_say 26 = .ok (.iadd, 1))
theorem oL_say_27 : OpS mL_say 27 (o_callS mL_four 2 30) := s_callS ceL_four (Or.inl wd_782) wd_783 (by decide +kernel : decode cL_say 27 = .ok (.invokestatic 31, 3))
theorem oL_say_30 : OpS mL_say 30 (o_aload 1 31) := s_aload_n (by decide +kernel : decode cL_say 30 = .ok (.aload_n 1, 1)) rfl
theorem oL_say_31 : OpS mL_say 31 (o_iload 3 32) := s_iload_n (by decide +kernel : decode cL_say 31 = .ok (.iload_n 3, 1)) rfl
theorem oL_say_32 : OpS mL_say 32 (o_const (.int 8) 34) := s_bipush (by decide +kernel : decode cL_say 32 = .ok (.bipush 8, 2)) (by decide)
theorem oL_say_34 : OpS mL_say 34 (o_ibin (fun x y => x + y) 35) := s_iadd (by decide +kernel : decode cL_say 34 = .ok (.iadd, 1))
theorem oL_say_35 : OpS mL_say 35 (o_callS mL_four 2 38) := s_callS ceL_four (Or.inl wd_782) wd_783 (by decide +kernel : decode cL_say 35 = .ok (.invokestatic 31, 3))
theorem oL_say_38 : OpS mL_say 38 (o_aload 1 39) := s_aload_n (by decide +kernel : decode cL_say 38 = .ok (.aload_n 1, 1)) rfl
theorem oL_say_39 : OpS mL_say 39 (o_iload 3 40) := s_iload_n (by decide +kernel : decode cL_say 39 = .ok (.iload_n 3, 1)) rfl
theorem oL_say_40 : OpS mL_say 40 (o_const (.int 12) 42) := s_bipush (by decide +kernel : decode cL_say 40 = .ok (.bipush 12, 2)) (by decide)
theorem oL_say_42 : OpS mL_say 42 (o_ibin (fun x y => x + y) 43) := s_iadd (by decide +kernel : decode cL_say 42 = .ok (.iadd, 1))
theorem oL_say_43 : OpS mL_say 43 (o_callS mL_four 2 46) := s_callS ceL_four (Or.inl wd_782) wd_783 (by decide +kernel : decode cL_say 43 = .ok (.invokestatic 31, 3))
theorem oL_say_46 : OpS mL_say 46 (o_aload 1 47) := s_aload_n (by decide +kernel : decode cL_say 46 = .ok (.aload_n 1, 1)) rfl
theorem oL_say_47 : OpS mL_say 47 (o_iload 3 48) := s_iload_n (by decide +kernel : decode cL_say 47 = .ok (.iload_n 3, 1)) rfl
theorem oL_say_48 : OpS mL_say 48 (o_const (.int 16) 50) := s_bipush (by decide +kernel : decode cL_say 48 = .ok (.bipush 16, 2)) (by decide)
theorem oL_say_50 : OpS mL_say 50 (o_ibin (fun x y => x + y) 51) := s_iadd (by decide +kernel : decode cL_say 50 = .ok (.iadd, 1))
theorem oL_say_51 : OpS mL_say 51 (o_callS mL_four 2 54) := s_callS ceL_four (Or.inl wd_782) wd_783 (by decide +kernel : decode cL_say 51 = .ok (.invokestatic 31, 3))
theorem oL_say_54 : OpS mL_say 54 (o_callV mX11_feed 11 5 57) := s_callV ceX11_feed clsX11 (Or.inl wd_789) wd_790 selX11_feed (by decide +kernel : decode cL_say 54 = .ok (.invokevirtual 34, 3))
theorem oL_say_57 : OpS mL_say 57 (o_pop 58) := s_pop (by decide +kernel : decode cL_say 57 = .ok (.pop, 1))
theorem oL_say_58 : OpS mL_say 58 (o_iinc 3 4 20 61) := s_iinc (by decide +kernel : decode cL_say 58 = .ok (.iinc 3 20, 3)) (by decide) rfl
theorem oL_say_61 : OpS mL_say 61 (o_goto 9) := s_goto (by decide +kernel : decode cL_say 61 = .ok (.goto (-52), 3)) (by decide)
theorem oL_say_64 : OpS mL_say 64 (o_aload 0 65) := s_aload_n (by decide +kernel : decode cL_say 64 = .ok (.aload_n 0, 1)) rfl
theorem oL_say_65 : OpS mL_say 65 (o_iload 2 66) := s_iload_n (by decide +kernel : decode cL_say 65 = .ok (.iload_n 2, 1)) rfl
theorem oL_say_66 : OpS mL_say 66 (o_aload 1 67) := s_aload_n (by decide +kernel : decode cL_say 66 = .ok (.aload_n 1, 1)) rfl
theorem oL_say_70 : OpS mL_say 70 (o_ibin (fun x y => x + y) 71) := s_iadd (by decide +kernel : decode cL_say 70 = .ok (.iadd, 1))
theorem oL_say_71 : OpS mL_say 71 (o_callV mX11_trim 11 1 74) := s_callV ceX11_trim clsX11 (Or.inl wd_798) wd_799 selX11_trim (by decide +kernel : decode cL_say 71 = .ok (.invokevirtual 38, 3))
theorem oL_say_74 : OpS mL_say 74 (o_pop 75) := s_pop (by decide +kernel : decode cL_say 74 = .ok (.pop, 1))
theorem oL_say_75 : OpS mL_say 75 (o_vret) := s_vret rfl (by decide +kernel : decode cL_say 75 = .ok (.return_, 1))
theorem oL_number_0 : OpS mL_number 0 (o_aload 0 1) := s_aload_n (by decide +kernel : decode cL_number 0 = .ok (.aload_n 0, 1)) rfl
theorem oL_number_3 : OpS mL_number 3 (o_callS mL_say 2 6) := s_callS ceL_say (Or.inl wd_778) wd_779 (by decide +kernel : decode cL_number 3 = .ok (.invokestatic 43, 3))
theorem oL_number_6 : OpS mL_number 6 (o_aload 0 7) := s_aload_n (by decide +kernel : decode cL_number 6 = .ok (.aload_n 0, 1)) rfl
theorem oL_number_7 : OpS mL_number 7 (o_const (.int 12) 9) := s_bipush (by decide +kernel : decode cL_number 7 = .ok (.bipush 12, 2)) (by decide)
theorem oL_number_9 : OpS mL_number 9 (o_callV mX11_count 11 1 12) := s_callV ceX11_count clsX11 (Or.inl wd_25) wd_26 selX11_count (by decide +kernel : decode cL_number 9 = .ok (.invokevirtual 25, 3))
theorem oL_number_12 : OpS mL_number 12 (o_istore 2 6 13) := s_istore_n (by decide +kernel : decode cL_number 12 = .ok (.istore_n 2, 1)) rfl rfl
theorem oL_number_13 : OpS mL_number 13 (o_const (.int 0) 14) := s_iconst (by decide +kernel : decode cL_number 13 = .ok (.iconst 0, 1)) (by decide)
theorem oL_number_14 : OpS mL_number 14 (o_istore 3 6 15) := s_istore_n (by decide +kernel : decode cL_number 14 = .ok (.istore_n 3, 1)) rfl rfl
theorem oL_number_15 : OpS mL_number 15 (o_const (.int 0) 16) := s_iconst (by decide +kernel : decode cL_number 15 = .ok (.iconst 0, 1)) (by decide)
theorem oL_number_16 : OpS mL_number 16 (o_istore 4 6 18) := s_istore (by decide +kernel : decode cL_number 16 = .ok (.istore 4, 2)) rfl
theorem oL_number_18 : OpS mL_number 18 (o_iload 1 19) := s_iload_n (by decide +kernel : decode cL_number 18 = .ok (.iload_n 1, 1)) rfl
theorem oL_number_19 : OpS mL_number 19 (o_istore 5 6 21) := s_istore (by decide +kernel : decode cL_number 19 = .ok (.istore 5, 2)) rfl
theorem oL_number_21 : OpS mL_number 21 (o_iload 4 23) := s_iload (by decide +kernel : decode cL_number 21 = .ok (.iload 4, 2))
theorem oL_number_23 : OpS mL_number 23 (o_if (fun x => x = 0) 31 26) := s_if_eq (by decide +kernel : decode cL_number 23 = .ok (.ifCond .eq 8, 3)) (by decide)
theorem oL_number_26 : OpS mL_number 26 (o_iload 5 28) := s_iload (by decide +kernel : decode cL_number 26 = .ok (.iload 5, 2))
theorem oL_number_28 : OpS mL_number 28 (o_if (fun x => x ≤ 0) 61 31) := s_if_le (by decide +kernel : decode cL_number 28 = .ok (.ifCond .le 33, 3)) (by decide)
theorem oL_number_31 : OpS mL_number 31 (o_iload 3 32) := s_iload_n (by decide +kernel : decode cL_number 31 = .ok (.iload_n 3, 1)) rfl
theorem oL_number_32 : OpS mL_number 32 (o_const (.int 8) 34) := s_bipush (by decide +kernel : decode cL_number 32 = .ok (.bipush 8, 2)) (by decide)
theorem oL_number_34 : OpS mL_number 34 (o_ibin (fun x y => (x.toUInt32 >>> (y.toUInt32 &&& Int32.toUInt32 31)).toInt32) 35) := s_iushr (by decide +kernel : decode cL_number 34 = .ok (.iushr, 1))
theorem oL_number_35 : OpS mL_number 35 (o_const (.int 48) 37) := s_bipush (by decide +kernel : decode cL_number 35 = .ok (.bipush 48, 2)) (by decide)
theorem oL_number_37 : OpS mL_number 37 (o_iload 5 39) := s_iload (by decide +kernel : decode cL_number 37 = .ok (.iload 5, 2))
theorem oL_number_39 : OpS mL_number 39 (o_const (.int 10) 41) := s_bipush (by decide +kernel : decode cL_number 39 = .ok (.bipush 10, 2)) (by decide)
theorem oL_number_41 : OpS mL_number 41 (o_irem 42) := s_irem (by decide +kernel : decode cL_number 41 = .ok (.irem, 1))
theorem oL_number_42 : OpS mL_number 42 (o_ibin (fun x y => x + y) 43) := s_iadd (by decide +kernel : decode cL_number 42 = .ok (.iadd, 1))
theorem oL_number_43 : OpS mL_number 43 (o_const (.int 24) 45) := s_bipush (by decide +kernel : decode cL_number 43 = .ok (.bipush 24, 2)) (by decide)
theorem oL_number_46 : OpS mL_number 46 (o_ibin (fun x y => x ||| y) 47) := s_ior (by decide +kernel : decode cL_number 46 = .ok (.ior, 1))
theorem oL_number_47 : OpS mL_number 47 (o_istore 3 6 48) := s_istore_n (by decide +kernel : decode cL_number 47 = .ok (.istore_n 3, 1)) rfl rfl
theorem oL_number_48 : OpS mL_number 48 (o_iinc 4 6 1 51) := s_iinc (by decide +kernel : decode cL_number 48 = .ok (.iinc 4 1, 3)) (by decide) rfl
theorem oL_number_51 : OpS mL_number 51 (o_iload 5 53) := s_iload (by decide +kernel : decode cL_number 51 = .ok (.iload 5, 2))
theorem oL_number_53 : OpS mL_number 53 (o_const (.int 10) 55) := s_bipush (by decide +kernel : decode cL_number 53 = .ok (.bipush 10, 2)) (by decide)
theorem oL_number_55 : OpS mL_number 55 (o_idiv 56) := s_idiv (by decide +kernel : decode cL_number 55 = .ok (.idiv, 1))
theorem oL_number_56 : OpS mL_number 56 (o_istore 5 6 58) := s_istore (by decide +kernel : decode cL_number 56 = .ok (.istore 5, 2)) rfl
theorem oL_number_58 : OpS mL_number 58 (o_goto 21) := s_goto (by decide +kernel : decode cL_number 58 = .ok (.goto (-37), 3)) (by decide)
theorem oL_number_61 : OpS mL_number 61 (o_aload 0 62) := s_aload_n (by decide +kernel : decode cL_number 61 = .ok (.aload_n 0, 1)) rfl
theorem oL_number_62 : OpS mL_number 62 (o_iload 3 63) := s_iload_n (by decide +kernel : decode cL_number 62 = .ok (.iload_n 3, 1)) rfl
theorem oL_number_63 : OpS mL_number 63 (o_const (.int 0) 64) := s_iconst (by decide +kernel : decode cL_number 63 = .ok (.iconst 0, 1)) (by decide)
theorem oL_number_64 : OpS mL_number 64 (o_const (.int 0) 65) := s_iconst (by decide +kernel : decode cL_number 64 = .ok (.iconst 0, 1)) (by decide)
theorem oL_number_65 : OpS mL_number 65 (o_const (.int 0) 66) := s_iconst (by decide +kernel : decode cL_number 65 = .ok (.iconst 0, 1)) (by decide)
theorem oL_number_66 : OpS mL_number 66 (o_const (.int 0) 67) := s_iconst (by decide +kernel : decode cL_number 66 = .ok (.iconst 0, 1)) (by decide)
theorem oL_number_67 : OpS mL_number 67 (o_callV mX11_feed 11 5 70) := s_callV ceX11_feed clsX11 (Or.inl wd_789) wd_790 selX11_feed (by decide +kernel : decode cL_number 67 = .ok (.invokevirtual 34, 3))
theorem oL_number_70 : OpS mL_number 70 (o_pop 71) := s_pop (by decide +kernel : decode cL_number 70 = .ok (.pop, 1))
theorem oL_number_71 : OpS mL_number 71 (o_aload 0 72) := s_aload_n (by decide +kernel : decode cL_number 71 = .ok (.aload_n 0, 1)) rfl
theorem oL_number_72 : OpS mL_number 72 (o_iload 2 73) := s_iload_n (by decide +kernel : decode cL_number 72 = .ok (.iload_n 2, 1)) rfl
theorem oL_number_73 : OpS mL_number 73 (o_iload 4 75) := s_iload (by decide +kernel : decode cL_number 73 = .ok (.iload 4, 2))
theorem oL_number_75 : OpS mL_number 75 (o_ibin (fun x y => x + y) 76) := s_iadd (by decide +kernel : decode cL_number 75 = .ok (.iadd, 1))
theorem oL_number_76 : OpS mL_number 76 (o_callV mX11_trim 11 1 79) := s_callV ceX11_trim clsX11 (Or.inl wd_798) wd_799 selX11_trim (by decide +kernel : decode cL_number 76 = .ok (.invokevirtual 38, 3))
theorem oL_number_79 : OpS mL_number 79 (o_pop 80) := s_pop (by decide +kernel : decode cL_number 79 = .ok (.pop, 1))
theorem oL_number_80 : OpS mL_number 80 (o_vret) := s_vret rfl (by decide +kernel : decode cL_number 80 = .ok (.return_, 1))
theorem oL_put_0 : OpS mL_put 0 (o_aload 0 1) := s_aload_n (by decide +kernel : decode cL_put 0 = .ok (.aload_n 0, 1)) rfl
theorem oL_put_1 : OpS mL_put 1 (o_const (.int 12) 3) := s_bipush (by decide +kernel : decode cL_put 1 = .ok (.bipush 12, 2)) (by decide)
theorem oL_put_3 : OpS mL_put 3 (o_callV mX11_count 11 1 6) := s_callV ceX11_count clsX11 (Or.inl wd_25) wd_26 selX11_count (by decide +kernel : decode cL_put 3 = .ok (.invokevirtual 25, 3))
theorem oL_put_6 : OpS mL_put 6 (o_istore 2 3 7) := s_istore_n (by decide +kernel : decode cL_put 6 = .ok (.istore_n 2, 1)) rfl rfl
theorem oL_put_7 : OpS mL_put 7 (o_aload 0 8) := s_aload_n (by decide +kernel : decode cL_put 7 = .ok (.aload_n 0, 1)) rfl
theorem oL_put_8 : OpS mL_put 8 (o_iload 1 9) := s_iload_n (by decide +kernel : decode cL_put 8 = .ok (.iload_n 1, 1)) rfl
theorem oL_put_9 : OpS mL_put 9 (o_const (.int 24) 11) := s_bipush (by decide +kernel : decode cL_put 9 = .ok (.bipush 24, 2)) (by decide)
theorem oL_put_12 : OpS mL_put 12 (o_const (.int 0) 13) := s_iconst (by decide +kernel : decode cL_put 12 = .ok (.iconst 0, 1)) (by decide)
theorem oL_put_13 : OpS mL_put 13 (o_const (.int 0) 14) := s_iconst (by decide +kernel : decode cL_put 13 = .ok (.iconst 0, 1)) (by decide)
theorem oL_put_14 : OpS mL_put 14 (o_const (.int 0) 15) := s_iconst (by decide +kernel : decode cL_put 14 = .ok (.iconst 0, 1)) (by decide)
theorem oL_put_15 : OpS mL_put 15 (o_const (.int 0) 16) := s_iconst (by decide +kernel : decode cL_put 15 = .ok (.iconst 0, 1)) (by decide)
theorem oL_put_16 : OpS mL_put 16 (o_callV mX11_feed 11 5 19) := s_callV ceX11_feed clsX11 (Or.inl wd_789) wd_790 selX11_feed (by decide +kernel : decode cL_put 16 = .ok (.invokevirtual 34, 3))
theorem oL_put_19 : OpS mL_put 19 (o_pop 20) := s_pop (by decide +kernel : decode cL_put 19 = .ok (.pop, 1))
theorem oL_put_20 : OpS mL_put 20 (o_aload 0 21) := s_aload_n (by decide +kernel : decode cL_put 20 = .ok (.aload_n 0, 1)) rfl
theorem oL_put_21 : OpS mL_put 21 (o_iload 2 22) := s_iload_n (by decide +kernel : decode cL_put 21 = .ok (.iload_n 2, 1)) rfl
theorem oL_put_22 : OpS mL_put 22 (o_const (.int 1) 23) := s_iconst (by decide +kernel : decode cL_put 22 = .ok (.iconst 1, 1)) (by decide)
theorem oL_put_23 : OpS mL_put 23 (o_ibin (fun x y => x + y) 24) := s_iadd (by decide +kernel : decode cL_put 23 = .ok (.iadd, 1))
theorem oL_put_24 : OpS mL_put 24 (o_callV mX11_trim 11 1 27) := s_callV ceX11_trim clsX11 (Or.inl wd_798) wd_799 selX11_trim (by decide +kernel : decode cL_put 24 = .ok (.invokevirtual 38, 3))
theorem oL_put_27 : OpS mL_put 27 (o_pop 28) := s_pop (by decide +kernel : decode cL_put 27 = .ok (.pop, 1))
theorem oL_put_28 : OpS mL_put 28 (o_vret) := s_vret rfl (by decide +kernel : decode cL_put 28 = .ok (.return_, 1))
theorem oL_size_0 : OpS mL_size 0 (o_const (.int 1) 1) := s_iconst (by decide +kernel : decode cL_size 0 = .ok (.iconst 1, 1)) (by decide)
theorem oL_size_1 : OpS mL_size 1 (o_aload 0 2) := s_aload_n (by decide +kernel : decode cL_size 1 = .ok (.aload_n 0, 1)) rfl
theorem oL_size_2 : OpS mL_size 2 (o_iload 1 3) := s_iload_n (by decide +kernel : decode cL_size 2 = .ok (.iload_n 1, 1)) rfl
theorem oL_size_3 : OpS mL_size 3 (o_callS mL_cell 2 6) := s_callS ceL_cell (Or.inl wd_413) wd_414 (by decide +kernel : decode cL_size 3 = .ok (.invokestatic 47, 3))
theorem oL_size_6 : OpS mL_size 6 (o_const (.int 3) 7) := s_iconst (by decide +kernel : decode cL_size 6 = .ok (.iconst 3, 1)) (by decide)
theorem oL_size_7 : OpS mL_size 7 (o_ibin (fun x y => x >>> (y &&& 31)) 8) := s_ishr (by decide +kernel : decode cL_size 7 = .ok (.ishr, 1))
theorem oL_size_8 : OpS mL_size 8 (o_const (.int 5) 9) := s_iconst (by decide +kernel : decode cL_size 8 = .ok (.iconst 5, 1)) (by decide)
theorem oL_size_9 : OpS mL_size 9 (o_callS mL_below 2 12) := s_callS ceL_below (Or.inl wd_409) wd_410 (by decide +kernel : decode cL_size 9 = .ok (.invokestatic 51, 3))
theorem oL_size_12 : OpS mL_size 12 (o_ibin (fun x y => x + y) 13) := s_iadd (by decide +kernel : decode cL_size 12 = .ok (.iadd, 1))
theorem oL_size_13 : OpS mL_size 13 (o_iret) := s_iret rfl (by decide +kernel : decode cL_size 13 = .ok (.ireturn, 1))
theorem oL_letter__0 : OpS mL_letter_ 0 (o_iload 2 1) := s_iload_n (by decide +kernel : decode cL_letter_ 0 = .ok (.iload_n 2, 1)) rfl
theorem oL_letter__1 : OpS mL_letter_ 1 (o_aload 0 2) := s_aload_n (by decide +kernel : decode cL_letter_ 1 = .ok (.aload_n 0, 1)) rfl
theorem oL_letter__2 : OpS mL_letter_ 2 (o_iload 1 3) := s_iload_n (by decide +kernel : decode cL_letter_ 2 = .ok (.iload_n 1, 1)) rfl
theorem oL_letter__3 : OpS mL_letter_ 3 (o_callS mL_size 2 6) := s_callS ceL_size (Or.inl wd_808) wd_809 (by decide +kernel : decode cL_letter_ 3 = .ok (.invokestatic 55, 3))
theorem oL_letter__6 : OpS mL_letter_ 6 (o_icmp (fun x y => x = y) 9 16) := s_icmp_ne (by decide +kernel : decode cL_letter_ 6 = .ok (.if_icmp .ne 10, 3)) (by decide)
theorem oL_letter__9 : OpS mL_letter_ 9 (o_const (.int 48) 11) := s_bipush (by decide +kernel : decode cL_letter_ 9 = .ok (.bipush 48, 2)) (by decide)
theorem oL_letter__11 : OpS mL_letter_ 11 (o_iload 1 12) := s_iload_n (by decide +kernel : decode cL_letter_ 11 = .ok (.iload_n 1, 1)) rfl
theorem oL_letter__12 : OpS mL_letter_ 12 (o_ibin (fun x y => x + y) 13) := s_iadd (by decide +kernel : decode cL_letter_ 12 = .ok (.iadd, 1))
theorem oL_letter__13 : OpS mL_letter_ 13 (o_goto 34) := s_goto (by decide +kernel : decode cL_letter_ 13 = .ok (.goto 21, 3)) (by decide)
theorem oL_letter__16 : OpS mL_letter_ 16 (o_const (.int 97) 18) := s_bipush (by decide +kernel : decode cL_letter_ 16 = .ok (.bipush 97, 2)) (by decide)
theorem oL_letter__18 : OpS mL_letter_ 18 (o_aload 0 19) := s_aload_n (by decide +kernel : decode cL_letter_ 18 = .ok (.aload_n 0, 1)) rfl
theorem oL_letter__19 : OpS mL_letter_ 19 (o_iload 1 20) := s_iload_n (by decide +kernel : decode cL_letter_ 19 = .ok (.iload_n 1, 1)) rfl
theorem oL_letter__20 : OpS mL_letter_ 20 (o_callS mL_cell 2 23) := s_callS ceL_cell (Or.inl wd_413) wd_414 (by decide +kernel : decode cL_letter_ 20 = .ok (.invokestatic 47, 3))
theorem oL_letter__23 : OpS mL_letter_ 23 (o_const (.int 2) 24) := s_iconst (by decide +kernel : decode cL_letter_ 23 = .ok (.iconst 2, 1)) (by decide)
theorem oL_letter__24 : OpS mL_letter_ 24 (o_iload 2 25) := s_iload_n (by decide +kernel : decode cL_letter_ 24 = .ok (.iload_n 2, 1)) rfl
theorem oL_letter__25 : OpS mL_letter_ 25 (o_ibin (fun x y => x * y) 26) := s_imul (by decide +kernel : decode cL_letter_ 25 = .ok (.imul, 1))
theorem oL_letter__26 : OpS mL_letter_ 26 (o_const (.int 5) 27) := s_iconst (by decide +kernel : decode cL_letter_ 26 = .ok (.iconst 5, 1)) (by decide)
theorem oL_letter__27 : OpS mL_letter_ 27 (o_ibin (fun x y => x + y) 28) := s_iadd (by decide +kernel : decode cL_letter_ 27 = .ok (.iadd, 1))
theorem oL_letter__28 : OpS mL_letter_ 28 (o_ibin (fun x y => x >>> (y &&& 31)) 29) := s_ishr (by decide +kernel : decode cL_letter_ 28 = .ok (.ishr, 1))
theorem oL_letter__29 : OpS mL_letter_ 29 (o_const (.int 5) 30) := s_iconst (by decide +kernel : decode cL_letter_ 29 = .ok (.iconst 5, 1)) (by decide)
theorem oL_letter__30 : OpS mL_letter_ 30 (o_callS mL_below 2 33) := s_callS ceL_below (Or.inl wd_409) wd_410 (by decide +kernel : decode cL_letter_ 30 = .ok (.invokestatic 51, 3))
theorem oL_letter__33 : OpS mL_letter_ 33 (o_ibin (fun x y => x + y) 34) := s_iadd (by decide +kernel : decode cL_letter_ 33 = .ok (.iadd, 1))
theorem oL_letter__34 : OpS mL_letter_ 34 (o_iret) := s_iret rfl (by decide +kernel : decode cL_letter_ 34 = .ok (.ireturn, 1))
theorem oL_weight_0 : OpS mL_weight 0 (o_aload 0 1) := s_aload_n (by decide +kernel : decode cL_weight 0 = .ok (.aload_n 0, 1)) rfl
theorem oL_weight_1 : OpS mL_weight 1 (o_const (.int 7) 3) := s_bipush (by decide +kernel : decode cL_weight 1 = .ok (.bipush 7, 2)) (by decide)
theorem oL_weight_3 : OpS mL_weight 3 (o_iload 1 4) := s_iload_n (by decide +kernel : decode cL_weight 3 = .ok (.iload_n 1, 1)) rfl
theorem oL_weight_4 : OpS mL_weight 4 (o_const (.int 3) 5) := s_iconst (by decide +kernel : decode cL_weight 4 = .ok (.iconst 3, 1)) (by decide)
theorem oL_weight_5 : OpS mL_weight 5 (o_irem 6) := s_irem (by decide +kernel : decode cL_weight 5 = .ok (.irem, 1))
theorem oL_weight_6 : OpS mL_weight 6 (o_ibin (fun x y => x + y) 7) := s_iadd (by decide +kernel : decode cL_weight 6 = .ok (.iadd, 1))
theorem oL_weight_7 : OpS mL_weight 7 (o_callS mL_cell 2 10) := s_callS ceL_cell (Or.inl wd_413) wd_414 (by decide +kernel : decode cL_weight 7 = .ok (.invokestatic 47, 3))
theorem oL_weight_10 : OpS mL_weight 10 (o_iload 1 11) := s_iload_n (by decide +kernel : decode cL_weight 10 = .ok (.iload_n 1, 1)) rfl
theorem oL_weight_11 : OpS mL_weight 11 (o_ibin (fun x y => x >>> (y &&& 31)) 12) := s_ishr (by decide +kernel : decode cL_weight 11 = .ok (.ishr, 1))
theorem oL_weight_12 : OpS mL_weight 12 (o_const (.int 90) 14) := s_bipush (by decide +kernel : decode cL_weight 12 = .ok (.bipush 90, 2)) (by decide)
theorem oL_weight_14 : OpS mL_weight 14 (o_callS mL_below 2 17) := s_callS ceL_below (Or.inl wd_409) wd_410 (by decide +kernel : decode cL_weight 14 = .ok (.invokestatic 51, 3))
theorem oL_weight_17 : OpS mL_weight 17 (o_iret) := s_iret rfl (by decide +kernel : decode cL_weight 17 = .ok (.ireturn, 1))
theorem oL_pad_0 : OpS mL_pad 0 (o_new 11 10 3) := s_new clsX11 defX11 wd_420 wd_102 wd_1 (by decide +kernel : decode cL_pad 0 = .ok (.new 26, 3))
theorem oL_pad_3 : OpS mL_pad 3 (o_dup 4) := s_dup (by decide +kernel : decode cL_pad 3 = .ok (.dup, 1))
theorem oL_pad_4 : OpS mL_pad 4 (o_callI mX11_init 0 7) := s_callI ceX11_init rfl rfl (Or.inl wd_421) wd_422 (by decide +kernel : decode cL_pad 4 = .ok (.invokespecial 58, 3))
theorem oL_pad_7 : OpS mL_pad 7 (o_astore 1 4 8) := s_astore_n (by decide +kernel : decode cL_pad 7 = .ok (.astore_n 1, 1)) rfl rfl
theorem oL_pad_8 : OpS mL_pad 8 (o_aload 1 9) := s_aload_n (by decide +kernel : decode cL_pad 8 = .ok (.aload_n 1, 1)) rfl
theorem oL_pad_11 : OpS mL_pad 11 (o_callS mL_say 2 14) := s_callS ceL_say (Or.inl wd_778) wd_779 (by decide +kernel : decode cL_pad 11 = .ok (.invokestatic 43, 3))
theorem oL_pad_14 : OpS mL_pad 14 (o_const (.int 0) 15) := s_iconst (by decide +kernel : decode cL_pad 14 = .ok (.iconst 0, 1)) (by decide)
theorem oL_pad_15 : OpS mL_pad 15 (o_istore 2 4 16) := s_istore_n (by decide +kernel : decode cL_pad 15 = .ok (.istore_n 2, 1)) rfl rfl
theorem oL_pad_16 : OpS mL_pad 16 (o_iload 2 17) := s_iload_n (by decide +kernel : decode cL_pad 16 = .ok (.iload_n 2, 1)) rfl
theorem oL_pad_17 : OpS mL_pad 17 (o_const (.int 6) 19) := s_bipush (by decide +kernel : decode cL_pad 17 = .ok (.bipush 6, 2)) (by decide)
theorem oL_pad_19 : OpS mL_pad 19 (o_icmp (fun x y => y ≤ x) 105 22) := s_icmp_ge (by decide +kernel : decode cL_pad 19 = .ok (.if_icmp .ge 86, 3)) (by decide)
theorem oL_pad_22 : OpS mL_pad 22 (o_aload 1 23) := s_aload_n (by decide +kernel : decode cL_pad 22 = .ok (.aload_n 1, 1)) rfl
theorem oL_pad_25 : OpS mL_pad 25 (o_callS mL_say 2 28) := s_callS ceL_say (Or.inl wd_778) wd_779 (by decide +kernel : decode cL_pad 25 = .ok (.invokestatic 43, 3))
theorem oL_pad_28 : OpS mL_pad 28 (o_const (.int 0) 29) := s_iconst (by decide +kernel : decode cL_pad 28 = .ok (.iconst 0, 1)) (by decide)
theorem oL_pad_29 : OpS mL_pad 29 (o_istore 3 4 30) := s_istore_n (by decide +kernel : decode cL_pad 29 = .ok (.istore_n 3, 1)) rfl rfl
theorem oL_pad_30 : OpS mL_pad 30 (o_iload 3 31) := s_iload_n (by decide +kernel : decode cL_pad 30 = .ok (.iload_n 3, 1)) rfl
theorem oL_pad_31 : OpS mL_pad 31 (o_aload 0 32) := s_aload_n (by decide +kernel : decode cL_pad 31 = .ok (.aload_n 0, 1)) rfl
theorem oL_pad_32 : OpS mL_pad 32 (o_iload 2 33) := s_iload_n (by decide +kernel : decode cL_pad 32 = .ok (.iload_n 2, 1)) rfl
theorem oL_pad_33 : OpS mL_pad 33 (o_callS mL_size 2 36) := s_callS ceL_size (Or.inl wd_808) wd_809 (by decide +kernel : decode cL_pad 33 = .ok (.invokestatic 55, 3))
theorem oL_pad_36 : OpS mL_pad 36 (o_icmp (fun x y => y < x) 55 39) := s_icmp_gt (by decide +kernel : decode cL_pad 36 = .ok (.if_icmp .gt 19, 3)) (by decide)
theorem oL_pad_39 : OpS mL_pad 39 (o_aload 1 40) := s_aload_n (by decide +kernel : decode cL_pad 39 = .ok (.aload_n 1, 1)) rfl
theorem oL_pad_40 : OpS mL_pad 40 (o_aload 0 41) := s_aload_n (by decide +kernel : decode cL_pad 40 = .ok (.aload_n 0, 1)) rfl
theorem oL_pad_41 : OpS mL_pad 41 (o_iload 2 42) := s_iload_n (by decide +kernel : decode cL_pad 41 = .ok (.iload_n 2, 1)) rfl
theorem oL_pad_42 : OpS mL_pad 42 (o_iload 3 43) := s_iload_n (by decide +kernel : decode cL_pad 42 = .ok (.iload_n 3, 1)) rfl
theorem oL_pad_43 : OpS mL_pad 43 (o_callS mL_letter_ 3 46) := s_callS ceL_letter_ (Or.inl wd_811) wd_812 (by decide +kernel : decode cL_pad 43 = .ok (.invokestatic 63, 3))
theorem oL_pad_46 : OpS mL_pad 46 (o_callS mL_put 2 49) := s_callS ceL_put (Or.inl wd_814) wd_815 (by decide +kernel : decode cL_pad 46 = .ok (.invokestatic 66, 3))
theorem oL_pad_49 : OpS mL_pad 49 (o_iinc 3 4 1 52) := s_iinc (by decide +kernel : decode cL_pad 49 = .ok (.iinc 3 1, 3)) (by decide) rfl
theorem oL_pad_52 : OpS mL_pad 52 (o_goto 30) := s_goto (by decide +kernel : decode cL_pad 52 = .ok (.goto (-22), 3)) (by decide)
theorem oL_pad_55 : OpS mL_pad 55 (o_aload 1 56) := s_aload_n (by decide +kernel : decode cL_pad 55 = .ok (.aload_n 1, 1)) rfl
theorem oL_pad_58 : OpS mL_pad 58 (o_callS mL_say 2 61) := s_callS ceL_say (Or.inl wd_778) wd_779 (by decide +kernel : decode cL_pad 58 = .ok (.invokestatic 43, 3))
theorem oL_pad_61 : OpS mL_pad 61 (o_aload 1 62) := s_aload_n (by decide +kernel : decode cL_pad 61 = .ok (.aload_n 1, 1)) rfl
theorem oL_pad_62 : OpS mL_pad 62 (o_aload 0 63) := s_aload_n (by decide +kernel : decode cL_pad 62 = .ok (.aload_n 0, 1)) rfl
theorem oL_pad_63 : OpS mL_pad 63 (o_iload 2 64) := s_iload_n (by decide +kernel : decode cL_pad 63 = .ok (.iload_n 2, 1)) rfl
theorem oL_pad_64 : OpS mL_pad 64 (o_callS mL_weight 2 67) := s_callS ceL_weight (Or.inl wd_818) wd_819 (by decide +kernel : decode cL_pad 64 = .ok (.invokestatic 72, 3))
theorem oL_pad_67 : OpS mL_pad 67 (o_callS mL_number 2 70) := s_callS ceL_number (Or.inl wd_821) wd_822 (by decide +kernel : decode cL_pad 67 = .ok (.invokestatic 75, 3))
theorem oL_pad_70 : OpS mL_pad 70 (o_aload 1 71) := s_aload_n (by decide +kernel : decode cL_pad 70 = .ok (.aload_n 1, 1)) rfl
theorem oL_pad_71 : OpS mL_pad 71 (o_iload 2 72) := s_iload_n (by decide +kernel : decode cL_pad 71 = .ok (.iload_n 2, 1)) rfl
theorem oL_pad_72 : OpS mL_pad 72 (o_const (.int 3) 73) := s_iconst (by decide +kernel : decode cL_pad 72 = .ok (.iconst 3, 1)) (by decide)
theorem oL_pad_73 : OpS mL_pad 73 (o_irem 74) := s_irem (by decide +kernel : decode cL_pad 73 = .ok (.irem, 1))
theorem oL_pad_74 : OpS mL_pad 74 (o_const (.int 2) 75) := s_iconst (by decide +kernel : decode cL_pad 74 = .ok (.iconst 2, 1)) (by decide)
theorem oL_pad_75 : OpS mL_pad 75 (o_icmp (fun x y => x = y) 78 83) := s_icmp_ne (by decide +kernel : decode cL_pad 75 = .ok (.if_icmp .ne 8, 3)) (by decide)
theorem oL_pad_80 : OpS mL_pad 80 (o_goto 96) := s_goto (by decide +kernel : decode cL_pad 80 = .ok (.goto 16, 3)) (by decide)
theorem oL_pad_83 : OpS mL_pad 83 (o_iload 2 84) := s_iload_n (by decide +kernel : decode cL_pad 83 = .ok (.iload_n 2, 1)) rfl
theorem oL_pad_84 : OpS mL_pad 84 (o_const (.int 3) 85) := s_iconst (by decide +kernel : decode cL_pad 84 = .ok (.iconst 3, 1)) (by decide)
theorem oL_pad_85 : OpS mL_pad 85 (o_irem 86) := s_irem (by decide +kernel : decode cL_pad 85 = .ok (.irem, 1))
theorem oL_pad_86 : OpS mL_pad 86 (o_if (fun x => x = 0) 89 94) := s_if_ne (by decide +kernel : decode cL_pad 86 = .ok (.ifCond .ne 8, 3)) (by decide)
theorem oL_pad_91 : OpS mL_pad 91 (o_goto 96) := s_goto (by decide +kernel : decode cL_pad 91 = .ok (.goto 5, 3)) (by decide)
theorem oL_pad_96 : OpS mL_pad 96 (o_callS mL_say 2 99) := s_callS ceL_say (Or.inl wd_778) wd_779 (by decide +kernel : decode cL_pad 96 = .ok (.invokestatic 43, 3))
theorem oL_pad_99 : OpS mL_pad 99 (o_iinc 2 4 1 102) := s_iinc (by decide +kernel : decode cL_pad 99 = .ok (.iinc 2 1, 3)) (by decide) rfl
theorem oL_pad_102 : OpS mL_pad 102 (o_goto 16) := s_goto (by decide +kernel : decode cL_pad 102 = .ok (.goto (-86), 3)) (by decide)
theorem oL_pad_105 : OpS mL_pad 105 (o_aload 1 106) := s_aload_n (by decide +kernel : decode cL_pad 105 = .ok (.aload_n 1, 1)) rfl
theorem oL_pad_108 : OpS mL_pad 108 (o_callS mL_say 2 111) := s_callS ceL_say (Or.inl wd_778) wd_779 (by decide +kernel : decode cL_pad 108 = .ok (.invokestatic 43, 3))
theorem oL_pad_111 : OpS mL_pad 111 (o_aload 1 112) := s_aload_n (by decide +kernel : decode cL_pad 111 = .ok (.aload_n 1, 1)) rfl
theorem oL_pad_112 : OpS mL_pad 112 (o_callV mX11_teach 11 0 115) := s_callV ceX11_teach clsX11 (Or.inl wd_829) wd_830 selX11_teach (by decide +kernel : decode cL_pad 112 = .ok (.invokevirtual 86, 3))
theorem oL_pad_115 : OpS mL_pad 115 (o_if (fun x => x = 0) 118 122) := s_if_ne (by decide +kernel : decode cL_pad 115 = .ok (.ifCond .ne 7, 3)) (by decide)
theorem oL_pad_118 : OpS mL_pad 118 (o_aload 1 119) := s_aload_n (by decide +kernel : decode cL_pad 118 = .ok (.aload_n 1, 1)) rfl
theorem oL_pad_119 : OpS mL_pad 119 (o_goto 123) := s_goto (by decide +kernel : decode cL_pad 119 = .ok (.goto 4, 3)) (by decide)
theorem oL_pad_123 : OpS mL_pad 123 (o_aret) := s_aret rfl (by decide +kernel : decode cL_pad 123 = .ok (.areturn, 1))
theorem oL_law_0 : OpS mL_law 0 (o_aload 0 1) := s_aload_n (by decide +kernel : decode cL_law 0 = .ok (.aload_n 0, 1)) rfl
theorem oL_law_1 : OpS mL_law 1 (o_callS mL_pad 1 4) := s_callS ceL_pad (Or.inl wd_417) wd_418 (by decide +kernel : decode cL_law 1 = .ok (.invokestatic 100, 3))
theorem oL_law_4 : OpS mL_law 4 (o_astore 1 9 5) := s_astore_n (by decide +kernel : decode cL_law 4 = .ok (.astore_n 1, 1)) rfl rfl
theorem oL_law_5 : OpS mL_law 5 (o_aload 1 6) := s_aload_n (by decide +kernel : decode cL_law 5 = .ok (.aload_n 1, 1)) rfl
theorem oL_law_9 : OpS mL_law 9 (o_const (.int 0) 10) := s_iconst (by decide +kernel : decode cL_law 9 = .ok (.iconst 0, 1)) (by decide)
theorem oL_law_10 : OpS mL_law 10 (o_zret) := s_zret rfl (by decide +kernel : decode cL_law 10 = .ok (.ireturn, 1))
theorem oL_law_11 : OpS mL_law 11 (o_const (.int 0) 12) := s_iconst (by decide +kernel : decode cL_law 11 = .ok (.iconst 0, 1)) (by decide)
theorem oL_law_12 : OpS mL_law 12 (o_istore 2 9 13) := s_istore_n (by decide +kernel : decode cL_law 12 = .ok (.istore_n 2, 1)) rfl rfl
theorem oL_law_13 : OpS mL_law 13 (o_iload 2 14) := s_iload_n (by decide +kernel : decode cL_law 13 = .ok (.iload_n 2, 1)) rfl
theorem oL_law_14 : OpS mL_law 14 (o_const (.int 18) 16) := s_bipush (by decide +kernel : decode cL_law 14 = .ok (.bipush 18, 2)) (by decide)
theorem oL_law_16 : OpS mL_law 16 (o_icmp (fun x y => y ≤ x) 551 19) := s_icmp_ge (by decide +kernel : decode cL_law 16 = .ok (.if_icmp .ge 535, 3)) (by decide)
theorem oL_law_19 : OpS mL_law 19 (o_aload 0 20) := s_aload_n (by decide +kernel : decode cL_law 19 = .ok (.aload_n 0, 1)) rfl
theorem oL_law_20 : OpS mL_law 20 (o_const (.int 7) 22) := s_bipush (by decide +kernel : decode cL_law 20 = .ok (.bipush 7, 2)) (by decide)
theorem oL_law_22 : OpS mL_law 22 (o_iload 2 23) := s_iload_n (by decide +kernel : decode cL_law 22 = .ok (.iload_n 2, 1)) rfl
theorem oL_law_23 : OpS mL_law 23 (o_const (.int 5) 24) := s_iconst (by decide +kernel : decode cL_law 23 = .ok (.iconst 5, 1)) (by decide)
theorem oL_law_24 : OpS mL_law 24 (o_irem 25) := s_irem (by decide +kernel : decode cL_law 24 = .ok (.irem, 1))
theorem oL_law_25 : OpS mL_law 25 (o_ibin (fun x y => x + y) 26) := s_iadd (by decide +kernel : decode cL_law 25 = .ok (.iadd, 1))
theorem oL_law_26 : OpS mL_law 26 (o_callS mL_cell 2 29) := s_callS ceL_cell (Or.inl wd_413) wd_414 (by decide +kernel : decode cL_law 26 = .ok (.invokestatic 47, 3))
theorem oL_law_29 : OpS mL_law 29 (o_iload 2 30) := s_iload_n (by decide +kernel : decode cL_law 29 = .ok (.iload_n 2, 1)) rfl
theorem oL_law_30 : OpS mL_law 30 (o_ibin (fun x y => x >>> (y &&& 31)) 31) := s_ishr (by decide +kernel : decode cL_law 30 = .ok (.ishr, 1))
theorem oL_law_31 : OpS mL_law 31 (o_istore 3 9 32) := s_istore_n (by decide +kernel : decode cL_law 31 = .ok (.istore_n 3, 1)) rfl rfl
theorem oL_law_32 : OpS mL_law 32 (o_iload 3 33) := s_iload_n (by decide +kernel : decode cL_law 32 = .ok (.iload_n 3, 1)) rfl
theorem oL_law_33 : OpS mL_law 33 (o_const (.int 5) 34) := s_iconst (by decide +kernel : decode cL_law 33 = .ok (.iconst 5, 1)) (by decide)
theorem oL_law_34 : OpS mL_law 34 (o_callS mL_below 2 37) := s_callS ceL_below (Or.inl wd_409) wd_410 (by decide +kernel : decode cL_law 34 = .ok (.invokestatic 51, 3))
theorem oL_law_37 : OpS mL_law 37 (o_const (.int 3) 38) := s_iconst (by decide +kernel : decode cL_law 37 = .ok (.iconst 3, 1)) (by decide)
theorem oL_law_38 : OpS mL_law 38 (o_icmp (fun x y => y ≤ x) 70 41) := s_icmp_ge (by decide +kernel : decode cL_law 38 = .ok (.if_icmp .ge 32, 3)) (by decide)
theorem oL_law_41 : OpS mL_law 41 (o_aload 1 42) := s_aload_n (by decide +kernel : decode cL_law 41 = .ok (.aload_n 1, 1)) rfl
theorem oL_law_42 : OpS mL_law 42 (o_const (.int 4) 43) := s_iconst (by decide +kernel : decode cL_law 42 = .ok (.iconst 4, 1)) (by decide)
theorem oL_law_43 : OpS mL_law 43 (o_callV mX11_count 11 1 46) := s_callV ceX11_count clsX11 (Or.inl wd_25) wd_26 selX11_count (by decide +kernel : decode cL_law 43 = .ok (.invokevirtual 25, 3))
theorem oL_law_46 : OpS mL_law 46 (o_const (.int 20) 48) := s_bipush (by decide +kernel : decode cL_law 46 = .ok (.bipush 20, 2)) (by decide)
theorem oL_law_48 : OpS mL_law 48 (o_icmp (fun x y => y ≤ x) 70 51) := s_icmp_ge (by decide +kernel : decode cL_law 48 = .ok (.if_icmp .ge 22, 3)) (by decide)
theorem oL_law_51 : OpS mL_law 51 (o_aload 1 52) := s_aload_n (by decide +kernel : decode cL_law 51 = .ok (.aload_n 1, 1)) rfl
theorem oL_law_52 : OpS mL_law 52 (o_const (.int 97) 54) := s_bipush (by decide +kernel : decode cL_law 52 = .ok (.bipush 97, 2)) (by decide)
theorem oL_law_54 : OpS mL_law 54 (o_iload 3 55) := s_iload_n (by decide +kernel : decode cL_law 54 = .ok (.iload_n 3, 1)) rfl
theorem oL_law_55 : OpS mL_law 55 (o_const (.int 2) 56) := s_iconst (by decide +kernel : decode cL_law 55 = .ok (.iconst 2, 1)) (by decide)
theorem oL_law_56 : OpS mL_law 56 (o_ibin (fun x y => x >>> (y &&& 31)) 57) := s_ishr (by decide +kernel : decode cL_law 56 = .ok (.ishr, 1))
theorem oL_law_57 : OpS mL_law 57 (o_const (.int 6) 59) := s_bipush (by decide +kernel : decode cL_law 57 = .ok (.bipush 6, 2)) (by decide)
theorem oL_law_59 : OpS mL_law 59 (o_callS mL_below 2 62) := s_callS ceL_below (Or.inl wd_409) wd_410 (by decide +kernel : decode cL_law 59 = .ok (.invokestatic 51, 3))
theorem oL_law_62 : OpS mL_law 62 (o_ibin (fun x y => x + y) 63) := s_iadd (by decide +kernel : decode cL_law 62 = .ok (.iadd, 1))
theorem oL_law_63 : OpS mL_law 63 (o_callV mX11_type 11 1 66) := s_callV ceX11_type clsX11 (Or.inl wd_248) wd_249 selX11_type (by decide +kernel : decode cL_law 63 = .ok (.invokevirtual 89, 3))
theorem oL_law_66 : OpS mL_law 66 (o_pop 67) := s_pop (by decide +kernel : decode cL_law 66 = .ok (.pop, 1))
theorem oL_law_67 : OpS mL_law 67 (o_goto 125) := s_goto (by decide +kernel : decode cL_law 67 = .ok (.goto 58, 3)) (by decide)
theorem oL_law_70 : OpS mL_law 70 (o_iload 3 71) := s_iload_n (by decide +kernel : decode cL_law 70 = .ok (.iload_n 3, 1)) rfl
theorem oL_law_71 : OpS mL_law 71 (o_const (.int 5) 72) := s_iconst (by decide +kernel : decode cL_law 71 = .ok (.iconst 5, 1)) (by decide)
theorem oL_law_72 : OpS mL_law 72 (o_callS mL_below 2 75) := s_callS ceL_below (Or.inl wd_409) wd_410 (by decide +kernel : decode cL_law 72 = .ok (.invokestatic 51, 3))
theorem oL_law_75 : OpS mL_law 75 (o_const (.int 3) 76) := s_iconst (by decide +kernel : decode cL_law 75 = .ok (.iconst 3, 1)) (by decide)
theorem oL_law_76 : OpS mL_law 76 (o_icmp (fun x y => x = y) 79 95) := s_icmp_ne (by decide +kernel : decode cL_law 76 = .ok (.if_icmp .ne 19, 3)) (by decide)
theorem oL_law_79 : OpS mL_law 79 (o_aload 1 80) := s_aload_n (by decide +kernel : decode cL_law 79 = .ok (.aload_n 1, 1)) rfl
theorem oL_law_80 : OpS mL_law 80 (o_const (.int 4) 81) := s_iconst (by decide +kernel : decode cL_law 80 = .ok (.iconst 4, 1)) (by decide)
theorem oL_law_81 : OpS mL_law 81 (o_callV mX11_count 11 1 84) := s_callV ceX11_count clsX11 (Or.inl wd_25) wd_26 selX11_count (by decide +kernel : decode cL_law 81 = .ok (.invokevirtual 25, 3))
theorem oL_law_84 : OpS mL_law 84 (o_if (fun x => x ≤ 0) 95 87) := s_if_le (by decide +kernel : decode cL_law 84 = .ok (.ifCond .le 11, 3)) (by decide)
theorem oL_law_87 : OpS mL_law 87 (o_aload 1 88) := s_aload_n (by decide +kernel : decode cL_law 87 = .ok (.aload_n 1, 1)) rfl
theorem oL_law_88 : OpS mL_law 88 (o_callV mX11_back 11 0 91) := s_callV ceX11_back clsX11 (Or.inl wd_292) wd_293 selX11_back (by decide +kernel : decode cL_law 88 = .ok (.invokevirtual 104, 3))
theorem oL_law_91 : OpS mL_law 91 (o_pop 92) := s_pop (by decide +kernel : decode cL_law 91 = .ok (.pop, 1))
theorem oL_law_92 : OpS mL_law 92 (o_goto 125) := s_goto (by decide +kernel : decode cL_law 92 = .ok (.goto 33, 3)) (by decide)
theorem oL_law_95 : OpS mL_law 95 (o_aload 1 96) := s_aload_n (by decide +kernel : decode cL_law 95 = .ok (.aload_n 1, 1)) rfl
theorem oL_law_96 : OpS mL_law 96 (o_const (.int 8) 98) := s_bipush (by decide +kernel : decode cL_law 96 = .ok (.bipush 8, 2)) (by decide)
theorem oL_law_98 : OpS mL_law 98 (o_callV mX11_count 11 1 101) := s_callV ceX11_count clsX11 (Or.inl wd_25) wd_26 selX11_count (by decide +kernel : decode cL_law 98 = .ok (.invokevirtual 25, 3))
theorem oL_law_101 : OpS mL_law 101 (o_if (fun x => x ≤ 0) 125 104) := s_if_le (by decide +kernel : decode cL_law 101 = .ok (.ifCond .le 24, 3)) (by decide)
theorem oL_law_104 : OpS mL_law 104 (o_aload 1 105) := s_aload_n (by decide +kernel : decode cL_law 104 = .ok (.aload_n 1, 1)) rfl
theorem oL_law_105 : OpS mL_law 105 (o_iload 3 106) := s_iload_n (by decide +kernel : decode cL_law 105 = .ok (.iload_n 3, 1)) rfl
theorem oL_law_106 : OpS mL_law 106 (o_const (.int 3) 107) := s_iconst (by decide +kernel : decode cL_law 106 = .ok (.iconst 3, 1)) (by decide)
theorem oL_law_107 : OpS mL_law 107 (o_ibin (fun x y => x >>> (y &&& 31)) 108) := s_ishr (by decide +kernel : decode cL_law 107 = .ok (.ishr, 1))
theorem oL_law_108 : OpS mL_law 108 (o_const (.int 5) 109) := s_iconst (by decide +kernel : decode cL_law 108 = .ok (.iconst 5, 1)) (by decide)
theorem oL_law_109 : OpS mL_law 109 (o_aload 1 110) := s_aload_n (by decide +kernel : decode cL_law 109 = .ok (.aload_n 1, 1)) rfl
theorem oL_law_110 : OpS mL_law 110 (o_const (.int 8) 112) := s_bipush (by decide +kernel : decode cL_law 110 = .ok (.bipush 8, 2)) (by decide)
theorem oL_law_112 : OpS mL_law 112 (o_callV mX11_count 11 1 115) := s_callV ceX11_count clsX11 (Or.inl wd_25) wd_26 selX11_count (by decide +kernel : decode cL_law 112 = .ok (.invokevirtual 25, 3))
theorem oL_law_115 : OpS mL_law 115 (o_min 118) := s_min wd_1108 wd_146 wd_3 wd_147 (by decide +kernel : decode cL_law 115 = .ok (.invokestatic 92, 3))
theorem oL_law_118 : OpS mL_law 118 (o_callS mL_below 2 121) := s_callS ceL_below (Or.inl wd_409) wd_410 (by decide +kernel : decode cL_law 118 = .ok (.invokestatic 51, 3))
theorem oL_law_121 : OpS mL_law 121 (o_callV mX11_take 11 1 124) := s_callV ceX11_take clsX11 (Or.inl wd_298) wd_299 selX11_take (by decide +kernel : decode cL_law 121 = .ok (.invokevirtual 107, 3))
theorem oL_law_124 : OpS mL_law 124 (o_pop 125) := s_pop (by decide +kernel : decode cL_law 124 = .ok (.pop, 1))
theorem oL_law_125 : OpS mL_law 125 (o_iload 3 126) := s_iload_n (by decide +kernel : decode cL_law 125 = .ok (.iload_n 3, 1)) rfl
theorem oL_law_126 : OpS mL_law 126 (o_const (.int 4) 127) := s_iconst (by decide +kernel : decode cL_law 126 = .ok (.iconst 4, 1)) (by decide)
theorem oL_law_127 : OpS mL_law 127 (o_ibin (fun x y => x >>> (y &&& 31)) 128) := s_ishr (by decide +kernel : decode cL_law 127 = .ok (.ishr, 1))
theorem oL_law_128 : OpS mL_law 128 (o_const (.int 6) 130) := s_bipush (by decide +kernel : decode cL_law 128 = .ok (.bipush 6, 2)) (by decide)
theorem oL_law_130 : OpS mL_law 130 (o_callS mL_below 2 133) := s_callS ceL_below (Or.inl wd_409) wd_410 (by decide +kernel : decode cL_law 130 = .ok (.invokestatic 51, 3))
theorem oL_law_133 : OpS mL_law 133 (o_if (fun x => x = 0) 136 149) := s_if_ne (by decide +kernel : decode cL_law 133 = .ok (.ifCond .ne 16, 3)) (by decide)
theorem oL_law_136 : OpS mL_law 136 (o_aload 1 137) := s_aload_n (by decide +kernel : decode cL_law 136 = .ok (.aload_n 1, 1)) rfl
theorem oL_law_137 : OpS mL_law 137 (o_iload 3 138) := s_iload_n (by decide +kernel : decode cL_law 137 = .ok (.iload_n 3, 1)) rfl
theorem oL_law_138 : OpS mL_law 138 (o_const (.int 5) 139) := s_iconst (by decide +kernel : decode cL_law 138 = .ok (.iconst 5, 1)) (by decide)
theorem oL_law_139 : OpS mL_law 139 (o_ibin (fun x y => x >>> (y &&& 31)) 140) := s_ishr (by decide +kernel : decode cL_law 139 = .ok (.ishr, 1))
theorem oL_law_140 : OpS mL_law 140 (o_const (.int 10) 142) := s_bipush (by decide +kernel : decode cL_law 140 = .ok (.bipush 10, 2)) (by decide)
theorem oL_law_142 : OpS mL_law 142 (o_callS mL_below 2 145) := s_callS ceL_below (Or.inl wd_409) wd_410 (by decide +kernel : decode cL_law 142 = .ok (.invokestatic 51, 3))
theorem oL_law_145 : OpS mL_law 145 (o_callV mX11_setLimit 11 1 148) := s_callV ceX11_setLimit clsX11 (Or.inl wd_321) wd_322 selX11_setLimit (by decide +kernel : decode cL_law 145 = .ok (.invokevirtual 110, 3))
theorem oL_law_148 : OpS mL_law 148 (o_pop 149) := s_pop (by decide +kernel : decode cL_law 148 = .ok (.pop, 1))
theorem oL_law_149 : OpS mL_law 149 (o_aload 1 150) := s_aload_n (by decide +kernel : decode cL_law 149 = .ok (.aload_n 1, 1)) rfl
theorem oL_law_150 : OpS mL_law 150 (o_callV mX11_digest 11 0 153) := s_callV ceX11_digest clsX11 (Or.inl wd_398) wd_399 selX11_digest (by decide +kernel : decode cL_law 150 = .ok (.invokevirtual 113, 3))
theorem oL_law_153 : OpS mL_law 153 (o_lstore 4 9 155) := s_lstore (by decide +kernel : decode cL_law 153 = .ok (.lstore 4, 2)) rfl
theorem oL_law_155 : OpS mL_law 155 (o_const (.int 0) 156) := s_iconst (by decide +kernel : decode cL_law 155 = .ok (.iconst 0, 1)) (by decide)
theorem oL_law_156 : OpS mL_law 156 (o_istore 6 9 158) := s_istore (by decide +kernel : decode cL_law 156 = .ok (.istore 6, 2)) rfl
theorem oL_law_158 : OpS mL_law 158 (o_const (.int 0) 159) := s_iconst (by decide +kernel : decode cL_law 158 = .ok (.iconst 0, 1)) (by decide)
theorem oL_law_159 : OpS mL_law 159 (o_istore 7 9 161) := s_istore (by decide +kernel : decode cL_law 159 = .ok (.istore 7, 2)) rfl
theorem oL_law_161 : OpS mL_law 161 (o_const (.int 0) 162) := s_iconst (by decide +kernel : decode cL_law 161 = .ok (.iconst 0, 1)) (by decide)
theorem oL_law_162 : OpS mL_law 162 (o_istore 8 9 164) := s_istore (by decide +kernel : decode cL_law 162 = .ok (.istore 8, 2)) rfl
theorem oL_law_164 : OpS mL_law 164 (o_iload 8 166) := s_iload (by decide +kernel : decode cL_law 164 = .ok (.iload 8, 2))
theorem oL_law_166 : OpS mL_law 166 (o_aload 1 167) := s_aload_n (by decide +kernel : decode cL_law 166 = .ok (.aload_n 1, 1)) rfl
theorem oL_law_167 : OpS mL_law 167 (o_const (.int 0) 168) := s_iconst (by decide +kernel : decode cL_law 167 = .ok (.iconst 0, 1)) (by decide)
theorem oL_law_168 : OpS mL_law 168 (o_callV mX11_count 11 1 171) := s_callV ceX11_count clsX11 (Or.inl wd_25) wd_26 selX11_count (by decide +kernel : decode cL_law 168 = .ok (.invokevirtual 25, 3))
theorem oL_law_171 : OpS mL_law 171 (o_icmp (fun x y => y ≤ x) 438 174) := s_icmp_ge (by decide +kernel : decode cL_law 171 = .ok (.if_icmp .ge 267, 3)) (by decide)
theorem oL_law_174 : OpS mL_law 174 (o_aload 1 175) := s_aload_n (by decide +kernel : decode cL_law 174 = .ok (.aload_n 1, 1)) rfl
theorem oL_law_175 : OpS mL_law 175 (o_iload 8 177) := s_iload (by decide +kernel : decode cL_law 175 = .ok (.iload 8, 2))
theorem oL_law_177 : OpS mL_law 177 (o_const (.int 5) 178) := s_iconst (by decide +kernel : decode cL_law 177 = .ok (.iconst 5, 1)) (by decide)
theorem oL_law_178 : OpS mL_law 178 (o_callV mX11_word 11 2 181) := s_callV ceX11_word clsX11 (Or.inl wd_330) wd_331 selX11_word (by decide +kernel : decode cL_law 178 = .ok (.invokevirtual 117, 3))
theorem oL_law_181 : OpS mL_law 181 (o_istore 9 9 183) := s_istore (by decide +kernel : decode cL_law 181 = .ok (.istore 9, 2)) rfl
theorem oL_law_183 : OpS mL_law 183 (o_aload 1 184) := s_aload_n (by decide +kernel : decode cL_law 183 = .ok (.aload_n 1, 1)) rfl
theorem oL_law_184 : OpS mL_law 184 (o_const (.int 4) 185) := s_iconst (by decide +kernel : decode cL_law 184 = .ok (.iconst 4, 1)) (by decide)
theorem oL_law_185 : OpS mL_law 185 (o_callV mX11_count 11 1 188) := s_callV ceX11_count clsX11 (Or.inl wd_25) wd_26 selX11_count (by decide +kernel : decode cL_law 185 = .ok (.invokevirtual 25, 3))
theorem oL_law_188 : OpS mL_law 188 (o_aload 1 189) := s_aload_n (by decide +kernel : decode cL_law 188 = .ok (.aload_n 1, 1)) rfl
theorem oL_law_189 : OpS mL_law 189 (o_iload 8 191) := s_iload (by decide +kernel : decode cL_law 189 = .ok (.iload 8, 2))
theorem oL_law_191 : OpS mL_law 191 (o_const (.int 2) 192) := s_iconst (by decide +kernel : decode cL_law 191 = .ok (.iconst 2, 1)) (by decide)
theorem oL_law_192 : OpS mL_law 192 (o_callV mX11_word 11 2 195) := s_callV ceX11_word clsX11 (Or.inl wd_330) wd_331 selX11_word (by decide +kernel : decode cL_law 192 = .ok (.invokevirtual 117, 3))
theorem oL_law_195 : OpS mL_law 195 (o_icmp (fun x y => y < x) 202 198) := s_icmp_gt (by decide +kernel : decode cL_law 195 = .ok (.if_icmp .gt 7, 3)) (by decide)
theorem oL_law_198 : OpS mL_law 198 (o_const (.int 1) 199) := s_iconst (by decide +kernel : decode cL_law 198 = .ok (.iconst 1, 1)) (by decide)
theorem oL_law_199 : OpS mL_law 199 (o_goto 203) := s_goto (by decide +kernel : decode cL_law 199 = .ok (.goto 4, 3)) (by decide)
theorem oL_law_202 : OpS mL_law 202 (o_const (.int 0) 203) := s_iconst (by decide +kernel : decode cL_law 202 = .ok (.iconst 0, 1)) (by decide)
theorem oL_law_203 : OpS mL_law 203 (o_istore 10 9 205) := s_istore (by decide +kernel : decode cL_law 203 = .ok (.istore 10, 2)) rfl
theorem oL_law_205 : OpS mL_law 205 (o_iload 6 207) := s_iload (by decide +kernel : decode cL_law 205 = .ok (.iload 6, 2))
theorem oL_law_207 : OpS mL_law 207 (o_iload 9 209) := s_iload (by decide +kernel : decode cL_law 207 = .ok (.iload 9, 2))
theorem oL_law_209 : OpS mL_law 209 (o_if (fun x => x < 0) 216 212) := s_if_lt (by decide +kernel : decode cL_law 209 = .ok (.ifCond .lt 7, 3)) (by decide)
theorem oL_law_212 : OpS mL_law 212 (o_const (.int 1) 213) := s_iconst (by decide +kernel : decode cL_law 212 = .ok (.iconst 1, 1)) (by decide)
theorem oL_law_213 : OpS mL_law 213 (o_goto 217) := s_goto (by decide +kernel : decode cL_law 213 = .ok (.goto 4, 3)) (by decide)
theorem oL_law_216 : OpS mL_law 216 (o_const (.int 0) 217) := s_iconst (by decide +kernel : decode cL_law 216 = .ok (.iconst 0, 1)) (by decide)
theorem oL_law_217 : OpS mL_law 217 (o_ibin (fun x y => x + y) 218) := s_iadd (by decide +kernel : decode cL_law 217 = .ok (.iadd, 1))
theorem oL_law_218 : OpS mL_law 218 (o_istore 6 9 220) := s_istore (by decide +kernel : decode cL_law 218 = .ok (.istore 6, 2)) rfl
theorem oL_law_220 : OpS mL_law 220 (o_iload 9 222) := s_iload (by decide +kernel : decode cL_law 220 = .ok (.iload 9, 2))
theorem oL_law_222 : OpS mL_law 222 (o_if (fun x => x < 0) 229 225) := s_if_lt (by decide +kernel : decode cL_law 222 = .ok (.ifCond .lt 7, 3)) (by decide)
theorem oL_law_225 : OpS mL_law 225 (o_const (.int 1) 226) := s_iconst (by decide +kernel : decode cL_law 225 = .ok (.iconst 1, 1)) (by decide)
theorem oL_law_226 : OpS mL_law 226 (o_goto 230) := s_goto (by decide +kernel : decode cL_law 226 = .ok (.goto 4, 3)) (by decide)
theorem oL_law_229 : OpS mL_law 229 (o_const (.int 0) 230) := s_iconst (by decide +kernel : decode cL_law 229 = .ok (.iconst 0, 1)) (by decide)
theorem oL_law_230 : OpS mL_law 230 (o_aload 1 231) := s_aload_n (by decide +kernel : decode cL_law 230 = .ok (.aload_n 1, 1)) rfl
theorem oL_law_231 : OpS mL_law 231 (o_iload 8 233) := s_iload (by decide +kernel : decode cL_law 231 = .ok (.iload 8, 2))
theorem oL_law_233 : OpS mL_law 233 (o_const (.int 3) 234) := s_iconst (by decide +kernel : decode cL_law 233 = .ok (.iconst 3, 1)) (by decide)
theorem oL_law_234 : OpS mL_law 234 (o_callV mX11_word 11 2 237) := s_callV ceX11_word clsX11 (Or.inl wd_330) wd_331 selX11_word (by decide +kernel : decode cL_law 234 = .ok (.invokevirtual 117, 3))
theorem oL_law_237 : OpS mL_law 237 (o_aload 1 238) := s_aload_n (by decide +kernel : decode cL_law 237 = .ok (.aload_n 1, 1)) rfl
theorem oL_law_238 : OpS mL_law 238 (o_const (.int 6) 240) := s_bipush (by decide +kernel : decode cL_law 238 = .ok (.bipush 6, 2)) (by decide)
theorem oL_law_240 : OpS mL_law 240 (o_callV mX11_count 11 1 243) := s_callV ceX11_count clsX11 (Or.inl wd_25) wd_26 selX11_count (by decide +kernel : decode cL_law 240 = .ok (.invokevirtual 25, 3))
theorem oL_law_243 : OpS mL_law 243 (o_icmp (fun x y => y < x) 250 246) := s_icmp_gt (by decide +kernel : decode cL_law 243 = .ok (.if_icmp .gt 7, 3)) (by decide)
theorem oL_law_246 : OpS mL_law 246 (o_const (.int 1) 247) := s_iconst (by decide +kernel : decode cL_law 246 = .ok (.iconst 1, 1)) (by decide)
theorem oL_law_247 : OpS mL_law 247 (o_goto 251) := s_goto (by decide +kernel : decode cL_law 247 = .ok (.goto 4, 3)) (by decide)
theorem oL_law_250 : OpS mL_law 250 (o_const (.int 0) 251) := s_iconst (by decide +kernel : decode cL_law 250 = .ok (.iconst 0, 1)) (by decide)
theorem oL_law_251 : OpS mL_law 251 (o_icmp (fun x y => x = y) 254 326) := s_icmp_ne (by decide +kernel : decode cL_law 251 = .ok (.if_icmp .ne 75, 3)) (by decide)
theorem oL_law_254 : OpS mL_law 254 (o_iload 9 256) := s_iload (by decide +kernel : decode cL_law 254 = .ok (.iload 9, 2))
theorem oL_law_256 : OpS mL_law 256 (o_if (fun x => x < 0) 276 259) := s_if_lt (by decide +kernel : decode cL_law 256 = .ok (.ifCond .lt 20, 3)) (by decide)
theorem oL_law_259 : OpS mL_law 259 (o_iload 9 261) := s_iload (by decide +kernel : decode cL_law 259 = .ok (.iload 9, 2))
theorem oL_law_261 : OpS mL_law 261 (o_const (.int 5) 262) := s_iconst (by decide +kernel : decode cL_law 261 = .ok (.iconst 5, 1)) (by decide)
theorem oL_law_262 : OpS mL_law 262 (o_icmp (fun x y => y ≤ x) 276 265) := s_icmp_ge (by decide +kernel : decode cL_law 262 = .ok (.if_icmp .ge 14, 3)) (by decide)
theorem oL_law_265 : OpS mL_law 265 (o_aload 1 266) := s_aload_n (by decide +kernel : decode cL_law 265 = .ok (.aload_n 1, 1)) rfl
theorem oL_law_266 : OpS mL_law 266 (o_iload 9 268) := s_iload (by decide +kernel : decode cL_law 266 = .ok (.iload 9, 2))
theorem oL_law_268 : OpS mL_law 268 (o_callV mX11_offer 11 1 271) := s_callV ceX11_offer clsX11 (Or.inl wd_326) wd_327 selX11_offer (by decide +kernel : decode cL_law 268 = .ok (.invokevirtual 120, 3))
theorem oL_law_271 : OpS mL_law 271 (o_iload 8 273) := s_iload (by decide +kernel : decode cL_law 271 = .ok (.iload 8, 2))
theorem oL_law_273 : OpS mL_law 273 (o_icmp (fun x y => x = y) 276 326) := s_icmp_ne (by decide +kernel : decode cL_law 273 = .ok (.if_icmp .ne 53, 3)) (by decide)
theorem oL_law_276 : OpS mL_law 276 (o_aload 1 277) := s_aload_n (by decide +kernel : decode cL_law 276 = .ok (.aload_n 1, 1)) rfl
theorem oL_law_277 : OpS mL_law 277 (o_iload 8 279) := s_iload (by decide +kernel : decode cL_law 277 = .ok (.iload 8, 2))
theorem oL_law_279 : OpS mL_law 279 (o_const (.int 0) 280) := s_iconst (by decide +kernel : decode cL_law 279 = .ok (.iconst 0, 1)) (by decide)
theorem oL_law_280 : OpS mL_law 280 (o_callV mX11_word 11 2 283) := s_callV ceX11_word clsX11 (Or.inl wd_330) wd_331 selX11_word (by decide +kernel : decode cL_law 280 = .ok (.invokevirtual 117, 3))
theorem oL_law_283 : OpS mL_law 283 (o_if (fun x => x < 0) 326 286) := s_if_lt (by decide +kernel : decode cL_law 283 = .ok (.ifCond .lt 43, 3)) (by decide)
theorem oL_law_286 : OpS mL_law 286 (o_aload 1 287) := s_aload_n (by decide +kernel : decode cL_law 286 = .ok (.aload_n 1, 1)) rfl
theorem oL_law_287 : OpS mL_law 287 (o_iload 8 289) := s_iload (by decide +kernel : decode cL_law 287 = .ok (.iload 8, 2))
theorem oL_law_289 : OpS mL_law 289 (o_const (.int 0) 290) := s_iconst (by decide +kernel : decode cL_law 289 = .ok (.iconst 0, 1)) (by decide)
theorem oL_law_290 : OpS mL_law 290 (o_callV mX11_word 11 2 293) := s_callV ceX11_word clsX11 (Or.inl wd_330) wd_331 selX11_word (by decide +kernel : decode cL_law 290 = .ok (.invokevirtual 117, 3))
theorem oL_law_293 : OpS mL_law 293 (o_const (.int 9999) 296) := s_sipush (by decide +kernel : decode cL_law 293 = .ok (.sipush 9999, 3)) (by decide)
theorem oL_law_296 : OpS mL_law 296 (o_icmp (fun x y => y < x) 326 299) := s_icmp_gt (by decide +kernel : decode cL_law 296 = .ok (.if_icmp .gt 30, 3)) (by decide)
theorem oL_law_299 : OpS mL_law 299 (o_aload 1 300) := s_aload_n (by decide +kernel : decode cL_law 299 = .ok (.aload_n 1, 1)) rfl
theorem oL_law_300 : OpS mL_law 300 (o_iload 8 302) := s_iload (by decide +kernel : decode cL_law 300 = .ok (.iload 8, 2))
theorem oL_law_302 : OpS mL_law 302 (o_const (.int 3) 303) := s_iconst (by decide +kernel : decode cL_law 302 = .ok (.iconst 3, 1)) (by decide)
theorem oL_law_303 : OpS mL_law 303 (o_callV mX11_word 11 2 306) := s_callV ceX11_word clsX11 (Or.inl wd_330) wd_331 selX11_word (by decide +kernel : decode cL_law 303 = .ok (.invokevirtual 117, 3))
theorem oL_law_306 : OpS mL_law 306 (o_const (.int 3) 307) := s_iconst (by decide +kernel : decode cL_law 306 = .ok (.iconst 3, 1)) (by decide)
theorem oL_law_307 : OpS mL_law 307 (o_aload 1 308) := s_aload_n (by decide +kernel : decode cL_law 307 = .ok (.aload_n 1, 1)) rfl
theorem oL_law_308 : OpS mL_law 308 (o_const (.int 4) 309) := s_iconst (by decide +kernel : decode cL_law 308 = .ok (.iconst 4, 1)) (by decide)
theorem oL_law_309 : OpS mL_law 309 (o_callV mX11_count 11 1 312) := s_callV ceX11_count clsX11 (Or.inl wd_25) wd_26 selX11_count (by decide +kernel : decode cL_law 309 = .ok (.invokevirtual 25, 3))
theorem oL_law_312 : OpS mL_law 312 (o_ibin (fun x y => x * y) 313) := s_imul (by decide +kernel : decode cL_law 312 = .ok (.imul, 1))
theorem oL_law_313 : OpS mL_law 313 (o_icmp (fun x y => y < x) 326 316) := s_icmp_gt (by decide +kernel : decode cL_law 313 = .ok (.if_icmp .gt 13, 3)) (by decide)
theorem oL_law_316 : OpS mL_law 316 (o_aload 1 317) := s_aload_n (by decide +kernel : decode cL_law 316 = .ok (.aload_n 1, 1)) rfl
theorem oL_law_317 : OpS mL_law 317 (o_iload 8 319) := s_iload (by decide +kernel : decode cL_law 317 = .ok (.iload 8, 2))
theorem oL_law_319 : OpS mL_law 319 (o_const (.int 3) 320) := s_iconst (by decide +kernel : decode cL_law 319 = .ok (.iconst 3, 1)) (by decide)
theorem oL_law_320 : OpS mL_law 320 (o_callV mX11_word 11 2 323) := s_callV ceX11_word clsX11 (Or.inl wd_330) wd_331 selX11_word (by decide +kernel : decode cL_law 320 = .ok (.invokevirtual 117, 3))
theorem oL_law_323 : OpS mL_law 323 (o_if (fun x => 0 ≤ x) 328 326) := s_if_ge (by decide +kernel : decode cL_law 323 = .ok (.ifCond .ge 5, 3)) (by decide)
theorem oL_law_326 : OpS mL_law 326 (o_const (.int 0) 327) := s_iconst (by decide +kernel : decode cL_law 326 = .ok (.iconst 0, 1)) (by decide)
theorem oL_law_327 : OpS mL_law 327 (o_zret) := s_zret rfl (by decide +kernel : decode cL_law 327 = .ok (.ireturn, 1))
theorem oL_law_328 : OpS mL_law 328 (o_aload 1 329) := s_aload_n (by decide +kernel : decode cL_law 328 = .ok (.aload_n 1, 1)) rfl
theorem oL_law_329 : OpS mL_law 329 (o_iload 8 331) := s_iload (by decide +kernel : decode cL_law 329 = .ok (.iload 8, 2))
theorem oL_law_331 : OpS mL_law 331 (o_callV mX11_needs 11 1 334) := s_callV ceX11_needs clsX11 (Or.inl wd_378) wd_379 selX11_needs (by decide +kernel : decode cL_law 331 = .ok (.invokevirtual 123, 3))
theorem oL_law_334 : OpS mL_law 334 (o_if (fun x => 0 ≤ x) 341 337) := s_if_ge (by decide +kernel : decode cL_law 334 = .ok (.ifCond .ge 7, 3)) (by decide)
theorem oL_law_337 : OpS mL_law 337 (o_const (.int 1) 338) := s_iconst (by decide +kernel : decode cL_law 337 = .ok (.iconst 1, 1)) (by decide)
theorem oL_law_338 : OpS mL_law 338 (o_goto 342) := s_goto (by decide +kernel : decode cL_law 338 = .ok (.goto 4, 3)) (by decide)
theorem oL_law_341 : OpS mL_law 341 (o_const (.int 0) 342) := s_iconst (by decide +kernel : decode cL_law 341 = .ok (.iconst 0, 1)) (by decide)
theorem oL_law_342 : OpS mL_law 342 (o_iload 9 344) := s_iload (by decide +kernel : decode cL_law 342 = .ok (.iload 9, 2))
theorem oL_law_344 : OpS mL_law 344 (o_if (fun x => 0 ≤ x) 351 347) := s_if_ge (by decide +kernel : decode cL_law 344 = .ok (.ifCond .ge 7, 3)) (by decide)
theorem oL_law_347 : OpS mL_law 347 (o_const (.int 1) 348) := s_iconst (by decide +kernel : decode cL_law 347 = .ok (.iconst 1, 1)) (by decide)
theorem oL_law_348 : OpS mL_law 348 (o_goto 352) := s_goto (by decide +kernel : decode cL_law 348 = .ok (.goto 4, 3)) (by decide)
theorem oL_law_351 : OpS mL_law 351 (o_const (.int 0) 352) := s_iconst (by decide +kernel : decode cL_law 351 = .ok (.iconst 0, 1)) (by decide)
theorem oL_law_352 : OpS mL_law 352 (o_icmp (fun x y => x = y) 355 410) := s_icmp_ne (by decide +kernel : decode cL_law 352 = .ok (.if_icmp .ne 58, 3)) (by decide)
theorem oL_law_355 : OpS mL_law 355 (o_aload 1 356) := s_aload_n (by decide +kernel : decode cL_law 355 = .ok (.aload_n 1, 1)) rfl
theorem oL_law_356 : OpS mL_law 356 (o_iload 8 358) := s_iload (by decide +kernel : decode cL_law 356 = .ok (.iload 8, 2))
theorem oL_law_358 : OpS mL_law 358 (o_callV mX11_strokes 11 1 361) := s_callV ceX11_strokes clsX11 (Or.inl wd_364) wd_365 selX11_strokes (by decide +kernel : decode cL_law 358 = .ok (.invokevirtual 126, 3))
theorem oL_law_361 : OpS mL_law 361 (o_aload 1 362) := s_aload_n (by decide +kernel : decode cL_law 361 = .ok (.aload_n 1, 1)) rfl
theorem oL_law_362 : OpS mL_law 362 (o_iload 8 364) := s_iload (by decide +kernel : decode cL_law 362 = .ok (.iload 8, 2))
theorem oL_law_364 : OpS mL_law 364 (o_const (.int 2) 365) := s_iconst (by decide +kernel : decode cL_law 364 = .ok (.iconst 2, 1)) (by decide)
theorem oL_law_365 : OpS mL_law 365 (o_callV mX11_word 11 2 368) := s_callV ceX11_word clsX11 (Or.inl wd_330) wd_331 selX11_word (by decide +kernel : decode cL_law 365 = .ok (.invokevirtual 117, 3))
theorem oL_law_368 : OpS mL_law 368 (o_const (.int 1) 369) := s_iconst (by decide +kernel : decode cL_law 368 = .ok (.iconst 1, 1)) (by decide)
theorem oL_law_369 : OpS mL_law 369 (o_ibin (fun x y => x + y) 370) := s_iadd (by decide +kernel : decode cL_law 369 = .ok (.iadd, 1))
theorem oL_law_370 : OpS mL_law 370 (o_icmp (fun x y => y < x) 410 373) := s_icmp_gt (by decide +kernel : decode cL_law 370 = .ok (.if_icmp .gt 40, 3)) (by decide)
theorem oL_law_373 : OpS mL_law 373 (o_aload 1 374) := s_aload_n (by decide +kernel : decode cL_law 373 = .ok (.aload_n 1, 1)) rfl
theorem oL_law_374 : OpS mL_law 374 (o_iload 8 376) := s_iload (by decide +kernel : decode cL_law 374 = .ok (.iload 8, 2))
theorem oL_law_376 : OpS mL_law 376 (o_callV mX11_closest 11 1 379) := s_callV ceX11_closest clsX11 (Or.inl wd_393) wd_394 selX11_closest (by decide +kernel : decode cL_law 376 = .ok (.invokevirtual 129, 3))
theorem oL_law_379 : OpS mL_law 379 (o_if (fun x => x < 0) 410 382) := s_if_lt (by decide +kernel : decode cL_law 379 = .ok (.ifCond .lt 31, 3)) (by decide)
theorem oL_law_382 : OpS mL_law 382 (o_iload 10 384) := s_iload (by decide +kernel : decode cL_law 382 = .ok (.iload 10, 2))
theorem oL_law_384 : OpS mL_law 384 (o_if (fun x => x = 0) 412 387) := s_if_eq (by decide +kernel : decode cL_law 384 = .ok (.ifCond .eq 28, 3)) (by decide)
theorem oL_law_387 : OpS mL_law 387 (o_aload 1 388) := s_aload_n (by decide +kernel : decode cL_law 387 = .ok (.aload_n 1, 1)) rfl
theorem oL_law_388 : OpS mL_law 388 (o_iload 8 390) := s_iload (by decide +kernel : decode cL_law 388 = .ok (.iload 8, 2))
theorem oL_law_390 : OpS mL_law 390 (o_const (.int 3) 391) := s_iconst (by decide +kernel : decode cL_law 390 = .ok (.iconst 3, 1)) (by decide)
theorem oL_law_391 : OpS mL_law 391 (o_callV mX11_word 11 2 394) := s_callV ceX11_word clsX11 (Or.inl wd_330) wd_331 selX11_word (by decide +kernel : decode cL_law 391 = .ok (.invokevirtual 117, 3))
theorem oL_law_394 : OpS mL_law 394 (o_if (fun x => x = 0) 397 412) := s_if_ne (by decide +kernel : decode cL_law 394 = .ok (.ifCond .ne 18, 3)) (by decide)
theorem oL_law_397 : OpS mL_law 397 (o_aload 1 398) := s_aload_n (by decide +kernel : decode cL_law 397 = .ok (.aload_n 1, 1)) rfl
theorem oL_law_398 : OpS mL_law 398 (o_const (.int 4) 399) := s_iconst (by decide +kernel : decode cL_law 398 = .ok (.iconst 4, 1)) (by decide)
theorem oL_law_399 : OpS mL_law 399 (o_callV mX11_count 11 1 402) := s_callV ceX11_count clsX11 (Or.inl wd_25) wd_26 selX11_count (by decide +kernel : decode cL_law 399 = .ok (.invokevirtual 25, 3))
theorem oL_law_402 : OpS mL_law 402 (o_if (fun x => x = 0) 405 412) := s_if_ne (by decide +kernel : decode cL_law 402 = .ok (.ifCond .ne 10, 3)) (by decide)
theorem oL_law_405 : OpS mL_law 405 (o_iload 9 407) := s_iload (by decide +kernel : decode cL_law 405 = .ok (.iload 9, 2))
theorem oL_law_407 : OpS mL_law 407 (o_if (fun x => 0 ≤ x) 412 410) := s_if_ge (by decide +kernel : decode cL_law 407 = .ok (.ifCond .ge 5, 3)) (by decide)
theorem oL_law_410 : OpS mL_law 410 (o_const (.int 0) 411) := s_iconst (by decide +kernel : decode cL_law 410 = .ok (.iconst 0, 1)) (by decide)
theorem oL_law_411 : OpS mL_law 411 (o_zret) := s_zret rfl (by decide +kernel : decode cL_law 411 = .ok (.ireturn, 1))
theorem oL_law_412 : OpS mL_law 412 (o_iload 7 414) := s_iload (by decide +kernel : decode cL_law 412 = .ok (.iload 7, 2))
theorem oL_law_414 : OpS mL_law 414 (o_aload 1 415) := s_aload_n (by decide +kernel : decode cL_law 414 = .ok (.aload_n 1, 1)) rfl
theorem oL_law_415 : OpS mL_law 415 (o_iload 8 417) := s_iload (by decide +kernel : decode cL_law 415 = .ok (.iload 8, 2))
theorem oL_law_417 : OpS mL_law 417 (o_const (.int 3) 418) := s_iconst (by decide +kernel : decode cL_law 417 = .ok (.iconst 3, 1)) (by decide)
theorem oL_law_418 : OpS mL_law 418 (o_callV mX11_word 11 2 421) := s_callV ceX11_word clsX11 (Or.inl wd_330) wd_331 selX11_word (by decide +kernel : decode cL_law 418 = .ok (.invokevirtual 117, 3))
theorem oL_law_421 : OpS mL_law 421 (o_if (fun x => x = 0) 424 428) := s_if_ne (by decide +kernel : decode cL_law 421 = .ok (.ifCond .ne 7, 3)) (by decide)
theorem oL_law_424 : OpS mL_law 424 (o_const (.int 1) 425) := s_iconst (by decide +kernel : decode cL_law 424 = .ok (.iconst 1, 1)) (by decide)
theorem oL_law_425 : OpS mL_law 425 (o_goto 429) := s_goto (by decide +kernel : decode cL_law 425 = .ok (.goto 4, 3)) (by decide)
theorem oL_law_428 : OpS mL_law 428 (o_const (.int 0) 429) := s_iconst (by decide +kernel : decode cL_law 428 = .ok (.iconst 0, 1)) (by decide)
theorem oL_law_429 : OpS mL_law 429 (o_ibin (fun x y => x + y) 430) := s_iadd (by decide +kernel : decode cL_law 429 = .ok (.iadd, 1))
theorem oL_law_430 : OpS mL_law 430 (o_istore 7 9 432) := s_istore (by decide +kernel : decode cL_law 430 = .ok (.istore 7, 2)) rfl
theorem oL_law_432 : OpS mL_law 432 (o_iinc 8 9 1 435) := s_iinc (by decide +kernel : decode cL_law 432 = .ok (.iinc 8 1, 3)) (by decide) rfl
theorem oL_law_435 : OpS mL_law 435 (o_goto 164) := s_goto (by decide +kernel : decode cL_law 435 = .ok (.goto (-271), 3)) (by decide)
theorem oL_law_438 : OpS mL_law 438 (o_iload 6 440) := s_iload (by decide +kernel : decode cL_law 438 = .ok (.iload 6, 2))
theorem oL_law_440 : OpS mL_law 440 (o_aload 1 441) := s_aload_n (by decide +kernel : decode cL_law 440 = .ok (.aload_n 1, 1)) rfl
theorem oL_law_441 : OpS mL_law 441 (o_const (.int 8) 443) := s_bipush (by decide +kernel : decode cL_law 441 = .ok (.bipush 8, 2)) (by decide)
theorem oL_law_443 : OpS mL_law 443 (o_callV mX11_count 11 1 446) := s_callV ceX11_count clsX11 (Or.inl wd_25) wd_26 selX11_count (by decide +kernel : decode cL_law 443 = .ok (.invokevirtual 25, 3))
theorem oL_law_446 : OpS mL_law 446 (o_icmp (fun x y => x = y) 449 479) := s_icmp_ne (by decide +kernel : decode cL_law 446 = .ok (.if_icmp .ne 33, 3)) (by decide)
theorem oL_law_449 : OpS mL_law 449 (o_iload 7 451) := s_iload (by decide +kernel : decode cL_law 449 = .ok (.iload 7, 2))
theorem oL_law_451 : OpS mL_law 451 (o_aload 1 452) := s_aload_n (by decide +kernel : decode cL_law 451 = .ok (.aload_n 1, 1)) rfl
theorem oL_law_452 : OpS mL_law 452 (o_const (.int 9) 454) := s_bipush (by decide +kernel : decode cL_law 452 = .ok (.bipush 9, 2)) (by decide)
theorem oL_law_454 : OpS mL_law 454 (o_callV mX11_count 11 1 457) := s_callV ceX11_count clsX11 (Or.inl wd_25) wd_26 selX11_count (by decide +kernel : decode cL_law 454 = .ok (.invokevirtual 25, 3))
theorem oL_law_457 : OpS mL_law 457 (o_icmp (fun x y => x = y) 460 479) := s_icmp_ne (by decide +kernel : decode cL_law 457 = .ok (.if_icmp .ne 22, 3)) (by decide)
theorem oL_law_460 : OpS mL_law 460 (o_aload 1 461) := s_aload_n (by decide +kernel : decode cL_law 460 = .ok (.aload_n 1, 1)) rfl
theorem oL_law_461 : OpS mL_law 461 (o_callV mX11_best 11 0 464) := s_callV ceX11_best clsX11 (Or.inl wd_356) wd_357 selX11_best (by decide +kernel : decode cL_law 461 = .ok (.invokevirtual 132, 3))
theorem oL_law_464 : OpS mL_law 464 (o_const (.int 122) 466) := s_bipush (by decide +kernel : decode cL_law 464 = .ok (.bipush 122, 2)) (by decide)
theorem oL_law_466 : OpS mL_law 466 (o_icmp (fun x y => y < x) 479 469) := s_icmp_gt (by decide +kernel : decode cL_law 466 = .ok (.if_icmp .gt 13, 3)) (by decide)
theorem oL_law_469 : OpS mL_law 469 (o_aload 1 470) := s_aload_n (by decide +kernel : decode cL_law 469 = .ok (.aload_n 1, 1)) rfl
theorem oL_law_470 : OpS mL_law 470 (o_callV mX11_digest 11 0 473) := s_callV ceX11_digest clsX11 (Or.inl wd_398) wd_399 selX11_digest (by decide +kernel : decode cL_law 470 = .ok (.invokevirtual 113, 3))
theorem oL_law_473 : OpS mL_law 473 (o_lload 4 475) := s_lload (by decide +kernel : decode cL_law 473 = .ok (.lload 4, 2))
theorem oL_law_475 : OpS mL_law 475 (o_lcmp 476) := s_lcmp (by decide +kernel : decode cL_law 475 = .ok (.lcmp, 1))
theorem oL_law_476 : OpS mL_law 476 (o_if (fun x => x = 0) 481 479) := s_if_eq (by decide +kernel : decode cL_law 476 = .ok (.ifCond .eq 5, 3)) (by decide)
theorem oL_law_479 : OpS mL_law 479 (o_const (.int 0) 480) := s_iconst (by decide +kernel : decode cL_law 479 = .ok (.iconst 0, 1)) (by decide)
theorem oL_law_480 : OpS mL_law 480 (o_zret) := s_zret rfl (by decide +kernel : decode cL_law 480 = .ok (.ireturn, 1))
theorem oL_law_481 : OpS mL_law 481 (o_const (.int 1) 482) := s_iconst (by decide +kernel : decode cL_law 481 = .ok (.iconst 1, 1)) (by decide)
theorem oL_law_482 : OpS mL_law 482 (o_istore 8 9 484) := s_istore (by decide +kernel : decode cL_law 482 = .ok (.istore 8, 2)) rfl
theorem oL_law_484 : OpS mL_law 484 (o_iload 8 486) := s_iload (by decide +kernel : decode cL_law 484 = .ok (.iload 8, 2))
theorem oL_law_486 : OpS mL_law 486 (o_const (.int 5) 487) := s_iconst (by decide +kernel : decode cL_law 486 = .ok (.iconst 5, 1)) (by decide)
theorem oL_law_487 : OpS mL_law 487 (o_icmp (fun x y => y ≤ x) 545 490) := s_icmp_ge (by decide +kernel : decode cL_law 487 = .ok (.if_icmp .ge 58, 3)) (by decide)
theorem oL_law_490 : OpS mL_law 490 (o_aload 1 491) := s_aload_n (by decide +kernel : decode cL_law 490 = .ok (.aload_n 1, 1)) rfl
theorem oL_law_491 : OpS mL_law 491 (o_iload 8 493) := s_iload (by decide +kernel : decode cL_law 491 = .ok (.iload 8, 2))
theorem oL_law_493 : OpS mL_law 493 (o_callV mX11_offer 11 1 496) := s_callV ceX11_offer clsX11 (Or.inl wd_326) wd_327 selX11_offer (by decide +kernel : decode cL_law 493 = .ok (.invokevirtual 120, 3))
theorem oL_law_496 : OpS mL_law 496 (o_if (fun x => x < 0) 539 499) := s_if_lt (by decide +kernel : decode cL_law 496 = .ok (.ifCond .lt 43, 3)) (by decide)
theorem oL_law_499 : OpS mL_law 499 (o_aload 1 500) := s_aload_n (by decide +kernel : decode cL_law 499 = .ok (.aload_n 1, 1)) rfl
theorem oL_law_500 : OpS mL_law 500 (o_iload 8 502) := s_iload (by decide +kernel : decode cL_law 500 = .ok (.iload 8, 2))
theorem oL_law_502 : OpS mL_law 502 (o_const (.int 1) 503) := s_iconst (by decide +kernel : decode cL_law 502 = .ok (.iconst 1, 1)) (by decide)
theorem oL_law_503 : OpS mL_law 503 (o_ibin (fun x y => x - y) 504) := s_isub (by decide +kernel : decode cL_law 503 = .ok (.isub, 1))
theorem oL_law_504 : OpS mL_law 504 (o_callV mX11_offer 11 1 507) := s_callV ceX11_offer clsX11 (Or.inl wd_326) wd_327 selX11_offer (by decide +kernel : decode cL_law 504 = .ok (.invokevirtual 120, 3))
theorem oL_law_507 : OpS mL_law 507 (o_if (fun x => x < 0) 537 510) := s_if_lt (by decide +kernel : decode cL_law 507 = .ok (.ifCond .lt 30, 3)) (by decide)
theorem oL_law_510 : OpS mL_law 510 (o_aload 1 511) := s_aload_n (by decide +kernel : decode cL_law 510 = .ok (.aload_n 1, 1)) rfl
theorem oL_law_511 : OpS mL_law 511 (o_aload 1 512) := s_aload_n (by decide +kernel : decode cL_law 511 = .ok (.aload_n 1, 1)) rfl
theorem oL_law_512 : OpS mL_law 512 (o_iload 8 514) := s_iload (by decide +kernel : decode cL_law 512 = .ok (.iload 8, 2))
theorem oL_law_514 : OpS mL_law 514 (o_const (.int 1) 515) := s_iconst (by decide +kernel : decode cL_law 514 = .ok (.iconst 1, 1)) (by decide)
theorem oL_law_515 : OpS mL_law 515 (o_ibin (fun x y => x - y) 516) := s_isub (by decide +kernel : decode cL_law 515 = .ok (.isub, 1))
theorem oL_law_516 : OpS mL_law 516 (o_callV mX11_offer 11 1 519) := s_callV ceX11_offer clsX11 (Or.inl wd_326) wd_327 selX11_offer (by decide +kernel : decode cL_law 516 = .ok (.invokevirtual 120, 3))
theorem oL_law_519 : OpS mL_law 519 (o_const (.int 4) 520) := s_iconst (by decide +kernel : decode cL_law 519 = .ok (.iconst 4, 1)) (by decide)
theorem oL_law_520 : OpS mL_law 520 (o_callV mX11_word 11 2 523) := s_callV ceX11_word clsX11 (Or.inl wd_330) wd_331 selX11_word (by decide +kernel : decode cL_law 520 = .ok (.invokevirtual 117, 3))
theorem oL_law_523 : OpS mL_law 523 (o_aload 1 524) := s_aload_n (by decide +kernel : decode cL_law 523 = .ok (.aload_n 1, 1)) rfl
theorem oL_law_524 : OpS mL_law 524 (o_aload 1 525) := s_aload_n (by decide +kernel : decode cL_law 524 = .ok (.aload_n 1, 1)) rfl
theorem oL_law_525 : OpS mL_law 525 (o_iload 8 527) := s_iload (by decide +kernel : decode cL_law 525 = .ok (.iload 8, 2))
theorem oL_law_527 : OpS mL_law 527 (o_callV mX11_offer 11 1 530) := s_callV ceX11_offer clsX11 (Or.inl wd_326) wd_327 selX11_offer (by decide +kernel : decode cL_law 527 = .ok (.invokevirtual 120, 3))
theorem oL_law_530 : OpS mL_law 530 (o_const (.int 4) 531) := s_iconst (by decide +kernel : decode cL_law 530 = .ok (.iconst 4, 1)) (by decide)
theorem oL_law_531 : OpS mL_law 531 (o_callV mX11_word 11 2 534) := s_callV ceX11_word clsX11 (Or.inl wd_330) wd_331 selX11_word (by decide +kernel : decode cL_law 531 = .ok (.invokevirtual 117, 3))
theorem oL_law_534 : OpS mL_law 534 (o_icmp (fun x y => y ≤ x) 539 537) := s_icmp_ge (by decide +kernel : decode cL_law 534 = .ok (.if_icmp .ge 5, 3)) (by decide)
theorem oL_law_537 : OpS mL_law 537 (o_const (.int 0) 538) := s_iconst (by decide +kernel : decode cL_law 537 = .ok (.iconst 0, 1)) (by decide)
theorem oL_law_538 : OpS mL_law 538 (o_zret) := s_zret rfl (by decide +kernel : decode cL_law 538 = .ok (.ireturn, 1))
theorem oL_law_539 : OpS mL_law 539 (o_iinc 8 9 1 542) := s_iinc (by decide +kernel : decode cL_law 539 = .ok (.iinc 8 1, 3)) (by decide) rfl
theorem oL_law_542 : OpS mL_law 542 (o_goto 484) := s_goto (by decide +kernel : decode cL_law 542 = .ok (.goto (-58), 3)) (by decide)
theorem oL_law_545 : OpS mL_law 545 (o_iinc 2 9 1 548) := s_iinc (by decide +kernel : decode cL_law 545 = .ok (.iinc 2 1, 3)) (by decide) rfl
theorem oL_law_548 : OpS mL_law 548 (o_goto 13) := s_goto (by decide +kernel : decode cL_law 548 = .ok (.goto (-535), 3)) (by decide)
theorem oL_law_551 : OpS mL_law 551 (o_const (.int 1) 552) := s_iconst (by decide +kernel : decode cL_law 551 = .ok (.iconst 1, 1)) (by decide)
theorem oL_law_552 : OpS mL_law 552 (o_zret) := s_zret rfl (by decide +kernel : decode cL_law 552 = .ok (.ireturn, 1))
