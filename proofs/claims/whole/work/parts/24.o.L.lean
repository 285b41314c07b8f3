theorem oL_feed_0 : OpS mL_feed 0 (o_aload 6 2) := s_aload (by decide +kernel : decode cL_feed 0 = .ok (.aload 6, 2))
theorem oL_feed_2 : OpS mL_feed 2 (o_const (.int 0) 3) := s_iconst (by decide +kernel : decode cL_feed 2 = .ok (.iconst 0, 1)) (by decide)
theorem oL_feed_3 : OpS mL_feed 3 (o_aload 0 4) := s_aload_n (by decide +kernel : decode cL_feed 3 = .ok (.aload_n 0, 1)) rfl
theorem oL_feed_4 : OpS mL_feed 4 (o_iload 1 5) := s_iload_n (by decide +kernel : decode cL_feed 4 = .ok (.iload_n 1, 1)) rfl
theorem oL_feed_5 : OpS mL_feed 5 (o_iload 2 6) := s_iload_n (by decide +kernel : decode cL_feed 5 = .ok (.iload_n 2, 1)) rfl
theorem oL_feed_6 : OpS mL_feed 6 (o_iload 3 7) := s_iload_n (by decide +kernel : decode cL_feed 6 = .ok (.iload_n 3, 1)) rfl
theorem oL_feed_7 : OpS mL_feed 7 (o_iload 4 9) := s_iload (by decide +kernel : decode cL_feed 7 = .ok (.iload 4, 2))
theorem oL_feed_9 : OpS mL_feed 9 (o_iload 5 11) := s_iload (by decide +kernel : decode cL_feed 9 = .ok (.iload 5, 2))
theorem oL_feed_11 : OpS mL_feed 11 (o_callVH mX11_feed 11 5 [("java/lang/IllegalStateException", 7, 21)] 14) := s_callVH ceX11_feed clsX11 wd_881 wd_882 selX11_feed hs_L_feed (by decide +kernel : decode cL_feed 11 = .ok (.invokevirtual 7, 3))
theorem oL_feed_14 : OpS mL_feed 14 (o_i2l 15) := s_i2l (by decide +kernel : decode cL_feed 14 = .ok (.i2l, 1))
theorem oL_feed_15 : OpS mL_feed 15 (o_last 16) := s_last (by decide +kernel : decode cL_feed 15 = .ok (.lastore, 1))
theorem oL_feed_16 : OpS mL_feed 16 (o_goto 23) := s_goto (by decide +kernel : decode cL_feed 16 = .ok (.goto 7, 3)) (by decide)
theorem oL_feed_21 : OpS mL_feed 21 (o_const (.int 1) 22) := s_iconst (by decide +kernel : decode cL_feed 21 = .ok (.iconst 1, 1)) (by decide)
theorem oL_feed_22 : OpS mL_feed 22 (o_iret) := s_iret rfl (by decide +kernel : decode cL_feed 22 = .ok (.ireturn, 1))
theorem oL_feed_23 : OpS mL_feed 23 (o_const (.int 0) 24) := s_iconst (by decide +kernel : decode cL_feed 23 = .ok (.iconst 0, 1)) (by decide)
theorem oL_feed_24 : OpS mL_feed 24 (o_iret) := s_iret rfl (by decide +kernel : decode cL_feed 24 = .ok (.ireturn, 1))
theorem oL_trim_0 : OpS mL_trim 0 (o_aload 2 1) := s_aload_n (by decide +kernel : decode cL_trim 0 = .ok (.aload_n 2, 1)) rfl
theorem oL_trim_1 : OpS mL_trim 1 (o_const (.int 0) 2) := s_iconst (by decide +kernel : decode cL_trim 1 = .ok (.iconst 0, 1)) (by decide)
theorem oL_trim_2 : OpS mL_trim 2 (o_aload 0 3) := s_aload_n (by decide +kernel : decode cL_trim 2 = .ok (.aload_n 0, 1)) rfl
theorem oL_trim_3 : OpS mL_trim 3 (o_iload 1 4) := s_iload_n (by decide +kernel : decode cL_trim 3 = .ok (.iload_n 1, 1)) rfl
theorem oL_trim_4 : OpS mL_trim 4 (o_callVH mX11_trim 11 1 [("java/lang/IllegalArgumentException", 3, 13)] 7) := s_callVH ceX11_trim clsX11 wd_961 wd_962 selX11_trim hs_L_trim (by decide +kernel : decode cL_trim 4 = .ok (.invokevirtual 15, 3))
theorem oL_trim_7 : OpS mL_trim 7 (o_i2l 8) := s_i2l (by decide +kernel : decode cL_trim 7 = .ok (.i2l, 1))
theorem oL_trim_8 : OpS mL_trim 8 (o_last 9) := s_last (by decide +kernel : decode cL_trim 8 = .ok (.lastore, 1))
theorem oL_trim_9 : OpS mL_trim 9 (o_goto 15) := s_goto (by decide +kernel : decode cL_trim 9 = .ok (.goto 6, 3)) (by decide)
theorem oL_trim_13 : OpS mL_trim 13 (o_const (.int 1) 14) := s_iconst (by decide +kernel : decode cL_trim 13 = .ok (.iconst 1, 1)) (by decide)
theorem oL_trim_14 : OpS mL_trim 14 (o_iret) := s_iret rfl (by decide +kernel : decode cL_trim 14 = .ok (.ireturn, 1))
theorem oL_trim_15 : OpS mL_trim 15 (o_const (.int 0) 16) := s_iconst (by decide +kernel : decode cL_trim 15 = .ok (.iconst 0, 1)) (by decide)
theorem oL_trim_16 : OpS mL_trim 16 (o_iret) := s_iret rfl (by decide +kernel : decode cL_trim 16 = .ok (.ireturn, 1))
theorem oL_count_0 : OpS mL_count 0 (o_aload 2 1) := s_aload_n (by decide +kernel : decode cL_count 0 = .ok (.aload_n 2, 1)) rfl
theorem oL_count_1 : OpS mL_count 1 (o_const (.int 0) 2) := s_iconst (by decide +kernel : decode cL_count 1 = .ok (.iconst 0, 1)) (by decide)
theorem oL_count_2 : OpS mL_count 2 (o_aload 0 3) := s_aload_n (by decide +kernel : decode cL_count 2 = .ok (.aload_n 0, 1)) rfl
theorem oL_count_3 : OpS mL_count 3 (o_iload 1 4) := s_iload_n (by decide +kernel : decode cL_count 3 = .ok (.iload_n 1, 1)) rfl
theorem oL_count_4 : OpS mL_count 4 (o_callVH mX11_count 11 1 [("java/lang/IndexOutOfBoundsException", 3, 13)] 7) := s_callVH ceX11_count clsX11 wd_989 wd_990 selX11_count hs_L_count (by decide +kernel : decode cL_count 4 = .ok (.invokevirtual 21, 3))
theorem oL_count_7 : OpS mL_count 7 (o_i2l 8) := s_i2l (by decide +kernel : decode cL_count 7 = .ok (.i2l, 1))
theorem oL_count_8 : OpS mL_count 8 (o_last 9) := s_last (by decide +kernel : decode cL_count 8 = .ok (.lastore, 1))
theorem oL_count_9 : OpS mL_count 9 (o_goto 15) := s_goto (by decide +kernel : decode cL_count 9 = .ok (.goto 6, 3)) (by decide)
theorem oL_count_13 : OpS mL_count 13 (o_const (.int 1) 14) := s_iconst (by decide +kernel : decode cL_count 13 = .ok (.iconst 1, 1)) (by decide)
theorem oL_count_14 : OpS mL_count 14 (o_iret) := s_iret rfl (by decide +kernel : decode cL_count 14 = .ok (.ireturn, 1))
theorem oL_count_15 : OpS mL_count 15 (o_const (.int 0) 16) := s_iconst (by decide +kernel : decode cL_count 15 = .ok (.iconst 0, 1)) (by decide)
theorem oL_count_16 : OpS mL_count 16 (o_iret) := s_iret rfl (by decide +kernel : decode cL_count 16 = .ok (.ireturn, 1))
theorem oL_type_0 : OpS mL_type 0 (o_aload 2 1) := s_aload_n (by decide +kernel : decode cL_type 0 = .ok (.aload_n 2, 1)) rfl
theorem oL_type_1 : OpS mL_type 1 (o_const (.int 0) 2) := s_iconst (by decide +kernel : decode cL_type 1 = .ok (.iconst 0, 1)) (by decide)
theorem oL_type_2 : OpS mL_type 2 (o_aload 0 3) := s_aload_n (by decide +kernel : decode cL_type 2 = .ok (.aload_n 0, 1)) rfl
theorem oL_type_3 : OpS mL_type 3 (o_iload 1 4) := s_iload_n (by decide +kernel : decode cL_type 3 = .ok (.iload_n 1, 1)) rfl
theorem oL_type_4 : OpS mL_type 4 (o_callVH mX11_type 11 1 [("java/lang/IllegalArgumentException", 3, 13), ("java/lang/IllegalStateException", 3, 16)] 7) := s_callVH ceX11_type clsX11 wd_1012 wd_1013 selX11_type hs_L_type (by decide +kernel : decode cL_type 4 = .ok (.invokevirtual 26, 3))
theorem oL_type_7 : OpS mL_type 7 (o_i2l 8) := s_i2l (by decide +kernel : decode cL_type 7 = .ok (.i2l, 1))
theorem oL_type_8 : OpS mL_type 8 (o_last 9) := s_last (by decide +kernel : decode cL_type 8 = .ok (.lastore, 1))
theorem oL_type_9 : OpS mL_type 9 (o_goto 18) := s_goto (by decide +kernel : decode cL_type 9 = .ok (.goto 9, 3)) (by decide)
theorem oL_type_13 : OpS mL_type 13 (o_const (.int 1) 14) := s_iconst (by decide +kernel : decode cL_type 13 = .ok (.iconst 1, 1)) (by decide)
theorem oL_type_14 : OpS mL_type 14 (o_iret) := s_iret rfl (by decide +kernel : decode cL_type 14 = .ok (.ireturn, 1))
theorem oL_type_16 : OpS mL_type 16 (o_const (.int 2) 17) := s_iconst (by decide +kernel : decode cL_type 16 = .ok (.iconst 2, 1)) (by decide)
theorem oL_type_17 : OpS mL_type 17 (o_iret) := s_iret rfl (by decide +kernel : decode cL_type 17 = .ok (.ireturn, 1))
theorem oL_type_18 : OpS mL_type 18 (o_const (.int 0) 19) := s_iconst (by decide +kernel : decode cL_type 18 = .ok (.iconst 0, 1)) (by decide)
theorem oL_type_19 : OpS mL_type 19 (o_iret) := s_iret rfl (by decide +kernel : decode cL_type 19 = .ok (.ireturn, 1))
theorem oL_back_0 : OpS mL_back 0 (o_aload 1 1) := s_aload_n (by decide +kernel : decode cL_back 0 = .ok (.aload_n 1, 1)) rfl
theorem oL_back_1 : OpS mL_back 1 (o_const (.int 0) 2) := s_iconst (by decide +kernel : decode cL_back 1 = .ok (.iconst 0, 1)) (by decide)
theorem oL_back_2 : OpS mL_back 2 (o_aload 0 3) := s_aload_n (by decide +kernel : decode cL_back 2 = .ok (.aload_n 0, 1)) rfl
theorem oL_back_3 : OpS mL_back 3 (o_callVH mX11_back 11 0 [("java/lang/IllegalStateException", 2, 12)] 6) := s_callVH ceX11_back clsX11 wd_1023 wd_1024 selX11_back hs_L_back (by decide +kernel : decode cL_back 3 = .ok (.invokevirtual 29, 3))
theorem oL_back_6 : OpS mL_back 6 (o_i2l 7) := s_i2l (by decide +kernel : decode cL_back 6 = .ok (.i2l, 1))
theorem oL_back_7 : OpS mL_back 7 (o_last 8) := s_last (by decide +kernel : decode cL_back 7 = .ok (.lastore, 1))
theorem oL_back_8 : OpS mL_back 8 (o_goto 14) := s_goto (by decide +kernel : decode cL_back 8 = .ok (.goto 6, 3)) (by decide)
theorem oL_back_12 : OpS mL_back 12 (o_const (.int 1) 13) := s_iconst (by decide +kernel : decode cL_back 12 = .ok (.iconst 1, 1)) (by decide)
theorem oL_back_13 : OpS mL_back 13 (o_iret) := s_iret rfl (by decide +kernel : decode cL_back 13 = .ok (.ireturn, 1))
theorem oL_back_14 : OpS mL_back 14 (o_const (.int 0) 15) := s_iconst (by decide +kernel : decode cL_back 14 = .ok (.iconst 0, 1)) (by decide)
theorem oL_back_15 : OpS mL_back 15 (o_iret) := s_iret rfl (by decide +kernel : decode cL_back 15 = .ok (.ireturn, 1))
theorem oL_take_0 : OpS mL_take 0 (o_aload 2 1) := s_aload_n (by decide +kernel : decode cL_take 0 = .ok (.aload_n 2, 1)) rfl
theorem oL_take_1 : OpS mL_take 1 (o_const (.int 0) 2) := s_iconst (by decide +kernel : decode cL_take 1 = .ok (.iconst 0, 1)) (by decide)
theorem oL_take_2 : OpS mL_take 2 (o_aload 0 3) := s_aload_n (by decide +kernel : decode cL_take 2 = .ok (.aload_n 0, 1)) rfl
theorem oL_take_3 : OpS mL_take 3 (o_iload 1 4) := s_iload_n (by decide +kernel : decode cL_take 3 = .ok (.iload_n 1, 1)) rfl
theorem oL_take_4 : OpS mL_take 4 (o_callVH mX11_take 11 1 [("java/lang/IndexOutOfBoundsException", 3, 13), ("java/lang/IllegalStateException", 3, 16)] 7) := s_callVH ceX11_take clsX11 wd_1032 wd_1033 selX11_take hs_L_take (by decide +kernel : decode cL_take 4 = .ok (.invokevirtual 33, 3))
theorem oL_take_7 : OpS mL_take 7 (o_i2l 8) := s_i2l (by decide +kernel : decode cL_take 7 = .ok (.i2l, 1))
theorem oL_take_8 : OpS mL_take 8 (o_last 9) := s_last (by decide +kernel : decode cL_take 8 = .ok (.lastore, 1))
theorem oL_take_9 : OpS mL_take 9 (o_goto 18) := s_goto (by decide +kernel : decode cL_take 9 = .ok (.goto 9, 3)) (by decide)
theorem oL_take_13 : OpS mL_take 13 (o_const (.int 1) 14) := s_iconst (by decide +kernel : decode cL_take 13 = .ok (.iconst 1, 1)) (by decide)
theorem oL_take_14 : OpS mL_take 14 (o_iret) := s_iret rfl (by decide +kernel : decode cL_take 14 = .ok (.ireturn, 1))
theorem oL_take_16 : OpS mL_take 16 (o_const (.int 2) 17) := s_iconst (by decide +kernel : decode cL_take 16 = .ok (.iconst 2, 1)) (by decide)
theorem oL_take_17 : OpS mL_take 17 (o_iret) := s_iret rfl (by decide +kernel : decode cL_take 17 = .ok (.ireturn, 1))
theorem oL_take_18 : OpS mL_take 18 (o_const (.int 0) 19) := s_iconst (by decide +kernel : decode cL_take 18 = .ok (.iconst 0, 1)) (by decide)
theorem oL_take_19 : OpS mL_take 19 (o_iret) := s_iret rfl (by decide +kernel : decode cL_take 19 = .ok (.ireturn, 1))
theorem oL_say_0 : OpS mL_say 0 (o_aload 1 1) := s_aload_n (by decide +kernel : decode cL_say 0 = .ok (.aload_n 1, 1)) rfl
theorem oL_say_1 : OpS mL_say 1 (o_const (.int 0) 2) := s_iconst (by decide +kernel : decode cL_say 1 = .ok (.iconst 0, 1)) (by decide)
theorem oL_say_2 : OpS mL_say 2 (o_aload 0 3) := s_aload_n (by decide +kernel : decode cL_say 2 = .ok (.aload_n 0, 1)) rfl
theorem oL_say_3 : OpS mL_say 3 (o_callVH mX11_say 11 0 [("java/lang/IllegalStateException", 2, 12)] 6) := s_callVH ceX11_say clsX11 wd_1052 wd_1053 selX11_say hs_L_say (by decide +kernel : decode cL_say 3 = .ok (.invokevirtual 36, 3))
theorem oL_say_6 : OpS mL_say 6 (o_i2l 7) := s_i2l (by decide +kernel : decode cL_say 6 = .ok (.i2l, 1))
theorem oL_say_7 : OpS mL_say 7 (o_last 8) := s_last (by decide +kernel : decode cL_say 7 = .ok (.lastore, 1))
theorem oL_say_8 : OpS mL_say 8 (o_goto 14) := s_goto (by decide +kernel : decode cL_say 8 = .ok (.goto 6, 3)) (by decide)
theorem oL_say_12 : OpS mL_say 12 (o_const (.int 1) 13) := s_iconst (by decide +kernel : decode cL_say 12 = .ok (.iconst 1, 1)) (by decide)
theorem oL_say_13 : OpS mL_say 13 (o_iret) := s_iret rfl (by decide +kernel : decode cL_say 13 = .ok (.ireturn, 1))
theorem oL_say_14 : OpS mL_say 14 (o_const (.int 0) 15) := s_iconst (by decide +kernel : decode cL_say 14 = .ok (.iconst 0, 1)) (by decide)
theorem oL_say_15 : OpS mL_say 15 (o_iret) := s_iret rfl (by decide +kernel : decode cL_say 15 = .ok (.ireturn, 1))
theorem oL_setLimit_0 : OpS mL_setLimit 0 (o_aload 2 1) := s_aload_n (by decide +kernel : decode cL_setLimit 0 = .ok (.aload_n 2, 1)) rfl
theorem oL_setLimit_1 : OpS mL_setLimit 1 (o_const (.int 0) 2) := s_iconst (by decide +kernel : decode cL_setLimit 1 = .ok (.iconst 0, 1)) (by decide)
theorem oL_setLimit_2 : OpS mL_setLimit 2 (o_aload 0 3) := s_aload_n (by decide +kernel : decode cL_setLimit 2 = .ok (.aload_n 0, 1)) rfl
theorem oL_setLimit_3 : OpS mL_setLimit 3 (o_iload 1 4) := s_iload_n (by decide +kernel : decode cL_setLimit 3 = .ok (.iload_n 1, 1)) rfl
theorem oL_setLimit_4 : OpS mL_setLimit 4 (o_callVH mX11_setLimit 11 1 [("java/lang/IllegalArgumentException", 3, 13)] 7) := s_callVH ceX11_setLimit clsX11 wd_1067 wd_1068 selX11_setLimit hs_L_setLimit (by decide +kernel : decode cL_setLimit 4 = .ok (.invokevirtual 39, 3))
theorem oL_setLimit_7 : OpS mL_setLimit 7 (o_i2l 8) := s_i2l (by decide +kernel : decode cL_setLimit 7 = .ok (.i2l, 1))
theorem oL_setLimit_8 : OpS mL_setLimit 8 (o_last 9) := s_last (by decide +kernel : decode cL_setLimit 8 = .ok (.lastore, 1))
theorem oL_setLimit_9 : OpS mL_setLimit 9 (o_goto 15) := s_goto (by decide +kernel : decode cL_setLimit 9 = .ok (.goto 6, 3)) (by decide)
theorem oL_setLimit_13 : OpS mL_setLimit 13 (o_const (.int 1) 14) := s_iconst (by decide +kernel : decode cL_setLimit 13 = .ok (.iconst 1, 1)) (by decide)
theorem oL_setLimit_14 : OpS mL_setLimit 14 (o_iret) := s_iret rfl (by decide +kernel : decode cL_setLimit 14 = .ok (.ireturn, 1))
theorem oL_setLimit_15 : OpS mL_setLimit 15 (o_const (.int 0) 16) := s_iconst (by decide +kernel : decode cL_setLimit 15 = .ok (.iconst 0, 1)) (by decide)
theorem oL_setLimit_16 : OpS mL_setLimit 16 (o_iret) := s_iret rfl (by decide +kernel : decode cL_setLimit 16 = .ok (.ireturn, 1))
theorem oL_offer_0 : OpS mL_offer 0 (o_aload 2 1) := s_aload_n (by decide +kernel : decode cL_offer 0 = .ok (.aload_n 2, 1)) rfl
theorem oL_offer_1 : OpS mL_offer 1 (o_const (.int 0) 2) := s_iconst (by decide +kernel : decode cL_offer 1 = .ok (.iconst 0, 1)) (by decide)
theorem oL_offer_2 : OpS mL_offer 2 (o_aload 0 3) := s_aload_n (by decide +kernel : decode cL_offer 2 = .ok (.aload_n 0, 1)) rfl
theorem oL_offer_3 : OpS mL_offer 3 (o_iload 1 4) := s_iload_n (by decide +kernel : decode cL_offer 3 = .ok (.iload_n 1, 1)) rfl
theorem oL_offer_4 : OpS mL_offer 4 (o_callVH mX11_offer 11 1 [("java/lang/IndexOutOfBoundsException", 3, 13)] 7) := s_callVH ceX11_offer clsX11 wd_1075 wd_1076 selX11_offer hs_L_offer (by decide +kernel : decode cL_offer 4 = .ok (.invokevirtual 42, 3))
theorem oL_offer_7 : OpS mL_offer 7 (o_i2l 8) := s_i2l (by decide +kernel : decode cL_offer 7 = .ok (.i2l, 1))
theorem oL_offer_8 : OpS mL_offer 8 (o_last 9) := s_last (by decide +kernel : decode cL_offer 8 = .ok (.lastore, 1))
theorem oL_offer_9 : OpS mL_offer 9 (o_goto 15) := s_goto (by decide +kernel : decode cL_offer 9 = .ok (.goto 6, 3)) (by decide)
theorem oL_offer_13 : OpS mL_offer 13 (o_const (.int 1) 14) := s_iconst (by decide +kernel : decode cL_offer 13 = .ok (.iconst 1, 1)) (by decide)
theorem oL_offer_14 : OpS mL_offer 14 (o_iret) := s_iret rfl (by decide +kernel : decode cL_offer 14 = .ok (.ireturn, 1))
theorem oL_offer_15 : OpS mL_offer 15 (o_const (.int 0) 16) := s_iconst (by decide +kernel : decode cL_offer 15 = .ok (.iconst 0, 1)) (by decide)
theorem oL_offer_16 : OpS mL_offer 16 (o_iret) := s_iret rfl (by decide +kernel : decode cL_offer 16 = .ok (.ireturn, 1))
theorem oL_word_0 : OpS mL_word 0 (o_aload 3 1) := s_aload_n (by decide +kernel : decode cL_word 0 = .ok (.aload_n 3, 1)) rfl
theorem oL_word_1 : OpS mL_word 1 (o_const (.int 0) 2) := s_iconst (by decide +kernel : decode cL_word 1 = .ok (.iconst 0, 1)) (by decide)
theorem oL_word_2 : OpS mL_word 2 (o_aload 0 3) := s_aload_n (by decide +kernel : decode cL_word 2 = .ok (.aload_n 0, 1)) rfl
theorem oL_word_3 : OpS mL_word 3 (o_iload 1 4) := s_iload_n (by decide +kernel : decode cL_word 3 = .ok (.iload_n 1, 1)) rfl
theorem oL_word_4 : OpS mL_word 4 (o_iload 2 5) := s_iload_n (by decide +kernel : decode cL_word 4 = .ok (.iload_n 2, 1)) rfl
theorem oL_word_5 : OpS mL_word 5 (o_callVH mX11_word 11 2 [("java/lang/IndexOutOfBoundsException", 4, 15)] 8) := s_callVH ceX11_word clsX11 wd_1082 wd_1083 selX11_word hs_L_word (by decide +kernel : decode cL_word 5 = .ok (.invokevirtual 45, 3))
theorem oL_word_8 : OpS mL_word 8 (o_i2l 9) := s_i2l (by decide +kernel : decode cL_word 8 = .ok (.i2l, 1))
theorem oL_word_9 : OpS mL_word 9 (o_last 10) := s_last (by decide +kernel : decode cL_word 9 = .ok (.lastore, 1))
theorem oL_word_10 : OpS mL_word 10 (o_goto 17) := s_goto (by decide +kernel : decode cL_word 10 = .ok (.goto 7, 3)) (by decide)
theorem oL_word_15 : OpS mL_word 15 (o_const (.int 1) 16) := s_iconst (by decide +kernel : decode cL_word 15 = .ok (.iconst 1, 1)) (by decide)
theorem oL_word_16 : OpS mL_word 16 (o_iret) := s_iret rfl (by decide +kernel : decode cL_word 16 = .ok (.ireturn, 1))
theorem oL_word_17 : OpS mL_word 17 (o_const (.int 0) 18) := s_iconst (by decide +kernel : decode cL_word 17 = .ok (.iconst 0, 1)) (by decide)
theorem oL_word_18 : OpS mL_word 18 (o_iret) := s_iret rfl (by decide +kernel : decode cL_word 18 = .ok (.ireturn, 1))
theorem oL_letter_0 : OpS mL_letter 0 (o_aload 3 1) := s_aload_n (by decide +kernel : decode cL_letter 0 = .ok (.aload_n 3, 1)) rfl
theorem oL_letter_1 : OpS mL_letter 1 (o_const (.int 0) 2) := s_iconst (by decide +kernel : decode cL_letter 1 = .ok (.iconst 0, 1)) (by decide)
theorem oL_letter_2 : OpS mL_letter 2 (o_aload 0 3) := s_aload_n (by decide +kernel : decode cL_letter 2 = .ok (.aload_n 0, 1)) rfl
theorem oL_letter_3 : OpS mL_letter 3 (o_iload 1 4) := s_iload_n (by decide +kernel : decode cL_letter 3 = .ok (.iload_n 1, 1)) rfl
theorem oL_letter_4 : OpS mL_letter 4 (o_iload 2 5) := s_iload_n (by decide +kernel : decode cL_letter 4 = .ok (.iload_n 2, 1)) rfl
theorem oL_letter_5 : OpS mL_letter 5 (o_callVH mX11_letter 11 2 [("java/lang/IndexOutOfBoundsException", 4, 15)] 8) := s_callVH ceX11_letter clsX11 wd_1094 wd_1095 selX11_letter hs_L_letter (by decide +kernel : decode cL_letter 5 = .ok (.invokevirtual 49, 3))
theorem oL_letter_8 : OpS mL_letter 8 (o_i2l 9) := s_i2l (by decide +kernel : decode cL_letter 8 = .ok (.i2l, 1))
theorem oL_letter_9 : OpS mL_letter 9 (o_last 10) := s_last (by decide +kernel : decode cL_letter 9 = .ok (.lastore, 1))
theorem oL_letter_10 : OpS mL_letter 10 (o_goto 17) := s_goto (by decide +kernel : decode cL_letter 10 = .ok (.goto 7, 3)) (by decide)
theorem oL_letter_15 : OpS mL_letter 15 (o_const (.int 1) 16) := s_iconst (by decide +kernel : decode cL_letter 15 = .ok (.iconst 1, 1)) (by decide)
theorem oL_letter_16 : OpS mL_letter 16 (o_iret) := s_iret rfl (by decide +kernel : decode cL_letter 16 = .ok (.ireturn, 1))
theorem oL_letter_17 : OpS mL_letter 17 (o_const (.int 0) 18) := s_iconst (by decide +kernel : decode cL_letter 17 = .ok (.iconst 0, 1)) (by decide)
theorem oL_letter_18 : OpS mL_letter 18 (o_iret) := s_iret rfl (by decide +kernel : decode cL_letter 18 = .ok (.ireturn, 1))
theorem oL_strokes_0 : OpS mL_strokes 0 (o_aload 2 1) := s_aload_n (by decide +kernel : decode cL_strokes 0 = .ok (.aload_n 2, 1)) rfl
theorem oL_strokes_1 : OpS mL_strokes 1 (o_const (.int 0) 2) := s_iconst (by decide +kernel : decode cL_strokes 1 = .ok (.iconst 0, 1)) (by decide)
theorem oL_strokes_2 : OpS mL_strokes 2 (o_aload 0 3) := s_aload_n (by decide +kernel : decode cL_strokes 2 = .ok (.aload_n 0, 1)) rfl
theorem oL_strokes_3 : OpS mL_strokes 3 (o_iload 1 4) := s_iload_n (by decide +kernel : decode cL_strokes 3 = .ok (.iload_n 1, 1)) rfl
theorem oL_strokes_4 : OpS mL_strokes 4 (o_callVH mX11_strokes 11 1 [("java/lang/IndexOutOfBoundsException", 3, 13)] 7) := s_callVH ceX11_strokes clsX11 wd_1102 wd_1103 selX11_strokes hs_L_strokes (by decide +kernel : decode cL_strokes 4 = .ok (.invokevirtual 52, 3))
theorem oL_strokes_7 : OpS mL_strokes 7 (o_i2l 8) := s_i2l (by decide +kernel : decode cL_strokes 7 = .ok (.i2l, 1))
theorem oL_strokes_8 : OpS mL_strokes 8 (o_last 9) := s_last (by decide +kernel : decode cL_strokes 8 = .ok (.lastore, 1))
theorem oL_strokes_9 : OpS mL_strokes 9 (o_goto 15) := s_goto (by decide +kernel : decode cL_strokes 9 = .ok (.goto 6, 3)) (by decide)
theorem oL_strokes_13 : OpS mL_strokes 13 (o_const (.int 1) 14) := s_iconst (by decide +kernel : decode cL_strokes 13 = .ok (.iconst 1, 1)) (by decide)
theorem oL_strokes_14 : OpS mL_strokes 14 (o_iret) := s_iret rfl (by decide +kernel : decode cL_strokes 14 = .ok (.ireturn, 1))
theorem oL_strokes_15 : OpS mL_strokes 15 (o_const (.int 0) 16) := s_iconst (by decide +kernel : decode cL_strokes 15 = .ok (.iconst 0, 1)) (by decide)
theorem oL_strokes_16 : OpS mL_strokes 16 (o_iret) := s_iret rfl (by decide +kernel : decode cL_strokes 16 = .ok (.ireturn, 1))
theorem oL_needs_0 : OpS mL_needs 0 (o_aload 2 1) := s_aload_n (by decide +kernel : decode cL_needs 0 = .ok (.aload_n 2, 1)) rfl
theorem oL_needs_1 : OpS mL_needs 1 (o_const (.int 0) 2) := s_iconst (by decide +kernel : decode cL_needs 1 = .ok (.iconst 0, 1)) (by decide)
theorem oL_needs_2 : OpS mL_needs 2 (o_aload 0 3) := s_aload_n (by decide +kernel : decode cL_needs 2 = .ok (.aload_n 0, 1)) rfl
theorem oL_needs_3 : OpS mL_needs 3 (o_iload 1 4) := s_iload_n (by decide +kernel : decode cL_needs 3 = .ok (.iload_n 1, 1)) rfl
theorem oL_needs_4 : OpS mL_needs 4 (o_callVH mX11_needs 11 1 [("java/lang/IndexOutOfBoundsException", 3, 13)] 7) := s_callVH ceX11_needs clsX11 wd_1118 wd_1119 selX11_needs hs_L_needs (by decide +kernel : decode cL_needs 4 = .ok (.invokevirtual 55, 3))
theorem oL_needs_7 : OpS mL_needs 7 (o_i2l 8) := s_i2l (by decide +kernel : decode cL_needs 7 = .ok (.i2l, 1))
theorem oL_needs_8 : OpS mL_needs 8 (o_last 9) := s_last (by decide +kernel : decode cL_needs 8 = .ok (.lastore, 1))
theorem oL_needs_9 : OpS mL_needs 9 (o_goto 15) := s_goto (by decide +kernel : decode cL_needs 9 = .ok (.goto 6, 3)) (by decide)
theorem oL_needs_13 : OpS mL_needs 13 (o_const (.int 1) 14) := s_iconst (by decide +kernel : decode cL_needs 13 = .ok (.iconst 1, 1)) (by decide)
theorem oL_needs_14 : OpS mL_needs 14 (o_iret) := s_iret rfl (by decide +kernel : decode cL_needs 14 = .ok (.ireturn, 1))
theorem oL_needs_15 : OpS mL_needs 15 (o_const (.int 0) 16) := s_iconst (by decide +kernel : decode cL_needs 15 = .ok (.iconst 0, 1)) (by decide)
theorem oL_needs_16 : OpS mL_needs 16 (o_iret) := s_iret rfl (by decide +kernel : decode cL_needs 16 = .ok (.ireturn, 1))
theorem oL_closest_0 : OpS mL_closest 0 (o_aload 2 1) := s_aload_n (by decide +kernel : decode cL_closest 0 = .ok (.aload_n 2, 1)) rfl
theorem oL_closest_1 : OpS mL_closest 1 (o_const (.int 0) 2) := s_iconst (by decide +kernel : decode cL_closest 1 = .ok (.iconst 0, 1)) (by decide)
theorem oL_closest_2 : OpS mL_closest 2 (o_aload 0 3) := s_aload_n (by decide +kernel : decode cL_closest 2 = .ok (.aload_n 0, 1)) rfl
theorem oL_closest_3 : OpS mL_closest 3 (o_iload 1 4) := s_iload_n (by decide +kernel : decode cL_closest 3 = .ok (.iload_n 1, 1)) rfl
theorem oL_closest_4 : OpS mL_closest 4 (o_callVH mX11_closest 11 1 [("java/lang/IndexOutOfBoundsException", 3, 13)] 7) := s_callVH ceX11_closest clsX11 wd_1136 wd_1137 selX11_closest hs_L_closest (by decide +kernel : decode cL_closest 4 = .ok (.invokevirtual 58, 3))
theorem oL_closest_7 : OpS mL_closest 7 (o_i2l 8) := s_i2l (by decide +kernel : decode cL_closest 7 = .ok (.i2l, 1))
theorem oL_closest_8 : OpS mL_closest 8 (o_last 9) := s_last (by decide +kernel : decode cL_closest 8 = .ok (.lastore, 1))
theorem oL_closest_9 : OpS mL_closest 9 (o_goto 15) := s_goto (by decide +kernel : decode cL_closest 9 = .ok (.goto 6, 3)) (by decide)
theorem oL_closest_13 : OpS mL_closest 13 (o_const (.int 1) 14) := s_iconst (by decide +kernel : decode cL_closest 13 = .ok (.iconst 1, 1)) (by decide)
theorem oL_closest_14 : OpS mL_closest 14 (o_iret) := s_iret rfl (by decide +kernel : decode cL_closest 14 = .ok (.ireturn, 1))
theorem oL_closest_15 : OpS mL_closest 15 (o_const (.int 0) 16) := s_iconst (by decide +kernel : decode cL_closest 15 = .ok (.iconst 0, 1)) (by decide)
theorem oL_closest_16 : OpS mL_closest 16 (o_iret) := s_iret rfl (by decide +kernel : decode cL_closest 16 = .ok (.ireturn, 1))
theorem oL_law_0 : OpS mL_law 0 (o_new 11 10 3) := s_new clsX11 defX11 wd_28 wd_29 wd_1 (by decide +kernel : decode cL_law 0 = .ok (.new 8, 3))
theorem oL_law_3 : OpS mL_law 3 (o_dup 4) := s_dup (by decide +kernel : decode cL_law 3 = .ok (.dup, 1))
theorem oL_law_4 : OpS mL_law 4 (o_callI mX11_init 0 7) := s_callI ceX11_init rfl rfl (Or.inl wd_30) wd_31 (by decide +kernel : decode cL_law 4 = .ok (.invokespecial 61, 3))
theorem oL_law_7 : OpS mL_law 7 (o_astore 1 9 8) := s_astore_n (by decide +kernel : decode cL_law 7 = .ok (.astore_n 1, 1)) rfl rfl
theorem oL_law_8 : OpS mL_law 8 (o_new 13 28 11) := s_new clsX13 defX13 wd_1165 wd_1152 wd_17 (by decide +kernel : decode cL_law 8 = .ok (.new 62, 3))
theorem oL_law_11 : OpS mL_law 11 (o_dup 12) := s_dup (by decide +kernel : decode cL_law 11 = .ok (.dup, 1))
theorem oL_law_12 : OpS mL_law 12 (o_callI mX13_init 0 15) := s_callI ceX13_init rfl rfl (Or.inl wd_1166) wd_1167 (by decide +kernel : decode cL_law 12 = .ok (.invokespecial 64, 3))
theorem oL_law_15 : OpS mL_law 15 (o_astore 2 9 16) := s_astore_n (by decide +kernel : decode cL_law 15 = .ok (.astore_n 2, 1)) rfl rfl
theorem oL_law_16 : OpS mL_law 16 (o_const (.int 1) 17) := s_iconst (by decide +kernel : decode cL_law 16 = .ok (.iconst 1, 1)) (by decide)
theorem oL_law_17 : OpS mL_law 17 (o_newa 3 19) := s_newa3 wd_1658 (by decide +kernel : decode cL_law 17 = .ok (.newarray .long, 2))
theorem oL_law_19 : OpS mL_law 19 (o_astore 3 9 20) := s_astore_n (by decide +kernel : decode cL_law 19 = .ok (.astore_n 3, 1)) rfl rfl
theorem oL_law_20 : OpS mL_law 20 (o_const (.int 0) 21) := s_iconst (by decide +kernel : decode cL_law 20 = .ok (.iconst 0, 1)) (by decide)
theorem oL_law_21 : OpS mL_law 21 (o_istore 4 9 23) := s_istore (by decide +kernel : decode cL_law 21 = .ok (.istore 4, 2)) rfl
theorem oL_law_23 : OpS mL_law 23 (o_iload 4 25) := s_iload (by decide +kernel : decode cL_law 23 = .ok (.iload 4, 2))
theorem oL_law_25 : OpS mL_law 25 (o_aload 0 26) := s_aload_n (by decide +kernel : decode cL_law 25 = .ok (.aload_n 0, 1)) rfl
theorem oL_law_26 : OpS mL_law 26 (o_slen 27) := s_slen (by decide +kernel : decode cL_law 26 = .ok (.arraylength, 1))
theorem oL_law_27 : OpS mL_law 27 (o_const (.int 6) 29) := s_bipush (by decide +kernel : decode cL_law 27 = .ok (.bipush 6, 2)) (by decide)
theorem oL_law_29 : OpS mL_law 29 (o_ibin (fun x y => x - y) 30) := s_isub (by decide +kernel : decode cL_law 29 = .ok (.isub, 1))
theorem oL_law_30 : OpS mL_law 30 (o_icmp (fun x y => y < x) 1105 33) := s_icmp_gt (by decide +kernel : decode cL_law 30 = .ok (.if_icmp .gt 1075, 3)) (by decide)
theorem oL_law_33 : OpS mL_law 33 (o_aload 0 34) := s_aload_n (by decide +kernel : decode cL_law 33 = .ok (.aload_n 0, 1)) rfl
theorem oL_law_34 : OpS mL_law 34 (o_iload 4 36) := s_iload (by decide +kernel : decode cL_law 34 = .ok (.iload 4, 2))
theorem oL_law_36 : OpS mL_law 36 (o_sald 37) := s_sald (by decide +kernel : decode cL_law 36 = .ok (.iaload, 1))
theorem oL_law_37 : OpS mL_law 37 (o_const (.int 31) 39) := s_bipush (by decide +kernel : decode cL_law 37 = .ok (.bipush 31, 2)) (by decide)
theorem oL_law_39 : OpS mL_law 39 (o_ibin (fun x y => x &&& y) 40) := s_iand (by decide +kernel : decode cL_law 39 = .ok (.iand, 1))
theorem oL_law_40 : OpS mL_law 40 (o_sw [(0, 136), (1, 240), (2, 296), (3, 309), (4, 322), (5, 378), (6, 434), (7, 478), (8, 534), (9, 578), (10, 634), (11, 690), (12, 758), (13, 826), (14, 863), (15, 876), (16, 932), (17, 988), (18, 1044), (19, 1085)] 1099) := s_tsw (by decide +kernel : decode cL_law 40 = .ok (.tableswitch 1059 0 19 #[96, 200, 256, 269, 282, 338, 394, 438, 494, 538, 594, 650, 718, 786, 823, 836, 892, 948, 1004, 1045], 96)) (by decide) (by decide) (by decide)
theorem oL_law_136 : OpS mL_law 136 (o_aload 1 137) := s_aload_n (by decide +kernel : decode cL_law 136 = .ok (.aload_n 1, 1)) rfl
theorem oL_law_137 : OpS mL_law 137 (o_aload 0 138) := s_aload_n (by decide +kernel : decode cL_law 137 = .ok (.aload_n 0, 1)) rfl
theorem oL_law_138 : OpS mL_law 138 (o_iload 4 140) := s_iload (by decide +kernel : decode cL_law 138 = .ok (.iload 4, 2))
theorem oL_law_140 : OpS mL_law 140 (o_const (.int 1) 141) := s_iconst (by decide +kernel : decode cL_law 140 = .ok (.iconst 1, 1)) (by decide)
theorem oL_law_141 : OpS mL_law 141 (o_ibin (fun x y => x + y) 142) := s_iadd (by decide +kernel : decode cL_law 141 = .ok (.iadd, 1))
theorem oL_law_142 : OpS mL_law 142 (o_sald 143) := s_sald (by decide +kernel : decode cL_law 142 = .ok (.iaload, 1))
theorem oL_law_143 : OpS mL_law 143 (o_aload 0 144) := s_aload_n (by decide +kernel : decode cL_law 143 = .ok (.aload_n 0, 1)) rfl
theorem oL_law_144 : OpS mL_law 144 (o_iload 4 146) := s_iload (by decide +kernel : decode cL_law 144 = .ok (.iload 4, 2))
theorem oL_law_146 : OpS mL_law 146 (o_const (.int 2) 147) := s_iconst (by decide +kernel : decode cL_law 146 = .ok (.iconst 2, 1)) (by decide)
theorem oL_law_147 : OpS mL_law 147 (o_ibin (fun x y => x + y) 148) := s_iadd (by decide +kernel : decode cL_law 147 = .ok (.iadd, 1))
theorem oL_law_148 : OpS mL_law 148 (o_sald 149) := s_sald (by decide +kernel : decode cL_law 148 = .ok (.iaload, 1))
theorem oL_law_149 : OpS mL_law 149 (o_aload 0 150) := s_aload_n (by decide +kernel : decode cL_law 149 = .ok (.aload_n 0, 1)) rfl
theorem oL_law_150 : OpS mL_law 150 (o_iload 4 152) := s_iload (by decide +kernel : decode cL_law 150 = .ok (.iload 4, 2))
theorem oL_law_152 : OpS mL_law 152 (o_const (.int 3) 153) := s_iconst (by decide +kernel : decode cL_law 152 = .ok (.iconst 3, 1)) (by decide)
theorem oL_law_153 : OpS mL_law 153 (o_ibin (fun x y => x + y) 154) := s_iadd (by decide +kernel : decode cL_law 153 = .ok (.iadd, 1))
theorem oL_law_154 : OpS mL_law 154 (o_sald 155) := s_sald (by decide +kernel : decode cL_law 154 = .ok (.iaload, 1))
theorem oL_law_155 : OpS mL_law 155 (o_aload 0 156) := s_aload_n (by decide +kernel : decode cL_law 155 = .ok (.aload_n 0, 1)) rfl
theorem oL_law_156 : OpS mL_law 156 (o_iload 4 158) := s_iload (by decide +kernel : decode cL_law 156 = .ok (.iload 4, 2))
theorem oL_law_158 : OpS mL_law 158 (o_const (.int 4) 159) := s_iconst (by decide +kernel : decode cL_law 158 = .ok (.iconst 4, 1)) (by decide)
theorem oL_law_159 : OpS mL_law 159 (o_ibin (fun x y => x + y) 160) := s_iadd (by decide +kernel : decode cL_law 159 = .ok (.iadd, 1))
theorem oL_law_160 : OpS mL_law 160 (o_sald 161) := s_sald (by decide +kernel : decode cL_law 160 = .ok (.iaload, 1))
theorem oL_law_161 : OpS mL_law 161 (o_aload 0 162) := s_aload_n (by decide +kernel : decode cL_law 161 = .ok (.aload_n 0, 1)) rfl
theorem oL_law_162 : OpS mL_law 162 (o_iload 4 164) := s_iload (by decide +kernel : decode cL_law 162 = .ok (.iload 4, 2))
theorem oL_law_164 : OpS mL_law 164 (o_const (.int 5) 165) := s_iconst (by decide +kernel : decode cL_law 164 = .ok (.iconst 5, 1)) (by decide)
theorem oL_law_165 : OpS mL_law 165 (o_ibin (fun x y => x + y) 166) := s_iadd (by decide +kernel : decode cL_law 165 = .ok (.iadd, 1))
theorem oL_law_166 : OpS mL_law 166 (o_sald 167) := s_sald (by decide +kernel : decode cL_law 166 = .ok (.iaload, 1))
theorem oL_law_167 : OpS mL_law 167 (o_aload 3 168) := s_aload_n (by decide +kernel : decode cL_law 167 = .ok (.aload_n 3, 1)) rfl
theorem oL_law_168 : OpS mL_law 168 (o_callS mL_feed 7 171) := s_callSH (y := mL_feed) (by decide) wd_0 (by decide) (by decide +kernel) wd_877 wd_878 (by decide +kernel : decode cL_law 168 = .ok (.invokestatic 65, 3))
theorem oL_law_171 : OpS mL_law 171 (o_istore 5 9 173) := s_istore (by decide +kernel : decode cL_law 171 = .ok (.istore 5, 2)) rfl
theorem oL_law_173 : OpS mL_law 173 (o_aload 2 174) := s_aload_n (by decide +kernel : decode cL_law 173 = .ok (.aload_n 2, 1)) rfl
theorem oL_law_174 : OpS mL_law 174 (o_aload 0 175) := s_aload_n (by decide +kernel : decode cL_law 174 = .ok (.aload_n 0, 1)) rfl
theorem oL_law_175 : OpS mL_law 175 (o_iload 4 177) := s_iload (by decide +kernel : decode cL_law 175 = .ok (.iload 4, 2))
theorem oL_law_177 : OpS mL_law 177 (o_const (.int 1) 178) := s_iconst (by decide +kernel : decode cL_law 177 = .ok (.iconst 1, 1)) (by decide)
theorem oL_law_178 : OpS mL_law 178 (o_ibin (fun x y => x + y) 179) := s_iadd (by decide +kernel : decode cL_law 178 = .ok (.iadd, 1))
theorem oL_law_179 : OpS mL_law 179 (o_sald 180) := s_sald (by decide +kernel : decode cL_law 179 = .ok (.iaload, 1))
theorem oL_law_180 : OpS mL_law 180 (o_aload 0 181) := s_aload_n (by decide +kernel : decode cL_law 180 = .ok (.aload_n 0, 1)) rfl
theorem oL_law_181 : OpS mL_law 181 (o_iload 4 183) := s_iload (by decide +kernel : decode cL_law 181 = .ok (.iload 4, 2))
theorem oL_law_183 : OpS mL_law 183 (o_const (.int 2) 184) := s_iconst (by decide +kernel : decode cL_law 183 = .ok (.iconst 2, 1)) (by decide)
theorem oL_law_184 : OpS mL_law 184 (o_ibin (fun x y => x + y) 185) := s_iadd (by decide +kernel : decode cL_law 184 = .ok (.iadd, 1))
theorem oL_law_185 : OpS mL_law 185 (o_sald 186) := s_sald (by decide +kernel : decode cL_law 185 = .ok (.iaload, 1))
theorem oL_law_186 : OpS mL_law 186 (o_aload 0 187) := s_aload_n (by decide +kernel : decode cL_law 186 = .ok (.aload_n 0, 1)) rfl
theorem oL_law_187 : OpS mL_law 187 (o_iload 4 189) := s_iload (by decide +kernel : decode cL_law 187 = .ok (.iload 4, 2))
theorem oL_law_189 : OpS mL_law 189 (o_const (.int 3) 190) := s_iconst (by decide +kernel : decode cL_law 189 = .ok (.iconst 3, 1)) (by decide)
theorem oL_law_190 : OpS mL_law 190 (o_ibin (fun x y => x + y) 191) := s_iadd (by decide +kernel : decode cL_law 190 = .ok (.iadd, 1))
theorem oL_law_191 : OpS mL_law 191 (o_sald 192) := s_sald (by decide +kernel : decode cL_law 191 = .ok (.iaload, 1))
theorem oL_law_192 : OpS mL_law 192 (o_aload 0 193) := s_aload_n (by decide +kernel : decode cL_law 192 = .ok (.aload_n 0, 1)) rfl
theorem oL_law_193 : OpS mL_law 193 (o_iload 4 195) := s_iload (by decide +kernel : decode cL_law 193 = .ok (.iload 4, 2))
theorem oL_law_195 : OpS mL_law 195 (o_const (.int 4) 196) := s_iconst (by decide +kernel : decode cL_law 195 = .ok (.iconst 4, 1)) (by decide)
theorem oL_law_196 : OpS mL_law 196 (o_ibin (fun x y => x + y) 197) := s_iadd (by decide +kernel : decode cL_law 196 = .ok (.iadd, 1))
theorem oL_law_197 : OpS mL_law 197 (o_sald 198) := s_sald (by decide +kernel : decode cL_law 197 = .ok (.iaload, 1))
theorem oL_law_198 : OpS mL_law 198 (o_aload 0 199) := s_aload_n (by decide +kernel : decode cL_law 198 = .ok (.aload_n 0, 1)) rfl
theorem oL_law_199 : OpS mL_law 199 (o_iload 4 201) := s_iload (by decide +kernel : decode cL_law 199 = .ok (.iload 4, 2))
theorem oL_law_201 : OpS mL_law 201 (o_const (.int 5) 202) := s_iconst (by decide +kernel : decode cL_law 201 = .ok (.iconst 5, 1)) (by decide)
theorem oL_law_202 : OpS mL_law 202 (o_ibin (fun x y => x + y) 203) := s_iadd (by decide +kernel : decode cL_law 202 = .ok (.iadd, 1))
theorem oL_law_203 : OpS mL_law 203 (o_sald 204) := s_sald (by decide +kernel : decode cL_law 203 = .ok (.iaload, 1))
theorem oL_law_204 : OpS mL_law 204 (o_callV mX13_feed 13 5 207) := s_callV ceX13_feed clsX13 (Or.inl wd_1145) wd_1146 selX13_feed (by decide +kernel : decode cL_law 204 = .ok (.invokevirtual 70, 3))
theorem oL_law_207 : OpS mL_law 207 (o_istore 6 9 209) := s_istore (by decide +kernel : decode cL_law 207 = .ok (.istore 6, 2)) rfl
theorem oL_law_209 : OpS mL_law 209 (o_aload 2 210) := s_aload_n (by decide +kernel : decode cL_law 209 = .ok (.aload_n 2, 1)) rfl
theorem oL_law_210 : OpS mL_law 210 (o_callV mX13_thrown 13 0 213) := s_callV ceX13_thrown clsX13 (Or.inl wd_1141) wd_1142 selX13_thrown (by decide +kernel : decode cL_law 210 = .ok (.invokevirtual 71, 3))
theorem oL_law_213 : OpS mL_law 213 (o_iload 5 215) := s_iload (by decide +kernel : decode cL_law 213 = .ok (.iload 5, 2))
theorem oL_law_215 : OpS mL_law 215 (o_icmp (fun x y => x = y) 220 218) := s_icmp_eq (by decide +kernel : decode cL_law 215 = .ok (.if_icmp .eq 5, 3)) (by decide)
theorem oL_law_218 : OpS mL_law 218 (o_const (.int 0) 219) := s_iconst (by decide +kernel : decode cL_law 218 = .ok (.iconst 0, 1)) (by decide)
theorem oL_law_219 : OpS mL_law 219 (o_zret) := s_zret rfl (by decide +kernel : decode cL_law 219 = .ok (.ireturn, 1))
theorem oL_law_220 : OpS mL_law 220 (o_iload 5 222) := s_iload (by decide +kernel : decode cL_law 220 = .ok (.iload 5, 2))
theorem oL_law_222 : OpS mL_law 222 (o_if (fun x => x = 0) 225 237) := s_if_ne (by decide +kernel : decode cL_law 222 = .ok (.ifCond .ne 15, 3)) (by decide)
theorem oL_law_225 : OpS mL_law 225 (o_aload 3 226) := s_aload_n (by decide +kernel : decode cL_law 225 = .ok (.aload_n 3, 1)) rfl
theorem oL_law_226 : OpS mL_law 226 (o_const (.int 0) 227) := s_iconst (by decide +kernel : decode cL_law 226 = .ok (.iconst 0, 1)) (by decide)
theorem oL_law_227 : OpS mL_law 227 (o_lald 228) := s_lald (by decide +kernel : decode cL_law 227 = .ok (.laload, 1))
theorem oL_law_228 : OpS mL_law 228 (o_iload 6 230) := s_iload (by decide +kernel : decode cL_law 228 = .ok (.iload 6, 2))
theorem oL_law_230 : OpS mL_law 230 (o_i2l 231) := s_i2l (by decide +kernel : decode cL_law 230 = .ok (.i2l, 1))
theorem oL_law_231 : OpS mL_law 231 (o_lcmp 232) := s_lcmp (by decide +kernel : decode cL_law 231 = .ok (.lcmp, 1))
theorem oL_law_232 : OpS mL_law 232 (o_if (fun x => x = 0) 237 235) := s_if_eq (by decide +kernel : decode cL_law 232 = .ok (.ifCond .eq 5, 3)) (by decide)
theorem oL_law_235 : OpS mL_law 235 (o_const (.int 0) 236) := s_iconst (by decide +kernel : decode cL_law 235 = .ok (.iconst 0, 1)) (by decide)
theorem oL_law_236 : OpS mL_law 236 (o_zret) := s_zret rfl (by decide +kernel : decode cL_law 236 = .ok (.ireturn, 1))
theorem oL_law_237 : OpS mL_law 237 (o_goto 1099) := s_goto (by decide +kernel : decode cL_law 237 = .ok (.goto 862, 3)) (by decide)
theorem oL_law_240 : OpS mL_law 240 (o_aload 1 241) := s_aload_n (by decide +kernel : decode cL_law 240 = .ok (.aload_n 1, 1)) rfl
theorem oL_law_241 : OpS mL_law 241 (o_aload 0 242) := s_aload_n (by decide +kernel : decode cL_law 241 = .ok (.aload_n 0, 1)) rfl
theorem oL_law_242 : OpS mL_law 242 (o_iload 4 244) := s_iload (by decide +kernel : decode cL_law 242 = .ok (.iload 4, 2))
theorem oL_law_244 : OpS mL_law 244 (o_const (.int 1) 245) := s_iconst (by decide +kernel : decode cL_law 244 = .ok (.iconst 1, 1)) (by decide)
theorem oL_law_245 : OpS mL_law 245 (o_ibin (fun x y => x + y) 246) := s_iadd (by decide +kernel : decode cL_law 245 = .ok (.iadd, 1))
theorem oL_law_246 : OpS mL_law 246 (o_sald 247) := s_sald (by decide +kernel : decode cL_law 246 = .ok (.iaload, 1))
theorem oL_law_247 : OpS mL_law 247 (o_aload 3 248) := s_aload_n (by decide +kernel : decode cL_law 247 = .ok (.aload_n 3, 1)) rfl
theorem oL_law_248 : OpS mL_law 248 (o_callS mL_trim 3 251) := s_callSH (y := mL_trim) (by decide) wd_0 (by decide) (by decide +kernel) wd_957 wd_958 (by decide +kernel : decode cL_law 248 = .ok (.invokestatic 74, 3))
theorem oL_law_251 : OpS mL_law 251 (o_istore 5 9 253) := s_istore (by decide +kernel : decode cL_law 251 = .ok (.istore 5, 2)) rfl
theorem oL_law_253 : OpS mL_law 253 (o_aload 2 254) := s_aload_n (by decide +kernel : decode cL_law 253 = .ok (.aload_n 2, 1)) rfl
theorem oL_law_254 : OpS mL_law 254 (o_aload 0 255) := s_aload_n (by decide +kernel : decode cL_law 254 = .ok (.aload_n 0, 1)) rfl
theorem oL_law_255 : OpS mL_law 255 (o_iload 4 257) := s_iload (by decide +kernel : decode cL_law 255 = .ok (.iload 4, 2))
theorem oL_law_257 : OpS mL_law 257 (o_const (.int 1) 258) := s_iconst (by decide +kernel : decode cL_law 257 = .ok (.iconst 1, 1)) (by decide)
theorem oL_law_258 : OpS mL_law 258 (o_ibin (fun x y => x + y) 259) := s_iadd (by decide +kernel : decode cL_law 258 = .ok (.iadd, 1))
theorem oL_law_259 : OpS mL_law 259 (o_sald 260) := s_sald (by decide +kernel : decode cL_law 259 = .ok (.iaload, 1))
theorem oL_law_260 : OpS mL_law 260 (o_callV mX13_trim 13 1 263) := s_callV ceX13_trim clsX13 (Or.inl wd_1158) wd_1159 selX13_trim (by decide +kernel : decode cL_law 260 = .ok (.invokevirtual 77, 3))
theorem oL_law_263 : OpS mL_law 263 (o_istore 6 9 265) := s_istore (by decide +kernel : decode cL_law 263 = .ok (.istore 6, 2)) rfl
theorem oL_law_265 : OpS mL_law 265 (o_aload 2 266) := s_aload_n (by decide +kernel : decode cL_law 265 = .ok (.aload_n 2, 1)) rfl
theorem oL_law_266 : OpS mL_law 266 (o_callV mX13_thrown 13 0 269) := s_callV ceX13_thrown clsX13 (Or.inl wd_1141) wd_1142 selX13_thrown (by decide +kernel : decode cL_law 266 = .ok (.invokevirtual 71, 3))
theorem oL_law_269 : OpS mL_law 269 (o_iload 5 271) := s_iload (by decide +kernel : decode cL_law 269 = .ok (.iload 5, 2))
theorem oL_law_271 : OpS mL_law 271 (o_icmp (fun x y => x = y) 276 274) := s_icmp_eq (by decide +kernel : decode cL_law 271 = .ok (.if_icmp .eq 5, 3)) (by decide)
theorem oL_law_274 : OpS mL_law 274 (o_const (.int 0) 275) := s_iconst (by decide +kernel : decode cL_law 274 = .ok (.iconst 0, 1)) (by decide)
theorem oL_law_275 : OpS mL_law 275 (o_zret) := s_zret rfl (by decide +kernel : decode cL_law 275 = .ok (.ireturn, 1))
theorem oL_law_276 : OpS mL_law 276 (o_iload 5 278) := s_iload (by decide +kernel : decode cL_law 276 = .ok (.iload 5, 2))
theorem oL_law_278 : OpS mL_law 278 (o_if (fun x => x = 0) 281 293) := s_if_ne (by decide +kernel : decode cL_law 278 = .ok (.ifCond .ne 15, 3)) (by decide)
theorem oL_law_281 : OpS mL_law 281 (o_aload 3 282) := s_aload_n (by decide +kernel : decode cL_law 281 = .ok (.aload_n 3, 1)) rfl
theorem oL_law_282 : OpS mL_law 282 (o_const (.int 0) 283) := s_iconst (by decide +kernel : decode cL_law 282 = .ok (.iconst 0, 1)) (by decide)
theorem oL_law_283 : OpS mL_law 283 (o_lald 284) := s_lald (by decide +kernel : decode cL_law 283 = .ok (.laload, 1))
theorem oL_law_284 : OpS mL_law 284 (o_iload 6 286) := s_iload (by decide +kernel : decode cL_law 284 = .ok (.iload 6, 2))
theorem oL_law_286 : OpS mL_law 286 (o_i2l 287) := s_i2l (by decide +kernel : decode cL_law 286 = .ok (.i2l, 1))
theorem oL_law_287 : OpS mL_law 287 (o_lcmp 288) := s_lcmp (by decide +kernel : decode cL_law 287 = .ok (.lcmp, 1))
theorem oL_law_288 : OpS mL_law 288 (o_if (fun x => x = 0) 293 291) := s_if_eq (by decide +kernel : decode cL_law 288 = .ok (.ifCond .eq 5, 3)) (by decide)
theorem oL_law_291 : OpS mL_law 291 (o_const (.int 0) 292) := s_iconst (by decide +kernel : decode cL_law 291 = .ok (.iconst 0, 1)) (by decide)
theorem oL_law_292 : OpS mL_law 292 (o_zret) := s_zret rfl (by decide +kernel : decode cL_law 292 = .ok (.ireturn, 1))
theorem oL_law_293 : OpS mL_law 293 (o_goto 1099) := s_goto (by decide +kernel : decode cL_law 293 = .ok (.goto 806, 3)) (by decide)
theorem oL_law_296 : OpS mL_law 296 (o_aload 1 297) := s_aload_n (by decide +kernel : decode cL_law 296 = .ok (.aload_n 1, 1)) rfl
theorem oL_law_297 : OpS mL_law 297 (o_callV mX11_teach 11 0 300) := s_callV ceX11_teach clsX11 (Or.inl wd_409) wd_410 selX11_teach (by decide +kernel : decode cL_law 297 = .ok (.invokevirtual 78, 3))
theorem oL_law_300 : OpS mL_law 300 (o_aload 2 301) := s_aload_n (by decide +kernel : decode cL_law 300 = .ok (.aload_n 2, 1)) rfl
theorem oL_law_301 : OpS mL_law 301 (o_callV mX13_teach 13 0 304) := s_callV ceX13_teach clsX13 (Or.inl wd_1329) wd_1330 selX13_teach (by decide +kernel : decode cL_law 301 = .ok (.invokevirtual 81, 3))
theorem oL_law_304 : OpS mL_law 304 (o_icmp (fun x y => x = y) 1099 307) := s_icmp_eq (by decide +kernel : decode cL_law 304 = .ok (.if_icmp .eq 795, 3)) (by decide)
theorem oL_law_307 : OpS mL_law 307 (o_const (.int 0) 308) := s_iconst (by decide +kernel : decode cL_law 307 = .ok (.iconst 0, 1)) (by decide)
theorem oL_law_308 : OpS mL_law 308 (o_zret) := s_zret rfl (by decide +kernel : decode cL_law 308 = .ok (.ireturn, 1))
theorem oL_law_309 : OpS mL_law 309 (o_aload 1 310) := s_aload_n (by decide +kernel : decode cL_law 309 = .ok (.aload_n 1, 1)) rfl
theorem oL_law_310 : OpS mL_law 310 (o_callV mX11_errorAt 11 0 313) := s_callV ceX11_errorAt clsX11 (Or.inl wd_713) wd_714 selX11_errorAt (by decide +kernel : decode cL_law 310 = .ok (.invokevirtual 82, 3))
theorem oL_law_313 : OpS mL_law 313 (o_aload 2 314) := s_aload_n (by decide +kernel : decode cL_law 313 = .ok (.aload_n 2, 1)) rfl
theorem oL_law_314 : OpS mL_law 314 (o_callV mX13_errorAt 13 0 317) := s_callV ceX13_errorAt clsX13 (Or.inl wd_1485) wd_1486 selX13_errorAt (by decide +kernel : decode cL_law 314 = .ok (.invokevirtual 85, 3))
theorem oL_law_317 : OpS mL_law 317 (o_icmp (fun x y => x = y) 1099 320) := s_icmp_eq (by decide +kernel : decode cL_law 317 = .ok (.if_icmp .eq 782, 3)) (by decide)
theorem oL_law_320 : OpS mL_law 320 (o_const (.int 0) 321) := s_iconst (by decide +kernel : decode cL_law 320 = .ok (.iconst 0, 1)) (by decide)
theorem oL_law_321 : OpS mL_law 321 (o_zret) := s_zret rfl (by decide +kernel : decode cL_law 321 = .ok (.ireturn, 1))
theorem oL_law_322 : OpS mL_law 322 (o_aload 1 323) := s_aload_n (by decide +kernel : decode cL_law 322 = .ok (.aload_n 1, 1)) rfl
theorem oL_law_323 : OpS mL_law 323 (o_aload 0 324) := s_aload_n (by decide +kernel : decode cL_law 323 = .ok (.aload_n 0, 1)) rfl
theorem oL_law_324 : OpS mL_law 324 (o_iload 4 326) := s_iload (by decide +kernel : decode cL_law 324 = .ok (.iload 4, 2))
theorem oL_law_326 : OpS mL_law 326 (o_const (.int 1) 327) := s_iconst (by decide +kernel : decode cL_law 326 = .ok (.iconst 1, 1)) (by decide)
theorem oL_law_327 : OpS mL_law 327 (o_ibin (fun x y => x + y) 328) := s_iadd (by decide +kernel : decode cL_law 327 = .ok (.iadd, 1))
theorem oL_law_328 : OpS mL_law 328 (o_sald 329) := s_sald (by decide +kernel : decode cL_law 328 = .ok (.iaload, 1))
theorem oL_law_329 : OpS mL_law 329 (o_aload 3 330) := s_aload_n (by decide +kernel : decode cL_law 329 = .ok (.aload_n 3, 1)) rfl
theorem oL_law_330 : OpS mL_law 330 (o_callS mL_count 3 333) := s_callSH (y := mL_count) (by decide) wd_0 (by decide) (by decide +kernel) wd_985 wd_986 (by decide +kernel : decode cL_law 330 = .ok (.invokestatic 86, 3))
theorem oL_law_333 : OpS mL_law 333 (o_istore 5 9 335) := s_istore (by decide +kernel : decode cL_law 333 = .ok (.istore 5, 2)) rfl
theorem oL_law_335 : OpS mL_law 335 (o_aload 2 336) := s_aload_n (by decide +kernel : decode cL_law 335 = .ok (.aload_n 2, 1)) rfl
theorem oL_law_336 : OpS mL_law 336 (o_aload 0 337) := s_aload_n (by decide +kernel : decode cL_law 336 = .ok (.aload_n 0, 1)) rfl
theorem oL_law_337 : OpS mL_law 337 (o_iload 4 339) := s_iload (by decide +kernel : decode cL_law 337 = .ok (.iload 4, 2))
theorem oL_law_339 : OpS mL_law 339 (o_const (.int 1) 340) := s_iconst (by decide +kernel : decode cL_law 339 = .ok (.iconst 1, 1)) (by decide)
theorem oL_law_340 : OpS mL_law 340 (o_ibin (fun x y => x + y) 341) := s_iadd (by decide +kernel : decode cL_law 340 = .ok (.iadd, 1))
theorem oL_law_341 : OpS mL_law 341 (o_sald 342) := s_sald (by decide +kernel : decode cL_law 341 = .ok (.iaload, 1))
theorem oL_law_342 : OpS mL_law 342 (o_callV mX13_count 13 1 345) := s_callV ceX13_count clsX13 (Or.inl wd_1561) wd_1562 selX13_count (by decide +kernel : decode cL_law 342 = .ok (.invokevirtual 88, 3))
theorem oL_law_345 : OpS mL_law 345 (o_istore 6 9 347) := s_istore (by decide +kernel : decode cL_law 345 = .ok (.istore 6, 2)) rfl
theorem oL_law_347 : OpS mL_law 347 (o_aload 2 348) := s_aload_n (by decide +kernel : decode cL_law 347 = .ok (.aload_n 2, 1)) rfl
theorem oL_law_348 : OpS mL_law 348 (o_callV mX13_thrown 13 0 351) := s_callV ceX13_thrown clsX13 (Or.inl wd_1141) wd_1142 selX13_thrown (by decide +kernel : decode cL_law 348 = .ok (.invokevirtual 71, 3))
theorem oL_law_351 : OpS mL_law 351 (o_iload 5 353) := s_iload (by decide +kernel : decode cL_law 351 = .ok (.iload 5, 2))
theorem oL_law_353 : OpS mL_law 353 (o_icmp (fun x y => x = y) 358 356) := s_icmp_eq (by decide +kernel : decode cL_law 353 = .ok (.if_icmp .eq 5, 3)) (by decide)
theorem oL_law_356 : OpS mL_law 356 (o_const (.int 0) 357) := s_iconst (by decide +kernel : decode cL_law 356 = .ok (.iconst 0, 1)) (by decide)
theorem oL_law_357 : OpS mL_law 357 (o_zret) := s_zret rfl (by decide +kernel : decode cL_law 357 = .ok (.ireturn, 1))
theorem oL_law_358 : OpS mL_law 358 (o_iload 5 360) := s_iload (by decide +kernel : decode cL_law 358 = .ok (.iload 5, 2))
theorem oL_law_360 : OpS mL_law 360 (o_if (fun x => x = 0) 363 375) := s_if_ne (by decide +kernel : decode cL_law 360 = .ok (.ifCond .ne 15, 3)) (by decide)
theorem oL_law_363 : OpS mL_law 363 (o_aload 3 364) := s_aload_n (by decide +kernel : decode cL_law 363 = .ok (.aload_n 3, 1)) rfl
theorem oL_law_364 : OpS mL_law 364 (o_const (.int 0) 365) := s_iconst (by decide +kernel : decode cL_law 364 = .ok (.iconst 0, 1)) (by decide)
theorem oL_law_365 : OpS mL_law 365 (o_lald 366) := s_lald (by decide +kernel : decode cL_law 365 = .ok (.laload, 1))
theorem oL_law_366 : OpS mL_law 366 (o_iload 6 368) := s_iload (by decide +kernel : decode cL_law 366 = .ok (.iload 6, 2))
theorem oL_law_368 : OpS mL_law 368 (o_i2l 369) := s_i2l (by decide +kernel : decode cL_law 368 = .ok (.i2l, 1))
theorem oL_law_369 : OpS mL_law 369 (o_lcmp 370) := s_lcmp (by decide +kernel : decode cL_law 369 = .ok (.lcmp, 1))
theorem oL_law_370 : OpS mL_law 370 (o_if (fun x => x = 0) 375 373) := s_if_eq (by decide +kernel : decode cL_law 370 = .ok (.ifCond .eq 5, 3)) (by decide)
theorem oL_law_373 : OpS mL_law 373 (o_const (.int 0) 374) := s_iconst (by decide +kernel : decode cL_law 373 = .ok (.iconst 0, 1)) (by decide)
theorem oL_law_374 : OpS mL_law 374 (o_zret) := s_zret rfl (by decide +kernel : decode cL_law 374 = .ok (.ireturn, 1))
theorem oL_law_375 : OpS mL_law 375 (o_goto 1099) := s_goto (by decide +kernel : decode cL_law 375 = .ok (.goto 724, 3)) (by decide)
theorem oL_law_378 : OpS mL_law 378 (o_aload 1 379) := s_aload_n (by decide +kernel : decode cL_law 378 = .ok (.aload_n 1, 1)) rfl
theorem oL_law_379 : OpS mL_law 379 (o_aload 0 380) := s_aload_n (by decide +kernel : decode cL_law 379 = .ok (.aload_n 0, 1)) rfl
theorem oL_law_380 : OpS mL_law 380 (o_iload 4 382) := s_iload (by decide +kernel : decode cL_law 380 = .ok (.iload 4, 2))
theorem oL_law_382 : OpS mL_law 382 (o_const (.int 1) 383) := s_iconst (by decide +kernel : decode cL_law 382 = .ok (.iconst 1, 1)) (by decide)
theorem oL_law_383 : OpS mL_law 383 (o_ibin (fun x y => x + y) 384) := s_iadd (by decide +kernel : decode cL_law 383 = .ok (.iadd, 1))
theorem oL_law_384 : OpS mL_law 384 (o_sald 385) := s_sald (by decide +kernel : decode cL_law 384 = .ok (.iaload, 1))
theorem oL_law_385 : OpS mL_law 385 (o_aload 3 386) := s_aload_n (by decide +kernel : decode cL_law 385 = .ok (.aload_n 3, 1)) rfl
theorem oL_law_386 : OpS mL_law 386 (o_callS mL_type 3 389) := s_callSH (y := mL_type) (by decide) wd_0 (by decide) (by decide +kernel) wd_1009 wd_1010 (by decide +kernel : decode cL_law 386 = .ok (.invokestatic 89, 3))
theorem oL_law_389 : OpS mL_law 389 (o_istore 5 9 391) := s_istore (by decide +kernel : decode cL_law 389 = .ok (.istore 5, 2)) rfl
theorem oL_law_391 : OpS mL_law 391 (o_aload 2 392) := s_aload_n (by decide +kernel : decode cL_law 391 = .ok (.aload_n 2, 1)) rfl
theorem oL_law_392 : OpS mL_law 392 (o_aload 0 393) := s_aload_n (by decide +kernel : decode cL_law 392 = .ok (.aload_n 0, 1)) rfl
theorem oL_law_393 : OpS mL_law 393 (o_iload 4 395) := s_iload (by decide +kernel : decode cL_law 393 = .ok (.iload 4, 2))
theorem oL_law_395 : OpS mL_law 395 (o_const (.int 1) 396) := s_iconst (by decide +kernel : decode cL_law 395 = .ok (.iconst 1, 1)) (by decide)
theorem oL_law_396 : OpS mL_law 396 (o_ibin (fun x y => x + y) 397) := s_iadd (by decide +kernel : decode cL_law 396 = .ok (.iadd, 1))
theorem oL_law_397 : OpS mL_law 397 (o_sald 398) := s_sald (by decide +kernel : decode cL_law 397 = .ok (.iaload, 1))
theorem oL_law_398 : OpS mL_law 398 (o_callV mX13_type 13 1 401) := s_callV ceX13_type clsX13 (Or.inl wd_1489) wd_1490 selX13_type (by decide +kernel : decode cL_law 398 = .ok (.invokevirtual 91, 3))
theorem oL_law_401 : OpS mL_law 401 (o_istore 6 9 403) := s_istore (by decide +kernel : decode cL_law 401 = .ok (.istore 6, 2)) rfl
theorem oL_law_403 : OpS mL_law 403 (o_aload 2 404) := s_aload_n (by decide +kernel : decode cL_law 403 = .ok (.aload_n 2, 1)) rfl
theorem oL_law_404 : OpS mL_law 404 (o_callV mX13_thrown 13 0 407) := s_callV ceX13_thrown clsX13 (Or.inl wd_1141) wd_1142 selX13_thrown (by decide +kernel : decode cL_law 404 = .ok (.invokevirtual 71, 3))
theorem oL_law_407 : OpS mL_law 407 (o_iload 5 409) := s_iload (by decide +kernel : decode cL_law 407 = .ok (.iload 5, 2))
theorem oL_law_409 : OpS mL_law 409 (o_icmp (fun x y => x = y) 414 412) := s_icmp_eq (by decide +kernel : decode cL_law 409 = .ok (.if_icmp .eq 5, 3)) (by decide)
theorem oL_law_412 : OpS mL_law 412 (o_const (.int 0) 413) := s_iconst (by decide +kernel : decode cL_law 412 = .ok (.iconst 0, 1)) (by decide)
theorem oL_law_413 : OpS mL_law 413 (o_zret) := s_zret rfl (by decide +kernel : decode cL_law 413 = .ok (.ireturn, 1))
theorem oL_law_414 : OpS mL_law 414 (o_iload 5 416) := s_iload (by decide +kernel : decode cL_law 414 = .ok (.iload 5, 2))
theorem oL_law_416 : OpS mL_law 416 (o_if (fun x => x = 0) 419 431) := s_if_ne (by decide +kernel : decode cL_law 416 = .ok (.ifCond .ne 15, 3)) (by decide)
theorem oL_law_419 : OpS mL_law 419 (o_aload 3 420) := s_aload_n (by decide +kernel : decode cL_law 419 = .ok (.aload_n 3, 1)) rfl
theorem oL_law_420 : OpS mL_law 420 (o_const (.int 0) 421) := s_iconst (by decide +kernel : decode cL_law 420 = .ok (.iconst 0, 1)) (by decide)
theorem oL_law_421 : OpS mL_law 421 (o_lald 422) := s_lald (by decide +kernel : decode cL_law 421 = .ok (.laload, 1))
theorem oL_law_422 : OpS mL_law 422 (o_iload 6 424) := s_iload (by decide +kernel : decode cL_law 422 = .ok (.iload 6, 2))
theorem oL_law_424 : OpS mL_law 424 (o_i2l 425) := s_i2l (by decide +kernel : decode cL_law 424 = .ok (.i2l, 1))
theorem oL_law_425 : OpS mL_law 425 (o_lcmp 426) := s_lcmp (by decide +kernel : decode cL_law 425 = .ok (.lcmp, 1))
theorem oL_law_426 : OpS mL_law 426 (o_if (fun x => x = 0) 431 429) := s_if_eq (by decide +kernel : decode cL_law 426 = .ok (.ifCond .eq 5, 3)) (by decide)
theorem oL_law_429 : OpS mL_law 429 (o_const (.int 0) 430) := s_iconst (by decide +kernel : decode cL_law 429 = .ok (.iconst 0, 1)) (by decide)
theorem oL_law_430 : OpS mL_law 430 (o_zret) := s_zret rfl (by decide +kernel : decode cL_law 430 = .ok (.ireturn, 1))
theorem oL_law_431 : OpS mL_law 431 (o_goto 1099) := s_goto (by decide +kernel : decode cL_law 431 = .ok (.goto 668, 3)) (by decide)
theorem oL_law_434 : OpS mL_law 434 (o_aload 1 435) := s_aload_n (by decide +kernel : decode cL_law 434 = .ok (.aload_n 1, 1)) rfl
theorem oL_law_435 : OpS mL_law 435 (o_aload 3 436) := s_aload_n (by decide +kernel : decode cL_law 435 = .ok (.aload_n 3, 1)) rfl
theorem oL_law_436 : OpS mL_law 436 (o_callS mL_back 2 439) := s_callSH (y := mL_back) (by decide) wd_0 (by decide) (by decide +kernel) wd_1020 wd_1021 (by decide +kernel : decode cL_law 436 = .ok (.invokestatic 92, 3))
theorem oL_law_439 : OpS mL_law 439 (o_istore 5 9 441) := s_istore (by decide +kernel : decode cL_law 439 = .ok (.istore 5, 2)) rfl
theorem oL_law_441 : OpS mL_law 441 (o_aload 2 442) := s_aload_n (by decide +kernel : decode cL_law 441 = .ok (.aload_n 2, 1)) rfl
theorem oL_law_442 : OpS mL_law 442 (o_callV mX13_back 13 0 445) := s_callV ceX13_back clsX13 (Or.inl wd_1493) wd_1494 selX13_back (by decide +kernel : decode cL_law 442 = .ok (.invokevirtual 95, 3))
theorem oL_law_445 : OpS mL_law 445 (o_istore 6 9 447) := s_istore (by decide +kernel : decode cL_law 445 = .ok (.istore 6, 2)) rfl
theorem oL_law_447 : OpS mL_law 447 (o_aload 2 448) := s_aload_n (by decide +kernel : decode cL_law 447 = .ok (.aload_n 2, 1)) rfl
theorem oL_law_448 : OpS mL_law 448 (o_callV mX13_thrown 13 0 451) := s_callV ceX13_thrown clsX13 (Or.inl wd_1141) wd_1142 selX13_thrown (by decide +kernel : decode cL_law 448 = .ok (.invokevirtual 71, 3))
theorem oL_law_451 : OpS mL_law 451 (o_iload 5 453) := s_iload (by decide +kernel : decode cL_law 451 = .ok (.iload 5, 2))
theorem oL_law_453 : OpS mL_law 453 (o_icmp (fun x y => x = y) 458 456) := s_icmp_eq (by decide +kernel : decode cL_law 453 = .ok (.if_icmp .eq 5, 3)) (by decide)
theorem oL_law_456 : OpS mL_law 456 (o_const (.int 0) 457) := s_iconst (by decide +kernel : decode cL_law 456 = .ok (.iconst 0, 1)) (by decide)
theorem oL_law_457 : OpS mL_law 457 (o_zret) := s_zret rfl (by decide +kernel : decode cL_law 457 = .ok (.ireturn, 1))
theorem oL_law_458 : OpS mL_law 458 (o_iload 5 460) := s_iload (by decide +kernel : decode cL_law 458 = .ok (.iload 5, 2))
theorem oL_law_460 : OpS mL_law 460 (o_if (fun x => x = 0) 463 475) := s_if_ne (by decide +kernel : decode cL_law 460 = .ok (.ifCond .ne 15, 3)) (by decide)
theorem oL_law_463 : OpS mL_law 463 (o_aload 3 464) := s_aload_n (by decide +kernel : decode cL_law 463 = .ok (.aload_n 3, 1)) rfl
theorem oL_law_464 : OpS mL_law 464 (o_const (.int 0) 465) := s_iconst (by decide +kernel : decode cL_law 464 = .ok (.iconst 0, 1)) (by decide)
theorem oL_law_465 : OpS mL_law 465 (o_lald 466) := s_lald (by decide +kernel : decode cL_law 465 = .ok (.laload, 1))
theorem oL_law_466 : OpS mL_law 466 (o_iload 6 468) := s_iload (by decide +kernel : decode cL_law 466 = .ok (.iload 6, 2))
theorem oL_law_468 : OpS mL_law 468 (o_i2l 469) := s_i2l (by decide +kernel : decode cL_law 468 = .ok (.i2l, 1))
theorem oL_law_469 : OpS mL_law 469 (o_lcmp 470) := s_lcmp (by decide +kernel : decode cL_law 469 = .ok (.lcmp, 1))
theorem oL_law_470 : OpS mL_law 470 (o_if (fun x => x = 0) 475 473) := s_if_eq (by decide +kernel : decode cL_law 470 = .ok (.ifCond .eq 5, 3)) (by decide)
theorem oL_law_473 : OpS mL_law 473 (o_const (.int 0) 474) := s_iconst (by decide +kernel : decode cL_law 473 = .ok (.iconst 0, 1)) (by decide)
theorem oL_law_474 : OpS mL_law 474 (o_zret) := s_zret rfl (by decide +kernel : decode cL_law 474 = .ok (.ireturn, 1))
theorem oL_law_475 : OpS mL_law 475 (o_goto 1099) := s_goto (by decide +kernel : decode cL_law 475 = .ok (.goto 624, 3)) (by decide)
theorem oL_law_478 : OpS mL_law 478 (o_aload 1 479) := s_aload_n (by decide +kernel : decode cL_law 478 = .ok (.aload_n 1, 1)) rfl
theorem oL_law_479 : OpS mL_law 479 (o_aload 0 480) := s_aload_n (by decide +kernel : decode cL_law 479 = .ok (.aload_n 0, 1)) rfl
theorem oL_law_480 : OpS mL_law 480 (o_iload 4 482) := s_iload (by decide +kernel : decode cL_law 480 = .ok (.iload 4, 2))
theorem oL_law_482 : OpS mL_law 482 (o_const (.int 1) 483) := s_iconst (by decide +kernel : decode cL_law 482 = .ok (.iconst 1, 1)) (by decide)
theorem oL_law_483 : OpS mL_law 483 (o_ibin (fun x y => x + y) 484) := s_iadd (by decide +kernel : decode cL_law 483 = .ok (.iadd, 1))
theorem oL_law_484 : OpS mL_law 484 (o_sald 485) := s_sald (by decide +kernel : decode cL_law 484 = .ok (.iaload, 1))
theorem oL_law_485 : OpS mL_law 485 (o_aload 3 486) := s_aload_n (by decide +kernel : decode cL_law 485 = .ok (.aload_n 3, 1)) rfl
theorem oL_law_486 : OpS mL_law 486 (o_callS mL_take 3 489) := s_callSH (y := mL_take) (by decide) wd_0 (by decide) (by decide +kernel) wd_1029 wd_1030 (by decide +kernel : decode cL_law 486 = .ok (.invokestatic 96, 3))
theorem oL_law_489 : OpS mL_law 489 (o_istore 5 9 491) := s_istore (by decide +kernel : decode cL_law 489 = .ok (.istore 5, 2)) rfl
theorem oL_law_491 : OpS mL_law 491 (o_aload 2 492) := s_aload_n (by decide +kernel : decode cL_law 491 = .ok (.aload_n 2, 1)) rfl
theorem oL_law_492 : OpS mL_law 492 (o_aload 0 493) := s_aload_n (by decide +kernel : decode cL_law 492 = .ok (.aload_n 0, 1)) rfl
theorem oL_law_493 : OpS mL_law 493 (o_iload 4 495) := s_iload (by decide +kernel : decode cL_law 493 = .ok (.iload 4, 2))
theorem oL_law_495 : OpS mL_law 495 (o_const (.int 1) 496) := s_iconst (by decide +kernel : decode cL_law 495 = .ok (.iconst 1, 1)) (by decide)
theorem oL_law_496 : OpS mL_law 496 (o_ibin (fun x y => x + y) 497) := s_iadd (by decide +kernel : decode cL_law 496 = .ok (.iadd, 1))
theorem oL_law_497 : OpS mL_law 497 (o_sald 498) := s_sald (by decide +kernel : decode cL_law 497 = .ok (.iaload, 1))
theorem oL_law_498 : OpS mL_law 498 (o_callV mX13_take_ 13 1 501) := s_callV ceX13_take_ clsX13 (Or.inl wd_1497) wd_1498 selX13_take_ (by decide +kernel : decode cL_law 498 = .ok (.invokevirtual 98, 3))
theorem oL_law_501 : OpS mL_law 501 (o_istore 6 9 503) := s_istore (by decide +kernel : decode cL_law 501 = .ok (.istore 6, 2)) rfl
theorem oL_law_503 : OpS mL_law 503 (o_aload 2 504) := s_aload_n (by decide +kernel : decode cL_law 503 = .ok (.aload_n 2, 1)) rfl
theorem oL_law_504 : OpS mL_law 504 (o_callV mX13_thrown 13 0 507) := s_callV ceX13_thrown clsX13 (Or.inl wd_1141) wd_1142 selX13_thrown (by decide +kernel : decode cL_law 504 = .ok (.invokevirtual 71, 3))
theorem oL_law_507 : OpS mL_law 507 (o_iload 5 509) := s_iload (by decide +kernel : decode cL_law 507 = .ok (.iload 5, 2))
theorem oL_law_509 : OpS mL_law 509 (o_icmp (fun x y => x = y) 514 512) := s_icmp_eq (by decide +kernel : decode cL_law 509 = .ok (.if_icmp .eq 5, 3)) (by decide)
theorem oL_law_512 : OpS mL_law 512 (o_const (.int 0) 513) := s_iconst (by decide +kernel : decode cL_law 512 = .ok (.iconst 0, 1)) (by decide)
theorem oL_law_513 : OpS mL_law 513 (o_zret) := s_zret rfl (by decide +kernel : decode cL_law 513 = .ok (.ireturn, 1))
theorem oL_law_514 : OpS mL_law 514 (o_iload 5 516) := s_iload (by decide +kernel : decode cL_law 514 = .ok (.iload 5, 2))
theorem oL_law_516 : OpS mL_law 516 (o_if (fun x => x = 0) 519 531) := s_if_ne (by decide +kernel : decode cL_law 516 = .ok (.ifCond .ne 15, 3)) (by decide)
theorem oL_law_519 : OpS mL_law 519 (o_aload 3 520) := s_aload_n (by decide +kernel : decode cL_law 519 = .ok (.aload_n 3, 1)) rfl
theorem oL_law_520 : OpS mL_law 520 (o_const (.int 0) 521) := s_iconst (by decide +kernel : decode cL_law 520 = .ok (.iconst 0, 1)) (by decide)
theorem oL_law_521 : OpS mL_law 521 (o_lald 522) := s_lald (by decide +kernel : decode cL_law 521 = .ok (.laload, 1))
theorem oL_law_522 : OpS mL_law 522 (o_iload 6 524) := s_iload (by decide +kernel : decode cL_law 522 = .ok (.iload 6, 2))
theorem oL_law_524 : OpS mL_law 524 (o_i2l 525) := s_i2l (by decide +kernel : decode cL_law 524 = .ok (.i2l, 1))
theorem oL_law_525 : OpS mL_law 525 (o_lcmp 526) := s_lcmp (by decide +kernel : decode cL_law 525 = .ok (.lcmp, 1))
theorem oL_law_526 : OpS mL_law 526 (o_if (fun x => x = 0) 531 529) := s_if_eq (by decide +kernel : decode cL_law 526 = .ok (.ifCond .eq 5, 3)) (by decide)
theorem oL_law_529 : OpS mL_law 529 (o_const (.int 0) 530) := s_iconst (by decide +kernel : decode cL_law 529 = .ok (.iconst 0, 1)) (by decide)
theorem oL_law_530 : OpS mL_law 530 (o_zret) := s_zret rfl (by decide +kernel : decode cL_law 530 = .ok (.ireturn, 1))
theorem oL_law_531 : OpS mL_law 531 (o_goto 1099) := s_goto (by decide +kernel : decode cL_law 531 = .ok (.goto 568, 3)) (by decide)
theorem oL_law_534 : OpS mL_law 534 (o_aload 1 535) := s_aload_n (by decide +kernel : decode cL_law 534 = .ok (.aload_n 1, 1)) rfl
theorem oL_law_535 : OpS mL_law 535 (o_aload 3 536) := s_aload_n (by decide +kernel : decode cL_law 535 = .ok (.aload_n 3, 1)) rfl
theorem oL_law_536 : OpS mL_law 536 (o_callS mL_say 2 539) := s_callSH (y := mL_say) (by decide) wd_0 (by decide) (by decide +kernel) wd_1049 wd_1050 (by decide +kernel : decode cL_law 536 = .ok (.invokestatic 99, 3))
theorem oL_law_539 : OpS mL_law 539 (o_istore 5 9 541) := s_istore (by decide +kernel : decode cL_law 539 = .ok (.istore 5, 2)) rfl
theorem oL_law_541 : OpS mL_law 541 (o_aload 2 542) := s_aload_n (by decide +kernel : decode cL_law 541 = .ok (.aload_n 2, 1)) rfl
theorem oL_law_542 : OpS mL_law 542 (o_callV mX13_say 13 0 545) := s_callV ceX13_say clsX13 (Or.inl wd_1549) wd_1550 selX13_say (by decide +kernel : decode cL_law 542 = .ok (.invokevirtual 101, 3))
theorem oL_law_545 : OpS mL_law 545 (o_istore 6 9 547) := s_istore (by decide +kernel : decode cL_law 545 = .ok (.istore 6, 2)) rfl
theorem oL_law_547 : OpS mL_law 547 (o_aload 2 548) := s_aload_n (by decide +kernel : decode cL_law 547 = .ok (.aload_n 2, 1)) rfl
theorem oL_law_548 : OpS mL_law 548 (o_callV mX13_thrown 13 0 551) := s_callV ceX13_thrown clsX13 (Or.inl wd_1141) wd_1142 selX13_thrown (by decide +kernel : decode cL_law 548 = .ok (.invokevirtual 71, 3))
theorem oL_law_551 : OpS mL_law 551 (o_iload 5 553) := s_iload (by decide +kernel : decode cL_law 551 = .ok (.iload 5, 2))
theorem oL_law_553 : OpS mL_law 553 (o_icmp (fun x y => x = y) 558 556) := s_icmp_eq (by decide +kernel : decode cL_law 553 = .ok (.if_icmp .eq 5, 3)) (by decide)
theorem oL_law_556 : OpS mL_law 556 (o_const (.int 0) 557) := s_iconst (by decide +kernel : decode cL_law 556 = .ok (.iconst 0, 1)) (by decide)
theorem oL_law_557 : OpS mL_law 557 (o_zret) := s_zret rfl (by decide +kernel : decode cL_law 557 = .ok (.ireturn, 1))
theorem oL_law_558 : OpS mL_law 558 (o_iload 5 560) := s_iload (by decide +kernel : decode cL_law 558 = .ok (.iload 5, 2))
theorem oL_law_560 : OpS mL_law 560 (o_if (fun x => x = 0) 563 575) := s_if_ne (by decide +kernel : decode cL_law 560 = .ok (.ifCond .ne 15, 3)) (by decide)
theorem oL_law_563 : OpS mL_law 563 (o_aload 3 564) := s_aload_n (by decide +kernel : decode cL_law 563 = .ok (.aload_n 3, 1)) rfl
theorem oL_law_564 : OpS mL_law 564 (o_const (.int 0) 565) := s_iconst (by decide +kernel : decode cL_law 564 = .ok (.iconst 0, 1)) (by decide)
theorem oL_law_565 : OpS mL_law 565 (o_lald 566) := s_lald (by decide +kernel : decode cL_law 565 = .ok (.laload, 1))
theorem oL_law_566 : OpS mL_law 566 (o_iload 6 568) := s_iload (by decide +kernel : decode cL_law 566 = .ok (.iload 6, 2))
theorem oL_law_568 : OpS mL_law 568 (o_i2l 569) := s_i2l (by decide +kernel : decode cL_law 568 = .ok (.i2l, 1))
theorem oL_law_569 : OpS mL_law 569 (o_lcmp 570) := s_lcmp (by decide +kernel : decode cL_law 569 = .ok (.lcmp, 1))
theorem oL_law_570 : OpS mL_law 570 (o_if (fun x => x = 0) 575 573) := s_if_eq (by decide +kernel : decode cL_law 570 = .ok (.ifCond .eq 5, 3)) (by decide)
theorem oL_law_573 : OpS mL_law 573 (o_const (.int 0) 574) := s_iconst (by decide +kernel : decode cL_law 573 = .ok (.iconst 0, 1)) (by decide)
theorem oL_law_574 : OpS mL_law 574 (o_zret) := s_zret rfl (by decide +kernel : decode cL_law 574 = .ok (.ireturn, 1))
theorem oL_law_575 : OpS mL_law 575 (o_goto 1099) := s_goto (by decide +kernel : decode cL_law 575 = .ok (.goto 524, 3)) (by decide)
theorem oL_law_578 : OpS mL_law 578 (o_aload 1 579) := s_aload_n (by decide +kernel : decode cL_law 578 = .ok (.aload_n 1, 1)) rfl
theorem oL_law_579 : OpS mL_law 579 (o_aload 0 580) := s_aload_n (by decide +kernel : decode cL_law 579 = .ok (.aload_n 0, 1)) rfl
theorem oL_law_580 : OpS mL_law 580 (o_iload 4 582) := s_iload (by decide +kernel : decode cL_law 580 = .ok (.iload 4, 2))
theorem oL_law_582 : OpS mL_law 582 (o_const (.int 1) 583) := s_iconst (by decide +kernel : decode cL_law 582 = .ok (.iconst 1, 1)) (by decide)
theorem oL_law_583 : OpS mL_law 583 (o_ibin (fun x y => x + y) 584) := s_iadd (by decide +kernel : decode cL_law 583 = .ok (.iadd, 1))
theorem oL_law_584 : OpS mL_law 584 (o_sald 585) := s_sald (by decide +kernel : decode cL_law 584 = .ok (.iaload, 1))
theorem oL_law_585 : OpS mL_law 585 (o_aload 3 586) := s_aload_n (by decide +kernel : decode cL_law 585 = .ok (.aload_n 3, 1)) rfl
theorem oL_law_586 : OpS mL_law 586 (o_callS mL_setLimit 3 589) := s_callSH (y := mL_setLimit) (by decide) wd_0 (by decide) (by decide +kernel) wd_1064 wd_1065 (by decide +kernel : decode cL_law 586 = .ok (.invokestatic 102, 3))
theorem oL_law_589 : OpS mL_law 589 (o_istore 5 9 591) := s_istore (by decide +kernel : decode cL_law 589 = .ok (.istore 5, 2)) rfl
theorem oL_law_591 : OpS mL_law 591 (o_aload 2 592) := s_aload_n (by decide +kernel : decode cL_law 591 = .ok (.aload_n 2, 1)) rfl
theorem oL_law_592 : OpS mL_law 592 (o_aload 0 593) := s_aload_n (by decide +kernel : decode cL_law 592 = .ok (.aload_n 0, 1)) rfl
theorem oL_law_593 : OpS mL_law 593 (o_iload 4 595) := s_iload (by decide +kernel : decode cL_law 593 = .ok (.iload 4, 2))
theorem oL_law_595 : OpS mL_law 595 (o_const (.int 1) 596) := s_iconst (by decide +kernel : decode cL_law 595 = .ok (.iconst 1, 1)) (by decide)
theorem oL_law_596 : OpS mL_law 596 (o_ibin (fun x y => x + y) 597) := s_iadd (by decide +kernel : decode cL_law 596 = .ok (.iadd, 1))
theorem oL_law_597 : OpS mL_law 597 (o_sald 598) := s_sald (by decide +kernel : decode cL_law 597 = .ok (.iaload, 1))
theorem oL_law_598 : OpS mL_law 598 (o_callV mX13_setLimit 13 1 601) := s_callV ceX13_setLimit clsX13 (Or.inl wd_1557) wd_1558 selX13_setLimit (by decide +kernel : decode cL_law 598 = .ok (.invokevirtual 104, 3))
theorem oL_law_601 : OpS mL_law 601 (o_istore 6 9 603) := s_istore (by decide +kernel : decode cL_law 601 = .ok (.istore 6, 2)) rfl
theorem oL_law_603 : OpS mL_law 603 (o_aload 2 604) := s_aload_n (by decide +kernel : decode cL_law 603 = .ok (.aload_n 2, 1)) rfl
theorem oL_law_604 : OpS mL_law 604 (o_callV mX13_thrown 13 0 607) := s_callV ceX13_thrown clsX13 (Or.inl wd_1141) wd_1142 selX13_thrown (by decide +kernel : decode cL_law 604 = .ok (.invokevirtual 71, 3))
theorem oL_law_607 : OpS mL_law 607 (o_iload 5 609) := s_iload (by decide +kernel : decode cL_law 607 = .ok (.iload 5, 2))
theorem oL_law_609 : OpS mL_law 609 (o_icmp (fun x y => x = y) 614 612) := s_icmp_eq (by decide +kernel : decode cL_law 609 = .ok (.if_icmp .eq 5, 3)) (by decide)
theorem oL_law_612 : OpS mL_law 612 (o_const (.int 0) 613) := s_iconst (by decide +kernel : decode cL_law 612 = .ok (.iconst 0, 1)) (by decide)
theorem oL_law_613 : OpS mL_law 613 (o_zret) := s_zret rfl (by decide +kernel : decode cL_law 613 = .ok (.ireturn, 1))
theorem oL_law_614 : OpS mL_law 614 (o_iload 5 616) := s_iload (by decide +kernel : decode cL_law 614 = .ok (.iload 5, 2))
theorem oL_law_616 : OpS mL_law 616 (o_if (fun x => x = 0) 619 631) := s_if_ne (by decide +kernel : decode cL_law 616 = .ok (.ifCond .ne 15, 3)) (by decide)
theorem oL_law_619 : OpS mL_law 619 (o_aload 3 620) := s_aload_n (by decide +kernel : decode cL_law 619 = .ok (.aload_n 3, 1)) rfl
theorem oL_law_620 : OpS mL_law 620 (o_const (.int 0) 621) := s_iconst (by decide +kernel : decode cL_law 620 = .ok (.iconst 0, 1)) (by decide)
theorem oL_law_621 : OpS mL_law 621 (o_lald 622) := s_lald (by decide +kernel : decode cL_law 621 = .ok (.laload, 1))
theorem oL_law_622 : OpS mL_law 622 (o_iload 6 624) := s_iload (by decide +kernel : decode cL_law 622 = .ok (.iload 6, 2))
theorem oL_law_624 : OpS mL_law 624 (o_i2l 625) := s_i2l (by decide +kernel : decode cL_law 624 = .ok (.i2l, 1))
theorem oL_law_625 : OpS mL_law 625 (o_lcmp 626) := s_lcmp (by decide +kernel : decode cL_law 625 = .ok (.lcmp, 1))
theorem oL_law_626 : OpS mL_law 626 (o_if (fun x => x = 0) 631 629) := s_if_eq (by decide +kernel : decode cL_law 626 = .ok (.ifCond .eq 5, 3)) (by decide)
theorem oL_law_629 : OpS mL_law 629 (o_const (.int 0) 630) := s_iconst (by decide +kernel : decode cL_law 629 = .ok (.iconst 0, 1)) (by decide)
theorem oL_law_630 : OpS mL_law 630 (o_zret) := s_zret rfl (by decide +kernel : decode cL_law 630 = .ok (.ireturn, 1))
theorem oL_law_631 : OpS mL_law 631 (o_goto 1099) := s_goto (by decide +kernel : decode cL_law 631 = .ok (.goto 468, 3)) (by decide)
theorem oL_law_634 : OpS mL_law 634 (o_aload 1 635) := s_aload_n (by decide +kernel : decode cL_law 634 = .ok (.aload_n 1, 1)) rfl
theorem oL_law_635 : OpS mL_law 635 (o_aload 0 636) := s_aload_n (by decide +kernel : decode cL_law 635 = .ok (.aload_n 0, 1)) rfl
theorem oL_law_636 : OpS mL_law 636 (o_iload 4 638) := s_iload (by decide +kernel : decode cL_law 636 = .ok (.iload 4, 2))
theorem oL_law_638 : OpS mL_law 638 (o_const (.int 1) 639) := s_iconst (by decide +kernel : decode cL_law 638 = .ok (.iconst 1, 1)) (by decide)
theorem oL_law_639 : OpS mL_law 639 (o_ibin (fun x y => x + y) 640) := s_iadd (by decide +kernel : decode cL_law 639 = .ok (.iadd, 1))
theorem oL_law_640 : OpS mL_law 640 (o_sald 641) := s_sald (by decide +kernel : decode cL_law 640 = .ok (.iaload, 1))
theorem oL_law_641 : OpS mL_law 641 (o_aload 3 642) := s_aload_n (by decide +kernel : decode cL_law 641 = .ok (.aload_n 3, 1)) rfl
theorem oL_law_642 : OpS mL_law 642 (o_callS mL_offer 3 645) := s_callSH (y := mL_offer) (by decide) wd_0 (by decide) (by decide +kernel) wd_1072 wd_1073 (by decide +kernel : decode cL_law 642 = .ok (.invokestatic 105, 3))
theorem oL_law_645 : OpS mL_law 645 (o_istore 5 9 647) := s_istore (by decide +kernel : decode cL_law 645 = .ok (.istore 5, 2)) rfl
theorem oL_law_647 : OpS mL_law 647 (o_aload 2 648) := s_aload_n (by decide +kernel : decode cL_law 647 = .ok (.aload_n 2, 1)) rfl
theorem oL_law_648 : OpS mL_law 648 (o_aload 0 649) := s_aload_n (by decide +kernel : decode cL_law 648 = .ok (.aload_n 0, 1)) rfl
theorem oL_law_649 : OpS mL_law 649 (o_iload 4 651) := s_iload (by decide +kernel : decode cL_law 649 = .ok (.iload 4, 2))
theorem oL_law_651 : OpS mL_law 651 (o_const (.int 1) 652) := s_iconst (by decide +kernel : decode cL_law 651 = .ok (.iconst 1, 1)) (by decide)
theorem oL_law_652 : OpS mL_law 652 (o_ibin (fun x y => x + y) 653) := s_iadd (by decide +kernel : decode cL_law 652 = .ok (.iadd, 1))
theorem oL_law_653 : OpS mL_law 653 (o_sald 654) := s_sald (by decide +kernel : decode cL_law 653 = .ok (.iaload, 1))
theorem oL_law_654 : OpS mL_law 654 (o_callV mX13_offer 13 1 657) := s_callV ceX13_offer clsX13 (Or.inl wd_1585) wd_1586 selX13_offer (by decide +kernel : decode cL_law 654 = .ok (.invokevirtual 107, 3))
theorem oL_law_657 : OpS mL_law 657 (o_istore 6 9 659) := s_istore (by decide +kernel : decode cL_law 657 = .ok (.istore 6, 2)) rfl
theorem oL_law_659 : OpS mL_law 659 (o_aload 2 660) := s_aload_n (by decide +kernel : decode cL_law 659 = .ok (.aload_n 2, 1)) rfl
theorem oL_law_660 : OpS mL_law 660 (o_callV mX13_thrown 13 0 663) := s_callV ceX13_thrown clsX13 (Or.inl wd_1141) wd_1142 selX13_thrown (by decide +kernel : decode cL_law 660 = .ok (.invokevirtual 71, 3))
theorem oL_law_663 : OpS mL_law 663 (o_iload 5 665) := s_iload (by decide +kernel : decode cL_law 663 = .ok (.iload 5, 2))
theorem oL_law_665 : OpS mL_law 665 (o_icmp (fun x y => x = y) 670 668) := s_icmp_eq (by decide +kernel : decode cL_law 665 = .ok (.if_icmp .eq 5, 3)) (by decide)
theorem oL_law_668 : OpS mL_law 668 (o_const (.int 0) 669) := s_iconst (by decide +kernel : decode cL_law 668 = .ok (.iconst 0, 1)) (by decide)
theorem oL_law_669 : OpS mL_law 669 (o_zret) := s_zret rfl (by decide +kernel : decode cL_law 669 = .ok (.ireturn, 1))
theorem oL_law_670 : OpS mL_law 670 (o_iload 5 672) := s_iload (by decide +kernel : decode cL_law 670 = .ok (.iload 5, 2))
theorem oL_law_672 : OpS mL_law 672 (o_if (fun x => x = 0) 675 687) := s_if_ne (by decide +kernel : decode cL_law 672 = .ok (.ifCond .ne 15, 3)) (by decide)
theorem oL_law_675 : OpS mL_law 675 (o_aload 3 676) := s_aload_n (by decide +kernel : decode cL_law 675 = .ok (.aload_n 3, 1)) rfl
theorem oL_law_676 : OpS mL_law 676 (o_const (.int 0) 677) := s_iconst (by decide +kernel : decode cL_law 676 = .ok (.iconst 0, 1)) (by decide)
theorem oL_law_677 : OpS mL_law 677 (o_lald 678) := s_lald (by decide +kernel : decode cL_law 677 = .ok (.laload, 1))
theorem oL_law_678 : OpS mL_law 678 (o_iload 6 680) := s_iload (by decide +kernel : decode cL_law 678 = .ok (.iload 6, 2))
theorem oL_law_680 : OpS mL_law 680 (o_i2l 681) := s_i2l (by decide +kernel : decode cL_law 680 = .ok (.i2l, 1))
theorem oL_law_681 : OpS mL_law 681 (o_lcmp 682) := s_lcmp (by decide +kernel : decode cL_law 681 = .ok (.lcmp, 1))
theorem oL_law_682 : OpS mL_law 682 (o_if (fun x => x = 0) 687 685) := s_if_eq (by decide +kernel : decode cL_law 682 = .ok (.ifCond .eq 5, 3)) (by decide)
theorem oL_law_685 : OpS mL_law 685 (o_const (.int 0) 686) := s_iconst (by decide +kernel : decode cL_law 685 = .ok (.iconst 0, 1)) (by decide)
theorem oL_law_686 : OpS mL_law 686 (o_zret) := s_zret rfl (by decide +kernel : decode cL_law 686 = .ok (.ireturn, 1))
theorem oL_law_687 : OpS mL_law 687 (o_goto 1099) := s_goto (by decide +kernel : decode cL_law 687 = .ok (.goto 412, 3)) (by decide)
theorem oL_law_690 : OpS mL_law 690 (o_aload 1 691) := s_aload_n (by decide +kernel : decode cL_law 690 = .ok (.aload_n 1, 1)) rfl
theorem oL_law_691 : OpS mL_law 691 (o_aload 0 692) := s_aload_n (by decide +kernel : decode cL_law 691 = .ok (.aload_n 0, 1)) rfl
theorem oL_law_692 : OpS mL_law 692 (o_iload 4 694) := s_iload (by decide +kernel : decode cL_law 692 = .ok (.iload 4, 2))
theorem oL_law_694 : OpS mL_law 694 (o_const (.int 1) 695) := s_iconst (by decide +kernel : decode cL_law 694 = .ok (.iconst 1, 1)) (by decide)
theorem oL_law_695 : OpS mL_law 695 (o_ibin (fun x y => x + y) 696) := s_iadd (by decide +kernel : decode cL_law 695 = .ok (.iadd, 1))
theorem oL_law_696 : OpS mL_law 696 (o_sald 697) := s_sald (by decide +kernel : decode cL_law 696 = .ok (.iaload, 1))
theorem oL_law_697 : OpS mL_law 697 (o_aload 0 698) := s_aload_n (by decide +kernel : decode cL_law 697 = .ok (.aload_n 0, 1)) rfl
theorem oL_law_698 : OpS mL_law 698 (o_iload 4 700) := s_iload (by decide +kernel : decode cL_law 698 = .ok (.iload 4, 2))
theorem oL_law_700 : OpS mL_law 700 (o_const (.int 2) 701) := s_iconst (by decide +kernel : decode cL_law 700 = .ok (.iconst 2, 1)) (by decide)
theorem oL_law_701 : OpS mL_law 701 (o_ibin (fun x y => x + y) 702) := s_iadd (by decide +kernel : decode cL_law 701 = .ok (.iadd, 1))
theorem oL_law_702 : OpS mL_law 702 (o_sald 703) := s_sald (by decide +kernel : decode cL_law 702 = .ok (.iaload, 1))
theorem oL_law_703 : OpS mL_law 703 (o_aload 3 704) := s_aload_n (by decide +kernel : decode cL_law 703 = .ok (.aload_n 3, 1)) rfl
theorem oL_law_704 : OpS mL_law 704 (o_callS mL_word 4 707) := s_callSH (y := mL_word) (by decide) wd_0 (by decide) (by decide +kernel) wd_1079 wd_1080 (by decide +kernel : decode cL_law 704 = .ok (.invokestatic 108, 3))
theorem oL_law_707 : OpS mL_law 707 (o_istore 5 9 709) := s_istore (by decide +kernel : decode cL_law 707 = .ok (.istore 5, 2)) rfl
theorem oL_law_709 : OpS mL_law 709 (o_aload 2 710) := s_aload_n (by decide +kernel : decode cL_law 709 = .ok (.aload_n 2, 1)) rfl
theorem oL_law_710 : OpS mL_law 710 (o_aload 0 711) := s_aload_n (by decide +kernel : decode cL_law 710 = .ok (.aload_n 0, 1)) rfl
theorem oL_law_711 : OpS mL_law 711 (o_iload 4 713) := s_iload (by decide +kernel : decode cL_law 711 = .ok (.iload 4, 2))
theorem oL_law_713 : OpS mL_law 713 (o_const (.int 1) 714) := s_iconst (by decide +kernel : decode cL_law 713 = .ok (.iconst 1, 1)) (by decide)
theorem oL_law_714 : OpS mL_law 714 (o_ibin (fun x y => x + y) 715) := s_iadd (by decide +kernel : decode cL_law 714 = .ok (.iadd, 1))
theorem oL_law_715 : OpS mL_law 715 (o_sald 716) := s_sald (by decide +kernel : decode cL_law 715 = .ok (.iaload, 1))
theorem oL_law_716 : OpS mL_law 716 (o_aload 0 717) := s_aload_n (by decide +kernel : decode cL_law 716 = .ok (.aload_n 0, 1)) rfl
theorem oL_law_717 : OpS mL_law 717 (o_iload 4 719) := s_iload (by decide +kernel : decode cL_law 717 = .ok (.iload 4, 2))
theorem oL_law_719 : OpS mL_law 719 (o_const (.int 2) 720) := s_iconst (by decide +kernel : decode cL_law 719 = .ok (.iconst 2, 1)) (by decide)
theorem oL_law_720 : OpS mL_law 720 (o_ibin (fun x y => x + y) 721) := s_iadd (by decide +kernel : decode cL_law 720 = .ok (.iadd, 1))
theorem oL_law_721 : OpS mL_law 721 (o_sald 722) := s_sald (by decide +kernel : decode cL_law 721 = .ok (.iaload, 1))
theorem oL_law_722 : OpS mL_law 722 (o_callV mX13_word 13 2 725) := s_callV ceX13_word clsX13 (Or.inl wd_1589) wd_1590 selX13_word (by decide +kernel : decode cL_law 722 = .ok (.invokevirtual 111, 3))
theorem oL_law_725 : OpS mL_law 725 (o_istore 6 9 727) := s_istore (by decide +kernel : decode cL_law 725 = .ok (.istore 6, 2)) rfl
theorem oL_law_727 : OpS mL_law 727 (o_aload 2 728) := s_aload_n (by decide +kernel : decode cL_law 727 = .ok (.aload_n 2, 1)) rfl
theorem oL_law_728 : OpS mL_law 728 (o_callV mX13_thrown 13 0 731) := s_callV ceX13_thrown clsX13 (Or.inl wd_1141) wd_1142 selX13_thrown (by decide +kernel : decode cL_law 728 = .ok (.invokevirtual 71, 3))
theorem oL_law_731 : OpS mL_law 731 (o_iload 5 733) := s_iload (by decide +kernel : decode cL_law 731 = .ok (.iload 5, 2))
theorem oL_law_733 : OpS mL_law 733 (o_icmp (fun x y => x = y) 738 736) := s_icmp_eq (by decide +kernel : decode cL_law 733 = .ok (.if_icmp .eq 5, 3)) (by decide)
theorem oL_law_736 : OpS mL_law 736 (o_const (.int 0) 737) := s_iconst (by decide +kernel : decode cL_law 736 = .ok (.iconst 0, 1)) (by decide)
theorem oL_law_737 : OpS mL_law 737 (o_zret) := s_zret rfl (by decide +kernel : decode cL_law 737 = .ok (.ireturn, 1))
theorem oL_law_738 : OpS mL_law 738 (o_iload 5 740) := s_iload (by decide +kernel : decode cL_law 738 = .ok (.iload 5, 2))
theorem oL_law_740 : OpS mL_law 740 (o_if (fun x => x = 0) 743 755) := s_if_ne (by decide +kernel : decode cL_law 740 = .ok (.ifCond .ne 15, 3)) (by decide)
theorem oL_law_743 : OpS mL_law 743 (o_aload 3 744) := s_aload_n (by decide +kernel : decode cL_law 743 = .ok (.aload_n 3, 1)) rfl
theorem oL_law_744 : OpS mL_law 744 (o_const (.int 0) 745) := s_iconst (by decide +kernel : decode cL_law 744 = .ok (.iconst 0, 1)) (by decide)
theorem oL_law_745 : OpS mL_law 745 (o_lald 746) := s_lald (by decide +kernel : decode cL_law 745 = .ok (.laload, 1))
theorem oL_law_746 : OpS mL_law 746 (o_iload 6 748) := s_iload (by decide +kernel : decode cL_law 746 = .ok (.iload 6, 2))
theorem oL_law_748 : OpS mL_law 748 (o_i2l 749) := s_i2l (by decide +kernel : decode cL_law 748 = .ok (.i2l, 1))
theorem oL_law_749 : OpS mL_law 749 (o_lcmp 750) := s_lcmp (by decide +kernel : decode cL_law 749 = .ok (.lcmp, 1))
theorem oL_law_750 : OpS mL_law 750 (o_if (fun x => x = 0) 755 753) := s_if_eq (by decide +kernel : decode cL_law 750 = .ok (.ifCond .eq 5, 3)) (by decide)
theorem oL_law_753 : OpS mL_law 753 (o_const (.int 0) 754) := s_iconst (by decide +kernel : decode cL_law 753 = .ok (.iconst 0, 1)) (by decide)
theorem oL_law_754 : OpS mL_law 754 (o_zret) := s_zret rfl (by decide +kernel : decode cL_law 754 = .ok (.ireturn, 1))
theorem oL_law_755 : OpS mL_law 755 (o_goto 1099) := s_goto (by decide +kernel : decode cL_law 755 = .ok (.goto 344, 3)) (by decide)
theorem oL_law_758 : OpS mL_law 758 (o_aload 1 759) := s_aload_n (by decide +kernel : decode cL_law 758 = .ok (.aload_n 1, 1)) rfl
theorem oL_law_759 : OpS mL_law 759 (o_aload 0 760) := s_aload_n (by decide +kernel : decode cL_law 759 = .ok (.aload_n 0, 1)) rfl
theorem oL_law_760 : OpS mL_law 760 (o_iload 4 762) := s_iload (by decide +kernel : decode cL_law 760 = .ok (.iload 4, 2))
theorem oL_law_762 : OpS mL_law 762 (o_const (.int 1) 763) := s_iconst (by decide +kernel : decode cL_law 762 = .ok (.iconst 1, 1)) (by decide)
theorem oL_law_763 : OpS mL_law 763 (o_ibin (fun x y => x + y) 764) := s_iadd (by decide +kernel : decode cL_law 763 = .ok (.iadd, 1))
theorem oL_law_764 : OpS mL_law 764 (o_sald 765) := s_sald (by decide +kernel : decode cL_law 764 = .ok (.iaload, 1))
theorem oL_law_765 : OpS mL_law 765 (o_aload 0 766) := s_aload_n (by decide +kernel : decode cL_law 765 = .ok (.aload_n 0, 1)) rfl
theorem oL_law_766 : OpS mL_law 766 (o_iload 4 768) := s_iload (by decide +kernel : decode cL_law 766 = .ok (.iload 4, 2))
theorem oL_law_768 : OpS mL_law 768 (o_const (.int 2) 769) := s_iconst (by decide +kernel : decode cL_law 768 = .ok (.iconst 2, 1)) (by decide)
theorem oL_law_769 : OpS mL_law 769 (o_ibin (fun x y => x + y) 770) := s_iadd (by decide +kernel : decode cL_law 769 = .ok (.iadd, 1))
theorem oL_law_770 : OpS mL_law 770 (o_sald 771) := s_sald (by decide +kernel : decode cL_law 770 = .ok (.iaload, 1))
theorem oL_law_771 : OpS mL_law 771 (o_aload 3 772) := s_aload_n (by decide +kernel : decode cL_law 771 = .ok (.aload_n 3, 1)) rfl
theorem oL_law_772 : OpS mL_law 772 (o_callS mL_letter 4 775) := s_callSH (y := mL_letter) (by decide) wd_0 (by decide) (by decide +kernel) wd_1091 wd_1092 (by decide +kernel : decode cL_law 772 = .ok (.invokestatic 112, 3))
theorem oL_law_775 : OpS mL_law 775 (o_istore 5 9 777) := s_istore (by decide +kernel : decode cL_law 775 = .ok (.istore 5, 2)) rfl
theorem oL_law_777 : OpS mL_law 777 (o_aload 2 778) := s_aload_n (by decide +kernel : decode cL_law 777 = .ok (.aload_n 2, 1)) rfl
theorem oL_law_778 : OpS mL_law 778 (o_aload 0 779) := s_aload_n (by decide +kernel : decode cL_law 778 = .ok (.aload_n 0, 1)) rfl
theorem oL_law_779 : OpS mL_law 779 (o_iload 4 781) := s_iload (by decide +kernel : decode cL_law 779 = .ok (.iload 4, 2))
theorem oL_law_781 : OpS mL_law 781 (o_const (.int 1) 782) := s_iconst (by decide +kernel : decode cL_law 781 = .ok (.iconst 1, 1)) (by decide)
theorem oL_law_782 : OpS mL_law 782 (o_ibin (fun x y => x + y) 783) := s_iadd (by decide +kernel : decode cL_law 782 = .ok (.iadd, 1))
theorem oL_law_783 : OpS mL_law 783 (o_sald 784) := s_sald (by decide +kernel : decode cL_law 783 = .ok (.iaload, 1))
theorem oL_law_784 : OpS mL_law 784 (o_aload 0 785) := s_aload_n (by decide +kernel : decode cL_law 784 = .ok (.aload_n 0, 1)) rfl
theorem oL_law_785 : OpS mL_law 785 (o_iload 4 787) := s_iload (by decide +kernel : decode cL_law 785 = .ok (.iload 4, 2))
theorem oL_law_787 : OpS mL_law 787 (o_const (.int 2) 788) := s_iconst (by decide +kernel : decode cL_law 787 = .ok (.iconst 2, 1)) (by decide)
theorem oL_law_788 : OpS mL_law 788 (o_ibin (fun x y => x + y) 789) := s_iadd (by decide +kernel : decode cL_law 788 = .ok (.iadd, 1))
theorem oL_law_789 : OpS mL_law 789 (o_sald 790) := s_sald (by decide +kernel : decode cL_law 789 = .ok (.iaload, 1))
theorem oL_law_790 : OpS mL_law 790 (o_callV mX13_letter 13 2 793) := s_callV ceX13_letter clsX13 (Or.inl wd_1605) wd_1606 selX13_letter (by decide +kernel : decode cL_law 790 = .ok (.invokevirtual 114, 3))
theorem oL_law_793 : OpS mL_law 793 (o_istore 6 9 795) := s_istore (by decide +kernel : decode cL_law 793 = .ok (.istore 6, 2)) rfl
theorem oL_law_795 : OpS mL_law 795 (o_aload 2 796) := s_aload_n (by decide +kernel : decode cL_law 795 = .ok (.aload_n 2, 1)) rfl
theorem oL_law_796 : OpS mL_law 796 (o_callV mX13_thrown 13 0 799) := s_callV ceX13_thrown clsX13 (Or.inl wd_1141) wd_1142 selX13_thrown (by decide +kernel : decode cL_law 796 = .ok (.invokevirtual 71, 3))
theorem oL_law_799 : OpS mL_law 799 (o_iload 5 801) := s_iload (by decide +kernel : decode cL_law 799 = .ok (.iload 5, 2))
theorem oL_law_801 : OpS mL_law 801 (o_icmp (fun x y => x = y) 806 804) := s_icmp_eq (by decide +kernel : decode cL_law 801 = .ok (.if_icmp .eq 5, 3)) (by decide)
theorem oL_law_804 : OpS mL_law 804 (o_const (.int 0) 805) := s_iconst (by decide +kernel : decode cL_law 804 = .ok (.iconst 0, 1)) (by decide)
theorem oL_law_805 : OpS mL_law 805 (o_zret) := s_zret rfl (by decide +kernel : decode cL_law 805 = .ok (.ireturn, 1))
theorem oL_law_806 : OpS mL_law 806 (o_iload 5 808) := s_iload (by decide +kernel : decode cL_law 806 = .ok (.iload 5, 2))
theorem oL_law_808 : OpS mL_law 808 (o_if (fun x => x = 0) 811 823) := s_if_ne (by decide +kernel : decode cL_law 808 = .ok (.ifCond .ne 15, 3)) (by decide)
theorem oL_law_811 : OpS mL_law 811 (o_aload 3 812) := s_aload_n (by decide +kernel : decode cL_law 811 = .ok (.aload_n 3, 1)) rfl
theorem oL_law_812 : OpS mL_law 812 (o_const (.int 0) 813) := s_iconst (by decide +kernel : decode cL_law 812 = .ok (.iconst 0, 1)) (by decide)
theorem oL_law_813 : OpS mL_law 813 (o_lald 814) := s_lald (by decide +kernel : decode cL_law 813 = .ok (.laload, 1))
theorem oL_law_814 : OpS mL_law 814 (o_iload 6 816) := s_iload (by decide +kernel : decode cL_law 814 = .ok (.iload 6, 2))
theorem oL_law_816 : OpS mL_law 816 (o_i2l 817) := s_i2l (by decide +kernel : decode cL_law 816 = .ok (.i2l, 1))
theorem oL_law_817 : OpS mL_law 817 (o_lcmp 818) := s_lcmp (by decide +kernel : decode cL_law 817 = .ok (.lcmp, 1))
theorem oL_law_818 : OpS mL_law 818 (o_if (fun x => x = 0) 823 821) := s_if_eq (by decide +kernel : decode cL_law 818 = .ok (.ifCond .eq 5, 3)) (by decide)
theorem oL_law_821 : OpS mL_law 821 (o_const (.int 0) 822) := s_iconst (by decide +kernel : decode cL_law 821 = .ok (.iconst 0, 1)) (by decide)
theorem oL_law_822 : OpS mL_law 822 (o_zret) := s_zret rfl (by decide +kernel : decode cL_law 822 = .ok (.ireturn, 1))
theorem oL_law_823 : OpS mL_law 823 (o_goto 1099) := s_goto (by decide +kernel : decode cL_law 823 = .ok (.goto 276, 3)) (by decide)
theorem oL_law_826 : OpS mL_law 826 (o_aload 1 827) := s_aload_n (by decide +kernel : decode cL_law 826 = .ok (.aload_n 1, 1)) rfl
theorem oL_law_827 : OpS mL_law 827 (o_aload 0 828) := s_aload_n (by decide +kernel : decode cL_law 827 = .ok (.aload_n 0, 1)) rfl
theorem oL_law_828 : OpS mL_law 828 (o_iload 4 830) := s_iload (by decide +kernel : decode cL_law 828 = .ok (.iload 4, 2))
theorem oL_law_830 : OpS mL_law 830 (o_const (.int 1) 831) := s_iconst (by decide +kernel : decode cL_law 830 = .ok (.iconst 1, 1)) (by decide)
theorem oL_law_831 : OpS mL_law 831 (o_ibin (fun x y => x + y) 832) := s_iadd (by decide +kernel : decode cL_law 831 = .ok (.iadd, 1))
theorem oL_law_832 : OpS mL_law 832 (o_sald 833) := s_sald (by decide +kernel : decode cL_law 832 = .ok (.iaload, 1))
theorem oL_law_833 : OpS mL_law 833 (o_aload 0 834) := s_aload_n (by decide +kernel : decode cL_law 833 = .ok (.aload_n 0, 1)) rfl
theorem oL_law_834 : OpS mL_law 834 (o_iload 4 836) := s_iload (by decide +kernel : decode cL_law 834 = .ok (.iload 4, 2))
theorem oL_law_836 : OpS mL_law 836 (o_const (.int 2) 837) := s_iconst (by decide +kernel : decode cL_law 836 = .ok (.iconst 2, 1)) (by decide)
theorem oL_law_837 : OpS mL_law 837 (o_ibin (fun x y => x + y) 838) := s_iadd (by decide +kernel : decode cL_law 837 = .ok (.iadd, 1))
theorem oL_law_838 : OpS mL_law 838 (o_sald 839) := s_sald (by decide +kernel : decode cL_law 838 = .ok (.iaload, 1))
theorem oL_law_839 : OpS mL_law 839 (o_callV mX11_near 11 2 842) := s_callV ceX11_near clsX11 (Or.inl wd_717) wd_718 selX11_near (by decide +kernel : decode cL_law 839 = .ok (.invokevirtual 115, 3))
theorem oL_law_842 : OpS mL_law 842 (o_aload 2 843) := s_aload_n (by decide +kernel : decode cL_law 842 = .ok (.aload_n 2, 1)) rfl
theorem oL_law_843 : OpS mL_law 843 (o_aload 0 844) := s_aload_n (by decide +kernel : decode cL_law 843 = .ok (.aload_n 0, 1)) rfl
theorem oL_law_844 : OpS mL_law 844 (o_iload 4 846) := s_iload (by decide +kernel : decode cL_law 844 = .ok (.iload 4, 2))
theorem oL_law_846 : OpS mL_law 846 (o_const (.int 1) 847) := s_iconst (by decide +kernel : decode cL_law 846 = .ok (.iconst 1, 1)) (by decide)
theorem oL_law_847 : OpS mL_law 847 (o_ibin (fun x y => x + y) 848) := s_iadd (by decide +kernel : decode cL_law 847 = .ok (.iadd, 1))
theorem oL_law_848 : OpS mL_law 848 (o_sald 849) := s_sald (by decide +kernel : decode cL_law 848 = .ok (.iaload, 1))
theorem oL_law_849 : OpS mL_law 849 (o_aload 0 850) := s_aload_n (by decide +kernel : decode cL_law 849 = .ok (.aload_n 0, 1)) rfl
theorem oL_law_850 : OpS mL_law 850 (o_iload 4 852) := s_iload (by decide +kernel : decode cL_law 850 = .ok (.iload 4, 2))
theorem oL_law_852 : OpS mL_law 852 (o_const (.int 2) 853) := s_iconst (by decide +kernel : decode cL_law 852 = .ok (.iconst 2, 1)) (by decide)
theorem oL_law_853 : OpS mL_law 853 (o_ibin (fun x y => x + y) 854) := s_iadd (by decide +kernel : decode cL_law 853 = .ok (.iadd, 1))
theorem oL_law_854 : OpS mL_law 854 (o_sald 855) := s_sald (by decide +kernel : decode cL_law 854 = .ok (.iaload, 1))
theorem oL_law_855 : OpS mL_law 855 (o_callV mX13_near 13 2 858) := s_callV ceX13_near clsX13 (Or.inl wd_1609) wd_1610 selX13_near (by decide +kernel : decode cL_law 855 = .ok (.invokevirtual 119, 3))
theorem oL_law_858 : OpS mL_law 858 (o_icmp (fun x y => x = y) 1099 861) := s_icmp_eq (by decide +kernel : decode cL_law 858 = .ok (.if_icmp .eq 241, 3)) (by decide)
theorem oL_law_861 : OpS mL_law 861 (o_const (.int 0) 862) := s_iconst (by decide +kernel : decode cL_law 861 = .ok (.iconst 0, 1)) (by decide)
theorem oL_law_862 : OpS mL_law 862 (o_zret) := s_zret rfl (by decide +kernel : decode cL_law 862 = .ok (.ireturn, 1))
theorem oL_law_863 : OpS mL_law 863 (o_aload 1 864) := s_aload_n (by decide +kernel : decode cL_law 863 = .ok (.aload_n 1, 1)) rfl
theorem oL_law_864 : OpS mL_law 864 (o_callV mX11_best 11 0 867) := s_callV ceX11_best clsX11 (Or.inl wd_725) wd_726 selX11_best (by decide +kernel : decode cL_law 864 = .ok (.invokevirtual 120, 3))
theorem oL_law_867 : OpS mL_law 867 (o_aload 2 868) := s_aload_n (by decide +kernel : decode cL_law 867 = .ok (.aload_n 2, 1)) rfl
theorem oL_law_868 : OpS mL_law 868 (o_callV mX13_best 13 0 871) := s_callV ceX13_best clsX13 (Or.inl wd_1613) wd_1614 selX13_best (by decide +kernel : decode cL_law 868 = .ok (.invokevirtual 123, 3))
theorem oL_law_871 : OpS mL_law 871 (o_icmp (fun x y => x = y) 1099 874) := s_icmp_eq (by decide +kernel : decode cL_law 871 = .ok (.if_icmp .eq 228, 3)) (by decide)
theorem oL_law_874 : OpS mL_law 874 (o_const (.int 0) 875) := s_iconst (by decide +kernel : decode cL_law 874 = .ok (.iconst 0, 1)) (by decide)
theorem oL_law_875 : OpS mL_law 875 (o_zret) := s_zret rfl (by decide +kernel : decode cL_law 875 = .ok (.ireturn, 1))
theorem oL_law_876 : OpS mL_law 876 (o_aload 1 877) := s_aload_n (by decide +kernel : decode cL_law 876 = .ok (.aload_n 1, 1)) rfl
theorem oL_law_877 : OpS mL_law 877 (o_aload 0 878) := s_aload_n (by decide +kernel : decode cL_law 877 = .ok (.aload_n 0, 1)) rfl
theorem oL_law_878 : OpS mL_law 878 (o_iload 4 880) := s_iload (by decide +kernel : decode cL_law 878 = .ok (.iload 4, 2))
theorem oL_law_880 : OpS mL_law 880 (o_const (.int 1) 881) := s_iconst (by decide +kernel : decode cL_law 880 = .ok (.iconst 1, 1)) (by decide)
theorem oL_law_881 : OpS mL_law 881 (o_ibin (fun x y => x + y) 882) := s_iadd (by decide +kernel : decode cL_law 881 = .ok (.iadd, 1))
theorem oL_law_882 : OpS mL_law 882 (o_sald 883) := s_sald (by decide +kernel : decode cL_law 882 = .ok (.iaload, 1))
theorem oL_law_883 : OpS mL_law 883 (o_aload 3 884) := s_aload_n (by decide +kernel : decode cL_law 883 = .ok (.aload_n 3, 1)) rfl
theorem oL_law_884 : OpS mL_law 884 (o_callS mL_strokes 3 887) := s_callSH (y := mL_strokes) (by decide) wd_0 (by decide) (by decide +kernel) wd_1099 wd_1100 (by decide +kernel : decode cL_law 884 = .ok (.invokestatic 124, 3))
theorem oL_law_887 : OpS mL_law 887 (o_istore 5 9 889) := s_istore (by decide +kernel : decode cL_law 887 = .ok (.istore 5, 2)) rfl
theorem oL_law_889 : OpS mL_law 889 (o_aload 2 890) := s_aload_n (by decide +kernel : decode cL_law 889 = .ok (.aload_n 2, 1)) rfl
theorem oL_law_890 : OpS mL_law 890 (o_aload 0 891) := s_aload_n (by decide +kernel : decode cL_law 890 = .ok (.aload_n 0, 1)) rfl
theorem oL_law_891 : OpS mL_law 891 (o_iload 4 893) := s_iload (by decide +kernel : decode cL_law 891 = .ok (.iload 4, 2))
theorem oL_law_893 : OpS mL_law 893 (o_const (.int 1) 894) := s_iconst (by decide +kernel : decode cL_law 893 = .ok (.iconst 1, 1)) (by decide)
theorem oL_law_894 : OpS mL_law 894 (o_ibin (fun x y => x + y) 895) := s_iadd (by decide +kernel : decode cL_law 894 = .ok (.iadd, 1))
theorem oL_law_895 : OpS mL_law 895 (o_sald 896) := s_sald (by decide +kernel : decode cL_law 895 = .ok (.iaload, 1))
theorem oL_law_896 : OpS mL_law 896 (o_callV mX13_strokes 13 1 899) := s_callV ceX13_strokes clsX13 (Or.inl wd_1621) wd_1622 selX13_strokes (by decide +kernel : decode cL_law 896 = .ok (.invokevirtual 126, 3))
theorem oL_law_899 : OpS mL_law 899 (o_istore 6 9 901) := s_istore (by decide +kernel : decode cL_law 899 = .ok (.istore 6, 2)) rfl
theorem oL_law_901 : OpS mL_law 901 (o_aload 2 902) := s_aload_n (by decide +kernel : decode cL_law 901 = .ok (.aload_n 2, 1)) rfl
theorem oL_law_902 : OpS mL_law 902 (o_callV mX13_thrown 13 0 905) := s_callV ceX13_thrown clsX13 (Or.inl wd_1141) wd_1142 selX13_thrown (by decide +kernel : decode cL_law 902 = .ok (.invokevirtual 71, 3))
theorem oL_law_905 : OpS mL_law 905 (o_iload 5 907) := s_iload (by decide +kernel : decode cL_law 905 = .ok (.iload 5, 2))
theorem oL_law_907 : OpS mL_law 907 (o_icmp (fun x y => x = y) 912 910) := s_icmp_eq (by decide +kernel : decode cL_law 907 = .ok (.if_icmp .eq 5, 3)) (by decide)
theorem oL_law_910 : OpS mL_law 910 (o_const (.int 0) 911) := s_iconst (by decide +kernel : decode cL_law 910 = .ok (.iconst 0, 1)) (by decide)
theorem oL_law_911 : OpS mL_law 911 (o_zret) := s_zret rfl (by decide +kernel : decode cL_law 911 = .ok (.ireturn, 1))
theorem oL_law_912 : OpS mL_law 912 (o_iload 5 914) := s_iload (by decide +kernel : decode cL_law 912 = .ok (.iload 5, 2))
theorem oL_law_914 : OpS mL_law 914 (o_if (fun x => x = 0) 917 929) := s_if_ne (by decide +kernel : decode cL_law 914 = .ok (.ifCond .ne 15, 3)) (by decide)
theorem oL_law_917 : OpS mL_law 917 (o_aload 3 918) := s_aload_n (by decide +kernel : decode cL_law 917 = .ok (.aload_n 3, 1)) rfl
theorem oL_law_918 : OpS mL_law 918 (o_const (.int 0) 919) := s_iconst (by decide +kernel : decode cL_law 918 = .ok (.iconst 0, 1)) (by decide)
theorem oL_law_919 : OpS mL_law 919 (o_lald 920) := s_lald (by decide +kernel : decode cL_law 919 = .ok (.laload, 1))
theorem oL_law_920 : OpS mL_law 920 (o_iload 6 922) := s_iload (by decide +kernel : decode cL_law 920 = .ok (.iload 6, 2))
theorem oL_law_922 : OpS mL_law 922 (o_i2l 923) := s_i2l (by decide +kernel : decode cL_law 922 = .ok (.i2l, 1))
theorem oL_law_923 : OpS mL_law 923 (o_lcmp 924) := s_lcmp (by decide +kernel : decode cL_law 923 = .ok (.lcmp, 1))
theorem oL_law_924 : OpS mL_law 924 (o_if (fun x => x = 0) 929 927) := s_if_eq (by decide +kernel : decode cL_law 924 = .ok (.ifCond .eq 5, 3)) (by decide)
theorem oL_law_927 : OpS mL_law 927 (o_const (.int 0) 928) := s_iconst (by decide +kernel : decode cL_law 927 = .ok (.iconst 0, 1)) (by decide)
theorem oL_law_928 : OpS mL_law 928 (o_zret) := s_zret rfl (by decide +kernel : decode cL_law 928 = .ok (.ireturn, 1))
theorem oL_law_929 : OpS mL_law 929 (o_goto 1099) := s_goto (by decide +kernel : decode cL_law 929 = .ok (.goto 170, 3)) (by decide)
theorem oL_law_932 : OpS mL_law 932 (o_aload 1 933) := s_aload_n (by decide +kernel : decode cL_law 932 = .ok (.aload_n 1, 1)) rfl
theorem oL_law_933 : OpS mL_law 933 (o_aload 0 934) := s_aload_n (by decide +kernel : decode cL_law 933 = .ok (.aload_n 0, 1)) rfl
theorem oL_law_934 : OpS mL_law 934 (o_iload 4 936) := s_iload (by decide +kernel : decode cL_law 934 = .ok (.iload 4, 2))
theorem oL_law_936 : OpS mL_law 936 (o_const (.int 1) 937) := s_iconst (by decide +kernel : decode cL_law 936 = .ok (.iconst 1, 1)) (by decide)
theorem oL_law_937 : OpS mL_law 937 (o_ibin (fun x y => x + y) 938) := s_iadd (by decide +kernel : decode cL_law 937 = .ok (.iadd, 1))
theorem oL_law_938 : OpS mL_law 938 (o_sald 939) := s_sald (by decide +kernel : decode cL_law 938 = .ok (.iaload, 1))
theorem oL_law_939 : OpS mL_law 939 (o_aload 3 940) := s_aload_n (by decide +kernel : decode cL_law 939 = .ok (.aload_n 3, 1)) rfl
theorem oL_law_940 : OpS mL_law 940 (o_callS mL_needs 3 943) := s_callSH (y := mL_needs) (by decide) wd_0 (by decide) (by decide +kernel) wd_1115 wd_1116 (by decide +kernel : decode cL_law 940 = .ok (.invokestatic 127, 3))
theorem oL_law_943 : OpS mL_law 943 (o_istore 5 9 945) := s_istore (by decide +kernel : decode cL_law 943 = .ok (.istore 5, 2)) rfl
theorem oL_law_945 : OpS mL_law 945 (o_aload 2 946) := s_aload_n (by decide +kernel : decode cL_law 945 = .ok (.aload_n 2, 1)) rfl
theorem oL_law_946 : OpS mL_law 946 (o_aload 0 947) := s_aload_n (by decide +kernel : decode cL_law 946 = .ok (.aload_n 0, 1)) rfl
theorem oL_law_947 : OpS mL_law 947 (o_iload 4 949) := s_iload (by decide +kernel : decode cL_law 947 = .ok (.iload 4, 2))
theorem oL_law_949 : OpS mL_law 949 (o_const (.int 1) 950) := s_iconst (by decide +kernel : decode cL_law 949 = .ok (.iconst 1, 1)) (by decide)
theorem oL_law_950 : OpS mL_law 950 (o_ibin (fun x y => x + y) 951) := s_iadd (by decide +kernel : decode cL_law 950 = .ok (.iadd, 1))
theorem oL_law_951 : OpS mL_law 951 (o_sald 952) := s_sald (by decide +kernel : decode cL_law 951 = .ok (.iaload, 1))
theorem oL_law_952 : OpS mL_law 952 (o_callV mX13_needs 13 1 955) := s_callV ceX13_needs clsX13 (Or.inl wd_1640) wd_1641 selX13_needs (by decide +kernel : decode cL_law 952 = .ok (.invokevirtual 129, 3))
theorem oL_law_955 : OpS mL_law 955 (o_istore 6 9 957) := s_istore (by decide +kernel : decode cL_law 955 = .ok (.istore 6, 2)) rfl
theorem oL_law_957 : OpS mL_law 957 (o_aload 2 958) := s_aload_n (by decide +kernel : decode cL_law 957 = .ok (.aload_n 2, 1)) rfl
theorem oL_law_958 : OpS mL_law 958 (o_callV mX13_thrown 13 0 961) := s_callV ceX13_thrown clsX13 (Or.inl wd_1141) wd_1142 selX13_thrown (by decide +kernel : decode cL_law 958 = .ok (.invokevirtual 71, 3))
theorem oL_law_961 : OpS mL_law 961 (o_iload 5 963) := s_iload (by decide +kernel : decode cL_law 961 = .ok (.iload 5, 2))
theorem oL_law_963 : OpS mL_law 963 (o_icmp (fun x y => x = y) 968 966) := s_icmp_eq (by decide +kernel : decode cL_law 963 = .ok (.if_icmp .eq 5, 3)) (by decide)
theorem oL_law_966 : OpS mL_law 966 (o_const (.int 0) 967) := s_iconst (by decide +kernel : decode cL_law 966 = .ok (.iconst 0, 1)) (by decide)
theorem oL_law_967 : OpS mL_law 967 (o_zret) := s_zret rfl (by decide +kernel : decode cL_law 967 = .ok (.ireturn, 1))
theorem oL_law_968 : OpS mL_law 968 (o_iload 5 970) := s_iload (by decide +kernel : decode cL_law 968 = .ok (.iload 5, 2))
theorem oL_law_970 : OpS mL_law 970 (o_if (fun x => x = 0) 973 985) := s_if_ne (by decide +kernel : decode cL_law 970 = .ok (.ifCond .ne 15, 3)) (by decide)
theorem oL_law_973 : OpS mL_law 973 (o_aload 3 974) := s_aload_n (by decide +kernel : decode cL_law 973 = .ok (.aload_n 3, 1)) rfl
theorem oL_law_974 : OpS mL_law 974 (o_const (.int 0) 975) := s_iconst (by decide +kernel : decode cL_law 974 = .ok (.iconst 0, 1)) (by decide)
theorem oL_law_975 : OpS mL_law 975 (o_lald 976) := s_lald (by decide +kernel : decode cL_law 975 = .ok (.laload, 1))
theorem oL_law_976 : OpS mL_law 976 (o_iload 6 978) := s_iload (by decide +kernel : decode cL_law 976 = .ok (.iload 6, 2))
theorem oL_law_978 : OpS mL_law 978 (o_i2l 979) := s_i2l (by decide +kernel : decode cL_law 978 = .ok (.i2l, 1))
theorem oL_law_979 : OpS mL_law 979 (o_lcmp 980) := s_lcmp (by decide +kernel : decode cL_law 979 = .ok (.lcmp, 1))
theorem oL_law_980 : OpS mL_law 980 (o_if (fun x => x = 0) 985 983) := s_if_eq (by decide +kernel : decode cL_law 980 = .ok (.ifCond .eq 5, 3)) (by decide)
theorem oL_law_983 : OpS mL_law 983 (o_const (.int 0) 984) := s_iconst (by decide +kernel : decode cL_law 983 = .ok (.iconst 0, 1)) (by decide)
theorem oL_law_984 : OpS mL_law 984 (o_zret) := s_zret rfl (by decide +kernel : decode cL_law 984 = .ok (.ireturn, 1))
theorem oL_law_985 : OpS mL_law 985 (o_goto 1099) := s_goto (by decide +kernel : decode cL_law 985 = .ok (.goto 114, 3)) (by decide)
theorem oL_law_988 : OpS mL_law 988 (o_aload 1 989) := s_aload_n (by decide +kernel : decode cL_law 988 = .ok (.aload_n 1, 1)) rfl
theorem oL_law_989 : OpS mL_law 989 (o_aload 0 990) := s_aload_n (by decide +kernel : decode cL_law 989 = .ok (.aload_n 0, 1)) rfl
theorem oL_law_990 : OpS mL_law 990 (o_iload 4 992) := s_iload (by decide +kernel : decode cL_law 990 = .ok (.iload 4, 2))
theorem oL_law_992 : OpS mL_law 992 (o_const (.int 1) 993) := s_iconst (by decide +kernel : decode cL_law 992 = .ok (.iconst 1, 1)) (by decide)
theorem oL_law_993 : OpS mL_law 993 (o_ibin (fun x y => x + y) 994) := s_iadd (by decide +kernel : decode cL_law 993 = .ok (.iadd, 1))
theorem oL_law_994 : OpS mL_law 994 (o_sald 995) := s_sald (by decide +kernel : decode cL_law 994 = .ok (.iaload, 1))
theorem oL_law_995 : OpS mL_law 995 (o_aload 3 996) := s_aload_n (by decide +kernel : decode cL_law 995 = .ok (.aload_n 3, 1)) rfl
theorem oL_law_996 : OpS mL_law 996 (o_callS mL_closest 3 999) := s_callSH (y := mL_closest) (by decide) wd_0 (by decide) (by decide +kernel) wd_1133 wd_1134 (by decide +kernel : decode cL_law 996 = .ok (.invokestatic 130, 3))
theorem oL_law_999 : OpS mL_law 999 (o_istore 5 9 1001) := s_istore (by decide +kernel : decode cL_law 999 = .ok (.istore 5, 2)) rfl
theorem oL_law_1001 : OpS mL_law 1001 (o_aload 2 1002) := s_aload_n (by decide +kernel : decode cL_law 1001 = .ok (.aload_n 2, 1)) rfl
theorem oL_law_1002 : OpS mL_law 1002 (o_aload 0 1003) := s_aload_n (by decide +kernel : decode cL_law 1002 = .ok (.aload_n 0, 1)) rfl
theorem oL_law_1003 : OpS mL_law 1003 (o_iload 4 1005) := s_iload (by decide +kernel : decode cL_law 1003 = .ok (.iload 4, 2))
theorem oL_law_1005 : OpS mL_law 1005 (o_const (.int 1) 1006) := s_iconst (by decide +kernel : decode cL_law 1005 = .ok (.iconst 1, 1)) (by decide)
theorem oL_law_1006 : OpS mL_law 1006 (o_ibin (fun x y => x + y) 1007) := s_iadd (by decide +kernel : decode cL_law 1006 = .ok (.iadd, 1))
theorem oL_law_1007 : OpS mL_law 1007 (o_sald 1008) := s_sald (by decide +kernel : decode cL_law 1007 = .ok (.iaload, 1))
theorem oL_law_1008 : OpS mL_law 1008 (o_callV mX13_closest 13 1 1011) := s_callV ceX13_closest clsX13 (Or.inl wd_1644) wd_1645 selX13_closest (by decide +kernel : decode cL_law 1008 = .ok (.invokevirtual 132, 3))
theorem oL_law_1011 : OpS mL_law 1011 (o_istore 6 9 1013) := s_istore (by decide +kernel : decode cL_law 1011 = .ok (.istore 6, 2)) rfl
theorem oL_law_1013 : OpS mL_law 1013 (o_aload 2 1014) := s_aload_n (by decide +kernel : decode cL_law 1013 = .ok (.aload_n 2, 1)) rfl
theorem oL_law_1014 : OpS mL_law 1014 (o_callV mX13_thrown 13 0 1017) := s_callV ceX13_thrown clsX13 (Or.inl wd_1141) wd_1142 selX13_thrown (by decide +kernel : decode cL_law 1014 = .ok (.invokevirtual 71, 3))
theorem oL_law_1017 : OpS mL_law 1017 (o_iload 5 1019) := s_iload (by decide +kernel : decode cL_law 1017 = .ok (.iload 5, 2))
theorem oL_law_1019 : OpS mL_law 1019 (o_icmp (fun x y => x = y) 1024 1022) := s_icmp_eq (by decide +kernel : decode cL_law 1019 = .ok (.if_icmp .eq 5, 3)) (by decide)
theorem oL_law_1022 : OpS mL_law 1022 (o_const (.int 0) 1023) := s_iconst (by decide +kernel : decode cL_law 1022 = .ok (.iconst 0, 1)) (by decide)
theorem oL_law_1023 : OpS mL_law 1023 (o_zret) := s_zret rfl (by decide +kernel : decode cL_law 1023 = .ok (.ireturn, 1))
theorem oL_law_1024 : OpS mL_law 1024 (o_iload 5 1026) := s_iload (by decide +kernel : decode cL_law 1024 = .ok (.iload 5, 2))
theorem oL_law_1026 : OpS mL_law 1026 (o_if (fun x => x = 0) 1029 1041) := s_if_ne (by decide +kernel : decode cL_law 1026 = .ok (.ifCond .ne 15, 3)) (by decide)
theorem oL_law_1029 : OpS mL_law 1029 (o_aload 3 1030) := s_aload_n (by decide +kernel : decode cL_law 1029 = .ok (.aload_n 3, 1)) rfl
theorem oL_law_1030 : OpS mL_law 1030 (o_const (.int 0) 1031) := s_iconst (by decide +kernel : decode cL_law 1030 = .ok (.iconst 0, 1)) (by decide)
theorem oL_law_1031 : OpS mL_law 1031 (o_lald 1032) := s_lald (by decide +kernel : decode cL_law 1031 = .ok (.laload, 1))
theorem oL_law_1032 : OpS mL_law 1032 (o_iload 6 1034) := s_iload (by decide +kernel : decode cL_law 1032 = .ok (.iload 6, 2))
theorem oL_law_1034 : OpS mL_law 1034 (o_i2l 1035) := s_i2l (by decide +kernel : decode cL_law 1034 = .ok (.i2l, 1))
theorem oL_law_1035 : OpS mL_law 1035 (o_lcmp 1036) := s_lcmp (by decide +kernel : decode cL_law 1035 = .ok (.lcmp, 1))
theorem oL_law_1036 : OpS mL_law 1036 (o_if (fun x => x = 0) 1041 1039) := s_if_eq (by decide +kernel : decode cL_law 1036 = .ok (.ifCond .eq 5, 3)) (by decide)
theorem oL_law_1039 : OpS mL_law 1039 (o_const (.int 0) 1040) := s_iconst (by decide +kernel : decode cL_law 1039 = .ok (.iconst 0, 1)) (by decide)
theorem oL_law_1040 : OpS mL_law 1040 (o_zret) := s_zret rfl (by decide +kernel : decode cL_law 1040 = .ok (.ireturn, 1))
theorem oL_law_1041 : OpS mL_law 1041 (o_goto 1099) := s_goto (by decide +kernel : decode cL_law 1041 = .ok (.goto 58, 3)) (by decide)
theorem oL_law_1044 : OpS mL_law 1044 (o_aload 1 1045) := s_aload_n (by decide +kernel : decode cL_law 1044 = .ok (.aload_n 1, 1)) rfl
theorem oL_law_1045 : OpS mL_law 1045 (o_callV mX11_mean 11 0 1048) := s_callV ceX11_mean clsX11 (Or.inl wd_745) wd_746 selX11_mean (by decide +kernel : decode cL_law 1045 = .ok (.invokevirtual 133, 3))
theorem oL_law_1048 : OpS mL_law 1048 (o_dstore 5 9 1050) := s_dstore (by decide +kernel : decode cL_law 1048 = .ok (.dstore 5, 2)) rfl
theorem oL_law_1050 : OpS mL_law 1050 (o_aload 2 1051) := s_aload_n (by decide +kernel : decode cL_law 1050 = .ok (.aload_n 2, 1)) rfl
theorem oL_law_1051 : OpS mL_law 1051 (o_callV mX13_mean 13 0 1054) := s_callV ceX13_mean clsX13 (Or.inl wd_1648) wd_1649 selX13_mean (by decide +kernel : decode cL_law 1051 = .ok (.invokevirtual 137, 3))
theorem oL_law_1054 : OpS mL_law 1054 (o_dstore 7 9 1056) := s_dstore (by decide +kernel : decode cL_law 1054 = .ok (.dstore 7, 2)) rfl
theorem oL_law_1056 : OpS mL_law 1056 (o_dload 5 1058) := s_dload (by decide +kernel : decode cL_law 1056 = .ok (.dload 5, 2))
theorem oL_law_1058 : OpS mL_law 1058 (o_dload 7 1060) := s_dload (by decide +kernel : decode cL_law 1058 = .ok (.dload 7, 2))
theorem oL_law_1060 : OpS mL_law 1060 (o_dcmp .l 1061) := s_dcmp (by decide +kernel : decode cL_law 1060 = .ok (.dcmp .l, 1))
theorem oL_law_1061 : OpS mL_law 1061 (o_if (fun x => x = 0) 1082 1064) := s_if_eq (by decide +kernel : decode cL_law 1061 = .ok (.ifCond .eq 21, 3)) (by decide)
theorem oL_law_1064 : OpS mL_law 1064 (o_dload 5 1066) := s_dload (by decide +kernel : decode cL_law 1064 = .ok (.dload 5, 2))
theorem oL_law_1066 : OpS mL_law 1066 (o_dload 5 1068) := s_dload (by decide +kernel : decode cL_law 1066 = .ok (.dload 5, 2))
theorem oL_law_1068 : OpS mL_law 1068 (o_dcmp .l 1069) := s_dcmp (by decide +kernel : decode cL_law 1068 = .ok (.dcmp .l, 1))
theorem oL_law_1069 : OpS mL_law 1069 (o_if (fun x => x = 0) 1080 1072) := s_if_eq (by decide +kernel : decode cL_law 1069 = .ok (.ifCond .eq 11, 3)) (by decide)
theorem oL_law_1072 : OpS mL_law 1072 (o_dload 7 1074) := s_dload (by decide +kernel : decode cL_law 1072 = .ok (.dload 7, 2))
theorem oL_law_1074 : OpS mL_law 1074 (o_dload 7 1076) := s_dload (by decide +kernel : decode cL_law 1074 = .ok (.dload 7, 2))
theorem oL_law_1076 : OpS mL_law 1076 (o_dcmp .l 1077) := s_dcmp (by decide +kernel : decode cL_law 1076 = .ok (.dcmp .l, 1))
theorem oL_law_1077 : OpS mL_law 1077 (o_if (fun x => x = 0) 1080 1082) := s_if_ne (by decide +kernel : decode cL_law 1077 = .ok (.ifCond .ne 5, 3)) (by decide)
theorem oL_law_1080 : OpS mL_law 1080 (o_const (.int 0) 1081) := s_iconst (by decide +kernel : decode cL_law 1080 = .ok (.iconst 0, 1)) (by decide)
theorem oL_law_1081 : OpS mL_law 1081 (o_zret) := s_zret rfl (by decide +kernel : decode cL_law 1081 = .ok (.ireturn, 1))
theorem oL_law_1082 : OpS mL_law 1082 (o_goto 1099) := s_goto (by decide +kernel : decode cL_law 1082 = .ok (.goto 17, 3)) (by decide)
theorem oL_law_1085 : OpS mL_law 1085 (o_aload 1 1086) := s_aload_n (by decide +kernel : decode cL_law 1085 = .ok (.aload_n 1, 1)) rfl
theorem oL_law_1086 : OpS mL_law 1086 (o_callV mX11_digest 11 0 1089) := s_callV ceX11_digest clsX11 (Or.inl wd_754) wd_755 selX11_digest (by decide +kernel : decode cL_law 1086 = .ok (.invokevirtual 138, 3))
theorem oL_law_1089 : OpS mL_law 1089 (o_aload 2 1090) := s_aload_n (by decide +kernel : decode cL_law 1089 = .ok (.aload_n 2, 1)) rfl
theorem oL_law_1090 : OpS mL_law 1090 (o_callV mX13_digest 13 0 1093) := s_callV ceX13_digest clsX13 (Or.inl wd_1652) wd_1653 selX13_digest (by decide +kernel : decode cL_law 1090 = .ok (.invokevirtual 142, 3))
theorem oL_law_1093 : OpS mL_law 1093 (o_lcmp 1094) := s_lcmp (by decide +kernel : decode cL_law 1093 = .ok (.lcmp, 1))
theorem oL_law_1094 : OpS mL_law 1094 (o_if (fun x => x = 0) 1099 1097) := s_if_eq (by decide +kernel : decode cL_law 1094 = .ok (.ifCond .eq 5, 3)) (by decide)
theorem oL_law_1097 : OpS mL_law 1097 (o_const (.int 0) 1098) := s_iconst (by decide +kernel : decode cL_law 1097 = .ok (.iconst 0, 1)) (by decide)
theorem oL_law_1098 : OpS mL_law 1098 (o_zret) := s_zret rfl (by decide +kernel : decode cL_law 1098 = .ok (.ireturn, 1))
theorem oL_law_1099 : OpS mL_law 1099 (o_iinc 4 9 6 1102) := s_iinc (by decide +kernel : decode cL_law 1099 = .ok (.iinc 4 6, 3)) (by decide) rfl
theorem oL_law_1102 : OpS mL_law 1102 (o_goto 23) := s_goto (by decide +kernel : decode cL_law 1102 = .ok (.goto (-1079), 3)) (by decide)
theorem oL_law_1105 : OpS mL_law 1105 (o_const (.int 1) 1106) := s_iconst (by decide +kernel : decode cL_law 1105 = .ok (.iconst 1, 1)) (by decide)
theorem oL_law_1106 : OpS mL_law 1106 (o_zret) := s_zret rfl (by decide +kernel : decode cL_law 1106 = .ok (.ireturn, 1))
