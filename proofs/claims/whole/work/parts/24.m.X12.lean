theorem oX12_init_0 : OpS mX12_init 0 (o_aload 0 1) := s_aload_n (by decide +kernel : decode cX12_init 0 = .ok (.aload_n 0, 1)) rfl
theorem oX12_init_1 : OpS mX12_init 1 (o_objinit 4) := s_objinit wd_1175 wd_34 wd_35 (by decide +kernel : decode cX12_init 1 = .ok (.invokespecial 3, 3))
theorem oX12_init_4 : OpS mX12_init 4 (o_aload 0 5) := s_aload_n (by decide +kernel : decode cX12_init 4 = .ok (.aload_n 0, 1)) rfl
theorem oX12_init_5 : OpS mX12_init 5 (o_const (.int 400) 8) := s_sipush (by decide +kernel : decode cX12_init 5 = .ok (.sipush 400, 3)) (by decide)
theorem oX12_init_8 : OpS mX12_init 8 (o_newa 2 10) := s_newa2 wd_52 (by decide +kernel : decode cX12_init 8 = .ok (.newarray .int, 2))
theorem oX12_init_10 : OpS mX12_init 10 (o_putP 12 4 13) := s_putP (k := 4) clsX12 (by decide) rfl (Or.inl ⟨wd_1184, Or.inr ⟨rfl, rfl, rfl⟩⟩) (by decide +kernel : decode cX12_init 10 = .ok (.putfield 9, 3)) rfl (fun _ => rfl) (fun _ => rfl)
theorem oX12_init_13 : OpS mX12_init 13 (o_aload 0 14) := s_aload_n (by decide +kernel : decode cX12_init 13 = .ok (.aload_n 0, 1)) rfl
theorem oX12_init_14 : OpS mX12_init 14 (o_const (.int 40) 16) := s_bipush (by decide +kernel : decode cX12_init 14 = .ok (.bipush 40, 2)) (by decide)
theorem oX12_init_16 : OpS mX12_init 16 (o_newa 2 18) := s_newa2 wd_52 (by decide +kernel : decode cX12_init 16 = .ok (.newarray .int, 2))
theorem oX12_init_18 : OpS mX12_init 18 (o_putP 12 5 21) := s_putP (k := 5) clsX12 (by decide) rfl (Or.inl ⟨wd_1186, Or.inr ⟨rfl, rfl, rfl⟩⟩) (by decide +kernel : decode cX12_init 18 = .ok (.putfield 15, 3)) rfl (fun _ => rfl) (fun _ => rfl)
theorem oX12_init_21 : OpS mX12_init 21 (o_aload 0 22) := s_aload_n (by decide +kernel : decode cX12_init 21 = .ok (.aload_n 0, 1)) rfl
theorem oX12_init_22 : OpS mX12_init 22 (o_const (.int 40) 24) := s_bipush (by decide +kernel : decode cX12_init 22 = .ok (.bipush 40, 2)) (by decide)
theorem oX12_init_24 : OpS mX12_init 24 (o_newa 2 26) := s_newa2 wd_52 (by decide +kernel : decode cX12_init 24 = .ok (.newarray .int, 2))
theorem oX12_init_26 : OpS mX12_init 26 (o_putP 12 6 29) := s_putP (k := 6) clsX12 (by decide) rfl (Or.inl ⟨wd_1188, Or.inr ⟨rfl, rfl, rfl⟩⟩) (by decide +kernel : decode cX12_init 26 = .ok (.putfield 18, 3)) rfl (fun _ => rfl) (fun _ => rfl)
theorem oX12_init_29 : OpS mX12_init 29 (o_aload 0 30) := s_aload_n (by decide +kernel : decode cX12_init 29 = .ok (.aload_n 0, 1)) rfl
theorem oX12_init_30 : OpS mX12_init 30 (o_const (.int 40) 32) := s_bipush (by decide +kernel : decode cX12_init 30 = .ok (.bipush 40, 2)) (by decide)
theorem oX12_init_32 : OpS mX12_init 32 (o_newa 2 34) := s_newa2 wd_52 (by decide +kernel : decode cX12_init 32 = .ok (.newarray .int, 2))
theorem oX12_init_34 : OpS mX12_init 34 (o_putP 12 7 37) := s_putP (k := 7) clsX12 (by decide) rfl (Or.inl ⟨wd_1190, Or.inr ⟨rfl, rfl, rfl⟩⟩) (by decide +kernel : decode cX12_init 34 = .ok (.putfield 21, 3)) rfl (fun _ => rfl) (fun _ => rfl)
theorem oX12_init_37 : OpS mX12_init 37 (o_aload 0 38) := s_aload_n (by decide +kernel : decode cX12_init 37 = .ok (.aload_n 0, 1)) rfl
theorem oX12_init_38 : OpS mX12_init 38 (o_const (.int 128) 41) := s_sipush (by decide +kernel : decode cX12_init 38 = .ok (.sipush 128, 3)) (by decide)
theorem oX12_init_41 : OpS mX12_init 41 (o_newa 2 43) := s_newa2 wd_52 (by decide +kernel : decode cX12_init 41 = .ok (.newarray .int, 2))
theorem oX12_init_43 : OpS mX12_init 43 (o_putP 12 8 46) := s_putP (k := 8) clsX12 (by decide) rfl (Or.inl ⟨wd_1192, Or.inr ⟨rfl, rfl, rfl⟩⟩) (by decide +kernel : decode cX12_init 43 = .ok (.putfield 24, 3)) rfl (fun _ => rfl) (fun _ => rfl)
theorem oX12_init_46 : OpS mX12_init 46 (o_aload 0 47) := s_aload_n (by decide +kernel : decode cX12_init 46 = .ok (.aload_n 0, 1)) rfl
theorem oX12_init_47 : OpS mX12_init 47 (o_const (.int 36) 49) := s_bipush (by decide +kernel : decode cX12_init 47 = .ok (.bipush 36, 2)) (by decide)
theorem oX12_init_49 : OpS mX12_init 49 (o_newa 2 51) := s_newa2 wd_52 (by decide +kernel : decode cX12_init 49 = .ok (.newarray .int, 2))
theorem oX12_init_51 : OpS mX12_init 51 (o_putP 12 9 54) := s_putP (k := 9) clsX12 (by decide) rfl (Or.inl ⟨wd_1194, Or.inr ⟨rfl, rfl, rfl⟩⟩) (by decide +kernel : decode cX12_init 51 = .ok (.putfield 27, 3)) rfl (fun _ => rfl) (fun _ => rfl)
theorem oX12_init_54 : OpS mX12_init 54 (o_aload 0 55) := s_aload_n (by decide +kernel : decode cX12_init 54 = .ok (.aload_n 0, 1)) rfl
theorem oX12_init_55 : OpS mX12_init 55 (o_const (.int 401) 58) := s_sipush (by decide +kernel : decode cX12_init 55 = .ok (.sipush 401, 3)) (by decide)
theorem oX12_init_58 : OpS mX12_init 58 (o_newa 2 60) := s_newa2 wd_52 (by decide +kernel : decode cX12_init 58 = .ok (.newarray .int, 2))
theorem oX12_init_60 : OpS mX12_init 60 (o_putP 12 11 63) := s_putP (k := 11) clsX12 (by decide) rfl (Or.inl ⟨wd_1197, Or.inr ⟨rfl, rfl, rfl⟩⟩) (by decide +kernel : decode cX12_init 60 = .ok (.putfield 30, 3)) rfl (fun _ => rfl) (fun _ => rfl)
theorem oX12_init_63 : OpS mX12_init 63 (o_aload 0 64) := s_aload_n (by decide +kernel : decode cX12_init 63 = .ok (.aload_n 0, 1)) rfl
theorem oX12_init_64 : OpS mX12_init 64 (o_const (.int 401) 67) := s_sipush (by decide +kernel : decode cX12_init 64 = .ok (.sipush 401, 3)) (by decide)
theorem oX12_init_67 : OpS mX12_init 67 (o_newa 2 69) := s_newa2 wd_52 (by decide +kernel : decode cX12_init 67 = .ok (.newarray .int, 2))
theorem oX12_init_69 : OpS mX12_init 69 (o_putP 12 12 72) := s_putP (k := 12) clsX12 (by decide) rfl (Or.inl ⟨wd_1199, Or.inr ⟨rfl, rfl, rfl⟩⟩) (by decide +kernel : decode cX12_init 69 = .ok (.putfield 33, 3)) rfl (fun _ => rfl) (fun _ => rfl)
theorem oX12_init_72 : OpS mX12_init 72 (o_aload 0 73) := s_aload_n (by decide +kernel : decode cX12_init 72 = .ok (.aload_n 0, 1)) rfl
theorem oX12_init_73 : OpS mX12_init 73 (o_const (.int 401) 76) := s_sipush (by decide +kernel : decode cX12_init 73 = .ok (.sipush 401, 3)) (by decide)
theorem oX12_init_76 : OpS mX12_init 76 (o_newa 2 78) := s_newa2 wd_52 (by decide +kernel : decode cX12_init 76 = .ok (.newarray .int, 2))
theorem oX12_init_78 : OpS mX12_init 78 (o_putP 12 13 81) := s_putP (k := 13) clsX12 (by decide) rfl (Or.inl ⟨wd_1201, Or.inr ⟨rfl, rfl, rfl⟩⟩) (by decide +kernel : decode cX12_init 78 = .ok (.putfield 36, 3)) rfl (fun _ => rfl) (fun _ => rfl)
theorem oX12_init_81 : OpS mX12_init 81 (o_aload 0 82) := s_aload_n (by decide +kernel : decode cX12_init 81 = .ok (.aload_n 0, 1)) rfl
theorem oX12_init_82 : OpS mX12_init 82 (o_const (.int 2000) 85) := s_sipush (by decide +kernel : decode cX12_init 82 = .ok (.sipush 2000, 3)) (by decide)
theorem oX12_init_85 : OpS mX12_init 85 (o_newa 2 87) := s_newa2 wd_52 (by decide +kernel : decode cX12_init 85 = .ok (.newarray .int, 2))
theorem oX12_init_87 : OpS mX12_init 87 (o_putP 12 15 90) := s_putP (k := 15) clsX12 (by decide) rfl (Or.inl ⟨wd_1205, Or.inr ⟨rfl, rfl, rfl⟩⟩) (by decide +kernel : decode cX12_init 87 = .ok (.putfield 39, 3)) rfl (fun _ => rfl) (fun _ => rfl)
theorem oX12_init_90 : OpS mX12_init 90 (o_vret) := s_vret rfl (by decide +kernel : decode cX12_init 90 = .ok (.return_, 1))
theorem oX12_empty_0 : OpS mX12_empty 0 (o_aload 0 1) := s_aload_n (by decide +kernel : decode cX12_empty 0 = .ok (.aload_n 0, 1)) rfl
theorem oX12_empty_1 : OpS mX12_empty 1 (o_const (.int 0) 2) := s_iconst (by decide +kernel : decode cX12_empty 1 = .ok (.iconst 0, 1)) (by decide)
theorem oX12_empty_2 : OpS mX12_empty 2 (o_putI 12 0 5) := s_putI (k := 0) clsX12 (by decide) rfl (Or.inl ⟨wd_1176, Or.inl rfl⟩) (by decide +kernel : decode cX12_empty 2 = .ok (.putfield 42, 3)) rfl rfl
theorem oX12_empty_5 : OpS mX12_empty 5 (o_aload 0 6) := s_aload_n (by decide +kernel : decode cX12_empty 5 = .ok (.aload_n 0, 1)) rfl
theorem oX12_empty_6 : OpS mX12_empty 6 (o_const (.int 0) 7) := s_iconst (by decide +kernel : decode cX12_empty 6 = .ok (.iconst 0, 1)) (by decide)
theorem oX12_empty_7 : OpS mX12_empty 7 (o_putI 12 1 10) := s_putI (k := 1) clsX12 (by decide) rfl (Or.inl ⟨wd_1178, Or.inl rfl⟩) (by decide +kernel : decode cX12_empty 7 = .ok (.putfield 46, 3)) rfl rfl
theorem oX12_empty_10 : OpS mX12_empty 10 (o_aload 0 11) := s_aload_n (by decide +kernel : decode cX12_empty 10 = .ok (.aload_n 0, 1)) rfl
theorem oX12_empty_11 : OpS mX12_empty 11 (o_const (.int 0) 12) := s_iconst (by decide +kernel : decode cX12_empty 11 = .ok (.iconst 0, 1)) (by decide)
theorem oX12_empty_12 : OpS mX12_empty 12 (o_putI 12 2 15) := s_putI (k := 2) clsX12 (by decide) rfl (Or.inl ⟨wd_1180, Or.inl rfl⟩) (by decide +kernel : decode cX12_empty 12 = .ok (.putfield 49, 3)) rfl rfl
theorem oX12_empty_15 : OpS mX12_empty 15 (o_aload 0 16) := s_aload_n (by decide +kernel : decode cX12_empty 15 = .ok (.aload_n 0, 1)) rfl
theorem oX12_empty_16 : OpS mX12_empty 16 (o_const (.int 0) 17) := s_iconst (by decide +kernel : decode cX12_empty 16 = .ok (.iconst 0, 1)) (by decide)
theorem oX12_empty_17 : OpS mX12_empty 17 (o_putI 12 3 20) := s_putI (k := 3) clsX12 (by decide) rfl (Or.inl ⟨wd_1182, Or.inl rfl⟩) (by decide +kernel : decode cX12_empty 17 = .ok (.putfield 52, 3)) rfl rfl
theorem oX12_empty_20 : OpS mX12_empty 20 (o_aload 0 21) := s_aload_n (by decide +kernel : decode cX12_empty 20 = .ok (.aload_n 0, 1)) rfl
theorem oX12_empty_21 : OpS mX12_empty 21 (o_const (.int 0) 22) := s_iconst (by decide +kernel : decode cX12_empty 21 = .ok (.iconst 0, 1)) (by decide)
theorem oX12_empty_22 : OpS mX12_empty 22 (o_putI 12 10 25) := s_putI (k := 10) clsX12 (by decide) rfl (Or.inl ⟨wd_1196, Or.inl rfl⟩) (by decide +kernel : decode cX12_empty 22 = .ok (.putfield 55, 3)) rfl rfl
theorem oX12_empty_25 : OpS mX12_empty 25 (o_aload 0 26) := s_aload_n (by decide +kernel : decode cX12_empty 25 = .ok (.aload_n 0, 1)) rfl
theorem oX12_empty_26 : OpS mX12_empty 26 (o_const (.int 0) 27) := s_iconst (by decide +kernel : decode cX12_empty 26 = .ok (.iconst 0, 1)) (by decide)
theorem oX12_empty_27 : OpS mX12_empty 27 (o_putI 12 14 30) := s_putI (k := 14) clsX12 (by decide) rfl (Or.inl ⟨wd_1203, Or.inl rfl⟩) (by decide +kernel : decode cX12_empty 27 = .ok (.putfield 58, 3)) rfl rfl
theorem oX12_empty_30 : OpS mX12_empty 30 (o_const (.int 0) 31) := s_iconst (by decide +kernel : decode cX12_empty 30 = .ok (.iconst 0, 1)) (by decide)
theorem oX12_empty_31 : OpS mX12_empty 31 (o_istore 1 2 32) := s_istore_n (by decide +kernel : decode cX12_empty 31 = .ok (.istore_n 1, 1)) rfl rfl
theorem oX12_empty_32 : OpS mX12_empty 32 (o_iload 1 33) := s_iload_n (by decide +kernel : decode cX12_empty 32 = .ok (.iload_n 1, 1)) rfl
theorem oX12_empty_33 : OpS mX12_empty 33 (o_aload 0 34) := s_aload_n (by decide +kernel : decode cX12_empty 33 = .ok (.aload_n 0, 1)) rfl
theorem oX12_empty_34 : OpS mX12_empty 34 (o_getP 12 8 37) := s_getP (k := 8) clsX12 (by decide) rfl (Or.inl wd_1192) (by decide +kernel : decode cX12_empty 34 = .ok (.getfield 24, 3)) rfl
theorem oX12_empty_37 : OpS mX12_empty 37 (o_alen 2 38) := s_alen2 (by decide +kernel : decode cX12_empty 37 = .ok (.arraylength, 1))
theorem oX12_empty_38 : OpS mX12_empty 38 (o_icmp (fun x y => y ≤ x) 54 41) := s_icmp_ge (by decide +kernel : decode cX12_empty 38 = .ok (.if_icmp .ge 16, 3)) (by decide)
theorem oX12_empty_41 : OpS mX12_empty 41 (o_aload 0 42) := s_aload_n (by decide +kernel : decode cX12_empty 41 = .ok (.aload_n 0, 1)) rfl
theorem oX12_empty_42 : OpS mX12_empty 42 (o_getP 12 8 45) := s_getP (k := 8) clsX12 (by decide) rfl (Or.inl wd_1192) (by decide +kernel : decode cX12_empty 42 = .ok (.getfield 24, 3)) rfl
theorem oX12_empty_45 : OpS mX12_empty 45 (o_iload 1 46) := s_iload_n (by decide +kernel : decode cX12_empty 45 = .ok (.iload_n 1, 1)) rfl
theorem oX12_empty_46 : OpS mX12_empty 46 (o_const (.int (-1)) 47) := s_iconst (by decide +kernel : decode cX12_empty 46 = .ok (.iconst (-1), 1)) (by decide)
theorem oX12_empty_47 : OpS mX12_empty 47 (o_iast 48) := s_iast (by decide +kernel : decode cX12_empty 47 = .ok (.iastore, 1))
theorem oX12_empty_48 : OpS mX12_empty 48 (o_iinc 1 2 1 51) := s_iinc (by decide +kernel : decode cX12_empty 48 = .ok (.iinc 1 1, 3)) (by decide) rfl
theorem oX12_empty_51 : OpS mX12_empty 51 (o_goto 32) := s_goto (by decide +kernel : decode cX12_empty 51 = .ok (.goto (-19), 3)) (by decide)
theorem oX12_empty_54 : OpS mX12_empty 54 (o_vret) := s_vret rfl (by decide +kernel : decode cX12_empty 54 = .ok (.return_, 1))
theorem oX12_node_0 : OpS mX12_node 0 (o_aload 0 1) := s_aload_n (by decide +kernel : decode cX12_node 0 = .ok (.aload_n 0, 1)) rfl
theorem oX12_node_1 : OpS mX12_node 1 (o_getP 12 11 4) := s_getP (k := 11) clsX12 (by decide) rfl (Or.inl wd_1197) (by decide +kernel : decode cX12_node 1 = .ok (.getfield 30, 3)) rfl
theorem oX12_node_4 : OpS mX12_node 4 (o_aload 0 5) := s_aload_n (by decide +kernel : decode cX12_node 4 = .ok (.aload_n 0, 1)) rfl
theorem oX12_node_5 : OpS mX12_node 5 (o_getI 12 10 8) := s_getI (k := 10) clsX12 (by decide) rfl (Or.inl wd_1196) (by decide +kernel : decode cX12_node 5 = .ok (.getfield 55, 3)) rfl
theorem oX12_node_8 : OpS mX12_node 8 (o_iload 1 9) := s_iload_n (by decide +kernel : decode cX12_node 8 = .ok (.iload_n 1, 1)) rfl
theorem oX12_node_9 : OpS mX12_node 9 (o_iast 10) := s_iast (by decide +kernel : decode cX12_node 9 = .ok (.iastore, 1))
theorem oX12_node_10 : OpS mX12_node 10 (o_aload 0 11) := s_aload_n (by decide +kernel : decode cX12_node 10 = .ok (.aload_n 0, 1)) rfl
theorem oX12_node_11 : OpS mX12_node 11 (o_getP 12 12 14) := s_getP (k := 12) clsX12 (by decide) rfl (Or.inl wd_1199) (by decide +kernel : decode cX12_node 11 = .ok (.getfield 33, 3)) rfl
theorem oX12_node_14 : OpS mX12_node 14 (o_aload 0 15) := s_aload_n (by decide +kernel : decode cX12_node 14 = .ok (.aload_n 0, 1)) rfl
theorem oX12_node_15 : OpS mX12_node 15 (o_getI 12 10 18) := s_getI (k := 10) clsX12 (by decide) rfl (Or.inl wd_1196) (by decide +kernel : decode cX12_node 15 = .ok (.getfield 55, 3)) rfl
theorem oX12_node_18 : OpS mX12_node 18 (o_iload 2 19) := s_iload_n (by decide +kernel : decode cX12_node 18 = .ok (.iload_n 2, 1)) rfl
theorem oX12_node_19 : OpS mX12_node 19 (o_iast 20) := s_iast (by decide +kernel : decode cX12_node 19 = .ok (.iastore, 1))
theorem oX12_node_20 : OpS mX12_node 20 (o_aload 0 21) := s_aload_n (by decide +kernel : decode cX12_node 20 = .ok (.aload_n 0, 1)) rfl
theorem oX12_node_21 : OpS mX12_node 21 (o_getP 12 13 24) := s_getP (k := 13) clsX12 (by decide) rfl (Or.inl wd_1201) (by decide +kernel : decode cX12_node 21 = .ok (.getfield 36, 3)) rfl
theorem oX12_node_24 : OpS mX12_node 24 (o_aload 0 25) := s_aload_n (by decide +kernel : decode cX12_node 24 = .ok (.aload_n 0, 1)) rfl
theorem oX12_node_25 : OpS mX12_node 25 (o_getI 12 10 28) := s_getI (k := 10) clsX12 (by decide) rfl (Or.inl wd_1196) (by decide +kernel : decode cX12_node 25 = .ok (.getfield 55, 3)) rfl
theorem oX12_node_28 : OpS mX12_node 28 (o_iload 3 29) := s_iload_n (by decide +kernel : decode cX12_node 28 = .ok (.iload_n 3, 1)) rfl
theorem oX12_node_29 : OpS mX12_node 29 (o_iast 30) := s_iast (by decide +kernel : decode cX12_node 29 = .ok (.iastore, 1))
theorem oX12_node_30 : OpS mX12_node 30 (o_aload 0 31) := s_aload_n (by decide +kernel : decode cX12_node 30 = .ok (.aload_n 0, 1)) rfl
theorem oX12_node_31 : OpS mX12_node 31 (o_dup 32) := s_dup (by decide +kernel : decode cX12_node 31 = .ok (.dup, 1))
theorem oX12_node_32 : OpS mX12_node 32 (o_getI 12 10 35) := s_getI (k := 10) clsX12 (by decide) rfl (Or.inl wd_1196) (by decide +kernel : decode cX12_node 32 = .ok (.getfield 55, 3)) rfl
theorem oX12_node_35 : OpS mX12_node 35 (o_const (.int 1) 36) := s_iconst (by decide +kernel : decode cX12_node 35 = .ok (.iconst 1, 1)) (by decide)
theorem oX12_node_36 : OpS mX12_node 36 (o_ibin (fun x y => x + y) 37) := s_iadd (by decide +kernel : decode cX12_node 36 = .ok (.iadd, 1))
theorem oX12_node_37 : OpS mX12_node 37 (o_putI 12 10 40) := s_putI (k := 10) clsX12 (by decide) rfl (Or.inl ⟨wd_1196, Or.inl rfl⟩) (by decide +kernel : decode cX12_node 37 = .ok (.putfield 55, 3)) rfl rfl
theorem oX12_node_40 : OpS mX12_node 40 (o_aload 0 41) := s_aload_n (by decide +kernel : decode cX12_node 40 = .ok (.aload_n 0, 1)) rfl
theorem oX12_node_41 : OpS mX12_node 41 (o_getI 12 10 44) := s_getI (k := 10) clsX12 (by decide) rfl (Or.inl wd_1196) (by decide +kernel : decode cX12_node 41 = .ok (.getfield 55, 3)) rfl
theorem oX12_node_44 : OpS mX12_node 44 (o_const (.int 1) 45) := s_iconst (by decide +kernel : decode cX12_node 44 = .ok (.iconst 1, 1)) (by decide)
theorem oX12_node_45 : OpS mX12_node 45 (o_ibin (fun x y => x - y) 46) := s_isub (by decide +kernel : decode cX12_node 45 = .ok (.isub, 1))
theorem oX12_node_46 : OpS mX12_node 46 (o_iret) := s_iret rfl (by decide +kernel : decode cX12_node 46 = .ok (.ireturn, 1))
theorem oX12_byteOf_0 : OpS mX12_byteOf 0 (o_aload 0 1) := s_aload_n (by decide +kernel : decode cX12_byteOf 0 = .ok (.aload_n 0, 1)) rfl
theorem oX12_byteOf_1 : OpS mX12_byteOf 1 (o_getP 12 4 4) := s_getP (k := 4) clsX12 (by decide) rfl (Or.inl wd_1184) (by decide +kernel : decode cX12_byteOf 1 = .ok (.getfield 9, 3)) rfl
theorem oX12_byteOf_4 : OpS mX12_byteOf 4 (o_const (.int 10) 6) := s_bipush (by decide +kernel : decode cX12_byteOf 4 = .ok (.bipush 10, 2)) (by decide)
theorem oX12_byteOf_6 : OpS mX12_byteOf 6 (o_iload 1 7) := s_iload_n (by decide +kernel : decode cX12_byteOf 6 = .ok (.iload_n 1, 1)) rfl
theorem oX12_byteOf_7 : OpS mX12_byteOf 7 (o_ibin (fun x y => x * y) 8) := s_imul (by decide +kernel : decode cX12_byteOf 7 = .ok (.imul, 1))
theorem oX12_byteOf_8 : OpS mX12_byteOf 8 (o_iload 2 9) := s_iload_n (by decide +kernel : decode cX12_byteOf 8 = .ok (.iload_n 2, 1)) rfl
theorem oX12_byteOf_9 : OpS mX12_byteOf 9 (o_ibin (fun x y => x + y) 10) := s_iadd (by decide +kernel : decode cX12_byteOf 9 = .ok (.iadd, 1))
theorem oX12_byteOf_10 : OpS mX12_byteOf 10 (o_iald 11) := s_iald (by decide +kernel : decode cX12_byteOf 10 = .ok (.iaload, 1))
theorem oX12_byteOf_11 : OpS mX12_byteOf 11 (o_iret) := s_iret rfl (by decide +kernel : decode cX12_byteOf 11 = .ok (.ireturn, 1))
