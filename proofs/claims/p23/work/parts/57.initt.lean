/-! CONSTRUCTOR OF THE TOKENS -/
def kwl : Nat → List (List Int32) × List Int32
  | 0 => ([], [])
  | i + 1 => if (sB 0).getD i 0 = 32 then ((kwl i).1 ++ [(kwl i).2], []) else ((kwl i).1, (kwl i).2 ++ [(sB 0).getD i 0])
theorem kwl_ok : ∀ i, i < 91 → ((sB 0).getD i 0 = 32 → (kwl i).1.length < 19 ∧ (kwl i).2.length ≤ 10) ∧ ((sB 0).getD i 0 ≠ 32 → (kwl i).2.length < 10) := by decide +kernel
theorem kwl_end : kwl 91 = (keyw, []) := by decide +kernel
theorem c_toksInit {d : Nat} (hd : 6 ≤ d) {B : pM} {I : pIm} {q : Nat} {K : pM → Prop} (hk : pK B q = (1, 10)) (hN : pN B = q + 1) (hB : q + 51 < pBIG)
    (h : ∀ C J, At q B C → pN C = q + 51 → toksS C q → Nm J (q + 1) 19 keyw → (∀ x, x < q → J x = I x) → K (pset C J)) : pCall_v d mX10_init (50, 1473) [.ref q] (pset B I) K := by
  refine CP_go (by omega) okX10_init (Nat.le_of_ble_eq_true rfl) ?_
  have d0 : 5 ≤ d - 1 := by omega
  have at0 : At q B B := At.rf
  have fr0 : ∀ x, x < q → I x = I x := fun _ _ => rfl
  refine st_aload oX10_init_0 rfl ?_
  refine st_objinit oX10_init_1 (ps8 rfl) ?_
  refine st_aload oX10_init_4 rfl ?_
  refine st_new oX10_init_5 (by decide) (by decide) (by show pN B < pBIG; omega) ?_
  refine st_dup oX10_init_8 rfl ?_
  refine st_const oX10_init_9 ?_
  refine st_callI_v (res := (41, 249)) [.int 19] oX10_init_11 rfl rfl (ps8 rfl) (by decide) (by decide) (c_newNames (B := B) (I := I) (by omega) 19 (by omega) (by decide) (fun C1 J1 b1 b2 b3 b4 b5 => ?_))
  refine st_putP oX10_init_14 ((b1 q (by omega)).1.trans hk) ?_
  refine st_nm (fun Nb eb => ?_)
  have eb2 : Nb = pset (psP C1 q 0 (pN B + 1)) J1 := eb
  clear eb
  subst eb2
  rw [hN] at b3 b4
  have kq1 : pK (psP C1 q 0 (pN B + 1)) q = (1, 10) := (b1 q (by omega)).1.trans hk
  have n1 : pN (psP C1 q 0 (pN B + 1)) = q + 43 := by show pN C1 = _; omega
  have at1 : At q B (psP C1 q 0 (pN B + 1)) := (at0.tr (b1.le (by omega))).tr (At.putP (Nat.le_refl _))
  have fr1 : ∀ x, x < q → J1 x = I x := fun x hx => (b5 x (by omega)).trans (fr0 x hx)
  have s1 := b3.put (j := 0) (v := pN B + 1) (show q < q + 1 by omega)
  have p1 : pP (psP C1 q 0 (pN B + 1)) q 0 = (q + 1) + 1 := by rw [psP_at, if_pos ⟨rfl, rfl⟩, hN]
  have c1 := b4
  clear b3 b4 b1 b5   at0 fr0
  clear b2
  generalize psP C1 q 0 (pN B + 1) = D1 at *
  refine st_aload oX10_init_17 rfl ?_
  refine st_new oX10_init_18 (by decide) (by decide) (by show pN D1 < pBIG; omega) ?_
  refine st_dup oX10_init_21 rfl ?_
  refine st_const oX10_init_22 ?_
  refine st_callI_v (res := (1, 401)) [.int 401] oX10_init_25 rfl rfl (ps8 rfl) (by decide) (by decide) (c_newRow (B := D1) (I := J1) (by omega) 401 (by omega) (by decide) (fun C2 J2 b1 b2 b3 b4 b5 => ?_))
  refine st_putP oX10_init_28 ((b1 q (by omega)).1.trans kq1) ?_
  refine st_nm (fun Nb eb => ?_)
  have eb2 : Nb = pset (psP C2 q 1 (pN D1 + 1)) J2 := eb
  clear eb
  subst eb2
  rw [n1] at b3 b4
  have kq2 : pK (psP C2 q 1 (pN D1 + 1)) q = (1, 10) := (b1 q (by omega)).1.trans kq1
  have n2 : pN (psP C2 q 1 (pN D1 + 1)) = q + 45 := by show pN C2 = _; omega
  have at2 : At q B (psP C2 q 1 (pN D1 + 1)) := (at1.tr (b1.le (by omega))).tr (At.putP (Nat.le_refl _))
  have fr2 : ∀ x, x < q → J2 x = I x := fun x hx => (b5 x (by omega)).trans (fr1 x hx)
  have s2 := b3.put (j := 1) (v := pN D1 + 1) (show q ≠ q + 43 by omega)
  have p2 : pP (psP C2 q 1 (pN D1 + 1)) q 1 = (q + 43) + 1 := by rw [psP_at, if_pos ⟨rfl, rfl⟩, n1]
  have t1 := (s1.at b1 (by omega)).put (j := 1) (v := pN D1 + 1) (show q < q + 1 by omega)
  have u1 : pP (psP C2 q 1 (pN D1 + 1)) q 0 = (q + 1) + 1 := by rw [psP_at, if_neg (fun z => absurd z.2 (by decide)), (b1 q (by omega)).2.1]; exact p1
  have v1 := c1.lo b5 (by omega)
  clear s1 p1 c1
  have s1 := t1
  have p1 := u1
  have c1 := v1
  clear t1 u1 v1
  have c2 := b4
  clear b3 b4 b1 b5 kq1 n1 at1 fr1
  clear b2
  generalize psP C2 q 1 (pN D1 + 1) = D2 at *
  refine st_aload oX10_init_31 rfl ?_
  refine st_new oX10_init_32 (by decide) (by decide) (by show pN D2 < pBIG; omega) ?_
  refine st_dup oX10_init_35 rfl ?_
  refine st_const oX10_init_36 ?_
  refine st_callI_v (res := (1, 401)) [.int 401] oX10_init_39 rfl rfl (ps8 rfl) (by decide) (by decide) (c_newRow (B := D2) (I := J2) (by omega) 401 (by omega) (by decide) (fun C3 J3 b1 b2 b3 b4 b5 => ?_))
  refine st_putP oX10_init_42 ((b1 q (by omega)).1.trans kq2) ?_
  refine st_nm (fun Nb eb => ?_)
  have eb2 : Nb = pset (psP C3 q 2 (pN D2 + 1)) J3 := eb
  clear eb
  subst eb2
  rw [n2] at b3 b4
  have kq3 : pK (psP C3 q 2 (pN D2 + 1)) q = (1, 10) := (b1 q (by omega)).1.trans kq2
  have n3 : pN (psP C3 q 2 (pN D2 + 1)) = q + 47 := by show pN C3 = _; omega
  have at3 : At q B (psP C3 q 2 (pN D2 + 1)) := (at2.tr (b1.le (by omega))).tr (At.putP (Nat.le_refl _))
  have fr3 : ∀ x, x < q → J3 x = I x := fun x hx => (b5 x (by omega)).trans (fr2 x hx)
  have s3 := b3.put (j := 2) (v := pN D2 + 1) (show q ≠ q + 45 by omega)
  have p3 : pP (psP C3 q 2 (pN D2 + 1)) q 2 = (q + 45) + 1 := by rw [psP_at, if_pos ⟨rfl, rfl⟩, n2]
  have t1 := (s1.at b1 (by omega)).put (j := 2) (v := pN D2 + 1) (show q < q + 1 by omega)
  have u1 : pP (psP C3 q 2 (pN D2 + 1)) q 0 = (q + 1) + 1 := by rw [psP_at, if_neg (fun z => absurd z.2 (by decide)), (b1 q (by omega)).2.1]; exact p1
  have v1 := c1.lo b5 (by omega)
  clear s1 p1 c1
  have s1 := t1
  have p1 := u1
  have c1 := v1
  clear t1 u1 v1
  have t2 := (s2.at b1 (by omega)).put (j := 2) (v := pN D2 + 1) (show q ≠ q + 43 by omega)
  have u2 : pP (psP C3 q 2 (pN D2 + 1)) q 1 = (q + 43) + 1 := by rw [psP_at, if_neg (fun z => absurd z.2 (by decide)), (b1 q (by omega)).2.1]; exact p2
  have v2 := c2.lo b5 (by omega)
  clear s2 p2 c2
  have s2 := t2
  have p2 := u2
  have c2 := v2
  clear t2 u2 v2
  have c3 := b4
  clear b3 b4 b1 b5 kq2 n2 at2 fr2
  clear b2
  generalize psP C3 q 2 (pN D2 + 1) = D3 at *
  refine st_aload oX10_init_45 rfl ?_
  refine st_new oX10_init_46 (by decide) (by decide) (by show pN D3 < pBIG; omega) ?_
  refine st_dup oX10_init_49 rfl ?_
  refine st_const oX10_init_50 ?_
  refine st_callI_v (res := (1, 401)) [.int 401] oX10_init_53 rfl rfl (ps8 rfl) (by decide) (by decide) (c_newRow (B := D3) (I := J3) (by omega) 401 (by omega) (by decide) (fun C4 J4 b1 b2 b3 b4 b5 => ?_))
  refine st_putP oX10_init_56 ((b1 q (by omega)).1.trans kq3) ?_
  refine st_nm (fun Nb eb => ?_)
  have eb2 : Nb = pset (psP C4 q 3 (pN D3 + 1)) J4 := eb
  clear eb
  subst eb2
  rw [n3] at b3 b4
  have kq4 : pK (psP C4 q 3 (pN D3 + 1)) q = (1, 10) := (b1 q (by omega)).1.trans kq3
  have n4 : pN (psP C4 q 3 (pN D3 + 1)) = q + 49 := by show pN C4 = _; omega
  have at4 : At q B (psP C4 q 3 (pN D3 + 1)) := (at3.tr (b1.le (by omega))).tr (At.putP (Nat.le_refl _))
  have fr4 : ∀ x, x < q → J4 x = I x := fun x hx => (b5 x (by omega)).trans (fr3 x hx)
  have s4 := b3.put (j := 3) (v := pN D3 + 1) (show q ≠ q + 47 by omega)
  have p4 : pP (psP C4 q 3 (pN D3 + 1)) q 3 = (q + 47) + 1 := by rw [psP_at, if_pos ⟨rfl, rfl⟩, n3]
  have t1 := (s1.at b1 (by omega)).put (j := 3) (v := pN D3 + 1) (show q < q + 1 by omega)
  have u1 : pP (psP C4 q 3 (pN D3 + 1)) q 0 = (q + 1) + 1 := by rw [psP_at, if_neg (fun z => absurd z.2 (by decide)), (b1 q (by omega)).2.1]; exact p1
  have v1 := c1.lo b5 (by omega)
  clear s1 p1 c1
  have s1 := t1
  have p1 := u1
  have c1 := v1
  clear t1 u1 v1
  have t2 := (s2.at b1 (by omega)).put (j := 3) (v := pN D3 + 1) (show q ≠ q + 43 by omega)
  have u2 : pP (psP C4 q 3 (pN D3 + 1)) q 1 = (q + 43) + 1 := by rw [psP_at, if_neg (fun z => absurd z.2 (by decide)), (b1 q (by omega)).2.1]; exact p2
  have v2 := c2.lo b5 (by omega)
  clear s2 p2 c2
  have s2 := t2
  have p2 := u2
  have c2 := v2
  clear t2 u2 v2
  have t3 := (s3.at b1 (by omega)).put (j := 3) (v := pN D3 + 1) (show q ≠ q + 45 by omega)
  have u3 : pP (psP C4 q 3 (pN D3 + 1)) q 2 = (q + 45) + 1 := by rw [psP_at, if_neg (fun z => absurd z.2 (by decide)), (b1 q (by omega)).2.1]; exact p3
  have v3 := c3.lo b5 (by omega)
  clear s3 p3 c3
  have s3 := t3
  have p3 := u3
  have c3 := v3
  clear t3 u3 v3
  have c4 := b4
  clear b3 b4 b1 b5 kq3 n3 at3 fr3
  clear b2
  generalize psP C4 q 3 (pN D3 + 1) = D4 at *
  refine st_aload oX10_init_59 rfl ?_
  refine st_new oX10_init_60 (by decide) (by decide) (by show pN D4 < pBIG; omega) ?_
  refine st_dup oX10_init_63 rfl ?_
  refine st_const oX10_init_64 ?_
  refine st_callI_v (res := (1, 10)) [.int 10] oX10_init_66 rfl rfl (ps8 rfl) (by decide) (by decide) (c_newRow (B := D4) (I := J4) (by omega) 10 (by omega) (by decide) (fun C5 J5 b1 b2 b3 b4 b5 => ?_))
  refine st_putP oX10_init_69 ((b1 q (by omega)).1.trans kq4) ?_
  refine st_nm (fun Nb eb => ?_)
  have eb2 : Nb = pset (psP C5 q 4 (pN D4 + 1)) J5 := eb
  clear eb
  subst eb2
  rw [n4] at b3 b4
  have kq5 : pK (psP C5 q 4 (pN D4 + 1)) q = (1, 10) := (b1 q (by omega)).1.trans kq4
  have n5 : pN (psP C5 q 4 (pN D4 + 1)) = q + 51 := by show pN C5 = _; omega
  have at5 : At q B (psP C5 q 4 (pN D4 + 1)) := (at4.tr (b1.le (by omega))).tr (At.putP (Nat.le_refl _))
  have fr5 : ∀ x, x < q → J5 x = I x := fun x hx => (b5 x (by omega)).trans (fr4 x hx)
  have s5 := b3.put (j := 4) (v := pN D4 + 1) (show q ≠ q + 49 by omega)
  have p5 : pP (psP C5 q 4 (pN D4 + 1)) q 4 = (q + 49) + 1 := by rw [psP_at, if_pos ⟨rfl, rfl⟩, n4]
  have t1 := (s1.at b1 (by omega)).put (j := 4) (v := pN D4 + 1) (show q < q + 1 by omega)
  have u1 : pP (psP C5 q 4 (pN D4 + 1)) q 0 = (q + 1) + 1 := by rw [psP_at, if_neg (fun z => absurd z.2 (by decide)), (b1 q (by omega)).2.1]; exact p1
  have v1 := c1.lo b5 (by omega)
  clear s1 p1 c1
  have s1 := t1
  have p1 := u1
  have c1 := v1
  clear t1 u1 v1
  have t2 := (s2.at b1 (by omega)).put (j := 4) (v := pN D4 + 1) (show q ≠ q + 43 by omega)
  have u2 : pP (psP C5 q 4 (pN D4 + 1)) q 1 = (q + 43) + 1 := by rw [psP_at, if_neg (fun z => absurd z.2 (by decide)), (b1 q (by omega)).2.1]; exact p2
  have v2 := c2.lo b5 (by omega)
  clear s2 p2 c2
  have s2 := t2
  have p2 := u2
  have c2 := v2
  clear t2 u2 v2
  have t3 := (s3.at b1 (by omega)).put (j := 4) (v := pN D4 + 1) (show q ≠ q + 45 by omega)
  have u3 : pP (psP C5 q 4 (pN D4 + 1)) q 2 = (q + 45) + 1 := by rw [psP_at, if_neg (fun z => absurd z.2 (by decide)), (b1 q (by omega)).2.1]; exact p3
  have v3 := c3.lo b5 (by omega)
  clear s3 p3 c3
  have s3 := t3
  have p3 := u3
  have c3 := v3
  clear t3 u3 v3
  have t4 := (s4.at b1 (by omega)).put (j := 4) (v := pN D4 + 1) (show q ≠ q + 47 by omega)
  have u4 : pP (psP C5 q 4 (pN D4 + 1)) q 3 = (q + 47) + 1 := by rw [psP_at, if_neg (fun z => absurd z.2 (by decide)), (b1 q (by omega)).2.1]; exact p4
  have v4 := c4.lo b5 (by omega)
  clear s4 p4 c4
  have s4 := t4
  have p4 := u4
  have c4 := v4
  clear t4 u4 v4
  have c5 := b4
  clear b3 b4 b1 b5 kq4 n4 at4 fr4
  clear b2
  generalize psP C5 q 4 (pN D4 + 1) = D5 at *
  have ts : toksS D5 q := ⟨kq5, ⟨p1, p2, p3, p4, p5⟩, s1, s2, s3, s4, s5⟩
  have key : ∀ (m i : Nat) (J : pIm), 91 - i = m → i ≤ 91 → Nm J (q + 1) 19 (kwl i).1 → Rw J (q + 49) (kwl i).2 → (∀ x, x < q → J x = I x) → Go (d - 1) mX10_init (fun r M1 => r = .inl none ∧ K M1) 74 ([some (.ref q), some (.int (nI i))], [], 0, 0) (pset D5 J) := by
    intro m
    induction m with
    | zero =>
      intro i J hm hi k1 k2 k3
      have e : i = 91 := by omega
      subst e
      refine st_iload oX10_init_74 rfl ?_
      refine st_const oX10_init_75 ?_
      refine st_callSt_i [] oX10_init_77 rfl rfl (by decide) (ps8 rfl) (c_slength (by omega) (by decide) ?_)
      refine st_icmp oX10_init_80 (fun _ => ?_) (fun g => absurd (by decide) g)
      rw [kwl_end] at k1
      exact st_vret oX10_init_135 ⟨rfl, h D5 J at5 n5 ts k1 k3⟩
    | succ m ih =>
      intro i J hm hi k1 k2 k3
      have hlt : i < 91 := by omega
      have hj : i < sN 0 := hlt
      obtain ⟨o1, o2⟩ := kwl_ok i hlt
      refine st_iload oX10_init_74 rfl ?_
      refine st_const oX10_init_75 ?_
      refine st_callSt_i [] oX10_init_77 rfl rfl (by decide) (ps8 rfl) (c_slength (by omega) (by decide) ?_)
      refine st_icmp oX10_init_80 (fun g => absurd ((nI_leI (a := sN 0) (by decide) (by omega)).mp g) (by omega)) (fun _ => ?_)
      refine st_const oX10_init_83 ?_
      refine st_iload oX10_init_85 rfl ?_
      refine st_callSt_i [.int (nI i)] oX10_init_86 rfl rfl (by decide) (ps8 rfl) (c_scharAt (by omega) (by decide) hj ?_)
      refine st_const oX10_init_89 ?_
      have nx : ∀ J2 : pIm, Nm J2 (q + 1) 19 (kwl (i + 1)).1 → Rw J2 (q + 49) (kwl (i + 1)).2 → (∀ x, x < q → J2 x = I x) → Go (d - 1) mX10_init (fun r M1 => r = .inl none ∧ K M1) 129 ([some (.ref q), some (.int (nI i))], [], 0, 0) (pset D5 J2) := by
        intro J2 x1 x2 x3
        refine st_iinc (L2 := [some (.ref q), some (.int (nI (i + 1)))]) oX10_init_129 rfl (by decide) rfl (by rw [nI_1]; rfl) ?_
        refine st_goto oX10_init_132 ?_
        exact ih (i + 1) J2 (by omega) (by omega) x1 x2 x3
      refine st_icmp oX10_init_91 (fun g => ?_) (fun g => ?_)
      · obtain ⟨y1, y2⟩ := o1 g
        refine st_aload oX10_init_110 rfl ?_
        refine st_getP oX10_init_111 kq5 p1 ?_
        refine st_aload oX10_init_114 rfl ?_
        refine st_getP oX10_init_115 kq5 p5 ?_
        refine st_callV0_i [.ref (q + 49)] oX10_init_118 rfl rfl s1.1 (ps8 rfl) (c_nadd (by omega) s1 k1 s5 y2 y2 (by omega) k2 (fun _ J2 z1 z2 => ?_) (fun z => absurd z (by omega)))
        refine st_pop oX10_init_121 rfl ?_
        refine st_aload oX10_init_122 rfl ?_
        refine st_getP oX10_init_123 kq5 p5 ?_
        refine st_callV0_v [] oX10_init_126 rfl rfl s5.1 (ps8 rfl) (c_clear (by omega) s5 (fun J3 w1 w2 => ?_))
        have e : kwl (i + 1) = ((kwl i).1 ++ [(kwl i).2], []) := by rw [kwl, if_pos g]
        refine nx J3 (by rw [e]; exact z1.f w2 (by omega)) (by rw [e]; exact w1) (fun x hx => by rw [w2 x (by omega), z2 x (by omega)]; exact k3 x hx)
      · have y2 := o2 g
        refine st_aload oX10_init_94 rfl ?_
        refine st_getP oX10_init_95 kq5 p5 ?_
        refine st_const oX10_init_98 ?_
        refine st_iload oX10_init_100 rfl ?_
        refine st_callSt_i [.int (nI i)] oX10_init_101 rfl rfl (by decide) (ps8 rfl) (c_scharAt (by omega) (by decide) hj ?_)
        refine st_callV0_v [.int ((sB 0).getD i 0)] oX10_init_104 rfl rfl s5.1 (ps8 rfl) (c_add' (by omega) s5 y2 k2 (fun J2 z1 z2 => ?_))
        refine st_goto oX10_init_107 ?_
        have e : kwl (i + 1) = ((kwl i).1, (kwl i).2 ++ [(sB 0).getD i 0]) := by rw [kwl, if_neg g]
        refine nx J2 (by rw [e]; exact k1.f z2 (by omega)) (by rw [e]; exact z1) (fun x hx => by rw [z2 x (by omega)]; exact k3 x hx)
  refine st_const oX10_init_72 ?_
  refine st_istore (L2 := [some (.ref q), some (.int (nI 0))]) oX10_init_73 (by decide) rfl rfl ?_
  exact key 91 0 J5 rfl (by omega) c1 c5 fr5
