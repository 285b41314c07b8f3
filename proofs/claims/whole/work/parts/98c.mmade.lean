/-! THE REFERENCE: made -/
theorem csA.u {q N f : Nat} {v : Int32} {k : Nat × Nat} {B D : pM} {I J : pIm} {l : List (Nat × Nat × (Nat × Nat))} (h : csA q k B D I J N l) : csA q k B D I (u2 J q f v) N l := by
  obtain ⟨a1, a2, a3, a4, a5, a6, a7⟩ := h
  exact ⟨a1, a2, a3, a4, fun x hx => (u2_a (Nat.ne_of_lt hx)).trans (a5 x hx), fun x f' h1 h2 => by rw [u2_a (Nat.ne_of_gt h1)]; exact a6 x f' h1 h2, a7⟩
theorem mbS.E {q N p : Nat} {D D' : pM} (h : mbS D p) (e : csE q N D D') (h1 : q < p) (h2 : p + 11 ≤ q + N) : mbS D' p := by
  have K : ∀ i, i < 11 → pK D' (p + i) = pK D (p + i) := fun i hi => (e (p + i) (by omega)).1
  have P : pP D' p = pP D p := (e p (by omega)).2 (by omega)
  unfold mbS
  rw [show pK D' p = pK D p from K 0 (by omega), K 1 (by omega), K 2 (by omega), K 3 (by omega), K 4 (by omega), K 5 (by omega), K 6 (by omega), K 7 (by omega), K 8 (by omega), K 9 (by omega), K 10 (by omega), P]
  exact h
theorem cs_book {q N j d : Nat} (hd : 1 ≤ d) {k : Nat × Nat} {B D : pM} {I J : pIm} {l : List (Nat × Nat × (Nat × Nat))} {P : pM → Prop} (hA : csA q k B D I J N l) (hB : q + N + 11 < pBIG) (hj : ∀ x ∈ l, x.2.1 ≠ j) (h : ∀ D' J', csA q k B D' I J' (N + 11) (l ++ [(N, j, (1, 12))]) → csE q N D D' → mbS D' (q + N) → J' q = J q → P (pset D' J')) : pCall_v d mX12_init (10, 3887) [.ref (pN (pset D J))] (pnew (pset D J) (1, 12)) (fun M1 => pK M1 q = k ∧ ∀ N2 : pM, N2 = psP M1 q j (pN (pset D J) + 1) → P N2) := by
  obtain ⟨a1, a2, a3, a4, a5, a6, a7⟩ := hA
  have hpn : pN (pset D J) = q + N := a2
  rw [hpn, pnew_pset]
  have kn : pK (pnew D (1, 12)) (q + N) = (1, 12) := if_pos a2.symm
  have nn : pN (pnew D (1, 12)) = q + N + 1 := by
    show pN D + 1 = _
    rw [a2]
  have ne : ∀ x, x < q + N → x ≠ pN D := fun x hx => by rw [a2]; omega
  refine c_mbookInit hd kn nn hB (fun C J' b1 b2 b3 b4 b5 b6 => ?_)
  have kC : ∀ x, x < q + N → pK C x = pK D x := fun x hx => (b1 x hx).1.trans (if_neg (ne x hx))
  have pC : ∀ x, x < q + N → pP C x = pP D x := fun x hx => (b1 x hx).2.1.trans (funext (fun y => if_neg (ne x hx)))
  have lC : ∀ x, x < q + N → pL C x = pL D x := fun x hx => (b1 x hx).2.2.trans (funext (fun y => if_neg (ne x hx)))
  refine ⟨(kC q (by omega)).trans a4, fun N2 e2 => ?_⟩
  have e : N2 = pset (psP C q j (q + N + 1)) J' := e2
  rw [e]
  have Po : ∀ y, y ≠ j → pP (psP C q j (q + N + 1)) q y = pP D q y := fun y hy2 => by
    rw [psP_at, if_neg (fun z => hy2 z.2), pC q (by omega)]
  have Px : ∀ x, x ≠ q → pP (psP C q j (q + N + 1)) x = pP C x := fun x hx => funext (fun y => by rw [psP_at, if_neg (fun z => hx z.1)])
  refine h _ J' ⟨?_, ?_, by omega, (kC q (by omega)).trans a4, fun x hx => ?_, fun x f h1 h2 => ?_, fun x hx => ?_⟩ (fun x hx => ⟨kC x hx, fun hq => (Px x hq).trans (pC x hx)⟩) ?_ ?_
  · refine (a1.tr (fun x hx => ⟨kC x (by omega), pC x (by omega), lC x (by omega)⟩)).tr (At.putP (Nat.le_refl _))
  · show pN C = _
    rw [b2, Nat.add_assoc]
  · rw [b4 x (by omega), ← a5 x hx]
    funext y
    exact if_neg (ne x (by omega))
  · by_cases c : x < q + N
    · rw [b4 x c]
      exact (if_neg (ne x c)).trans (a6 x f h1 c)
    · by_cases c2 : x = q + N
      · rw [c2, b5]
        exact if_pos a2.symm
      · exact b6 x f (by omega) (by omega)
  · rcases List.mem_append.mp hx with y | y
    · obtain ⟨w1, w2, w3, w4⟩ := a7 x y
      exact ⟨w1, by omega, (kC _ (by omega)).trans w3, (Po _ (hj x y)).trans w4⟩
    · rw [List.mem_singleton.mp y]
      refine ⟨a3, by show N < N + 11; omega, b3.1, ?_⟩
      rw [psP_at, if_pos ⟨rfl, rfl⟩]
  · exact b3.cgP (fun _ => rfl) (fun y => by rw [Px _ (by omega)])
  · rw [b4 q (by omega)]
    funext y
    exact if_neg (ne q (by omega))
theorem mb_empty {J : pIm} {q : Nat} (h : J q 0 = 0 ∧ J q 1 = 0 ∧ J q 2 = 0 ∧ J q 3 = 0) (hk : ∀ c, c < 128 → J (q + 5) c = -1) : mbD J q bK0 := by
  refine ⟨⟨h.1, h.2.1, h.2.2.1, h.2.2.2⟩, fun w l hm => absurd hm (by simp [bK0]), Ar.nil, Ar.nil, Ar.nil, ⟨by simp [bK0], by simp [bK0], fun l hl => absurd hl (by simp [bK0]), rfl, rfl⟩, ⟨List.length_replicate, List.length_replicate, fun c hc => Or.inl ⟨?_, hk c hc⟩⟩, [], rfl, by simp [bK0], by simp [flatL], rfl, rfl, fun i x hx => absurd hx (by simp)⟩
  show rat (List.replicate 128 (-1)) (nI c) = -1
  exact rat_in (List.getElem?_replicate.trans (if_pos hc)) (by rw [List.length_replicate]; omega)
/-- a new reference -/
theorem c_mInit {d : Nat} (hd : 2 ≤ d) {B : pM} {I : pIm} {q : Nat} {K : pM → Prop} (hk : pK B q = (1, 13)) (hN : pN B = q + 1) (hB : q + 36 < pBIG) (hI : ∀ f, I q f = 0)
    (h : ∀ C J, At q B C → pN C = q + 36 → mdS C q (q + 6) (q + 17) → modD J q (q + 6) ([], -1, bK0, [], 0, -1, 4) → J q 0 = 0 → (∀ x, x < q → J x = I x) → K (pset C J)) : pCall_v d mX13_init (35, 11631) [.ref q] (pset B I) K := by
  refine CP_go (by omega) okX13_init (Nat.le_of_ble_eq_true rfl) (bX13_init_0 ?_)
  have hd1 : 1 ≤ d - 1 := by omega
  have c2000 : Int32.toNatClampNeg (2000 : Int32) = 2000 := by decide
  have c402 : Int32.toNatClampNeg (402 : Int32) = 402 := by decide
  have c6 : Int32.toNatClampNeg (6 : Int32) = 6 := by decide
  have c40 : Int32.toNatClampNeg (40 : Int32) = 40 := by decide
  have c20 : Int32.toNatClampNeg (20 : Int32) = 20 := by decide
  have c11 : Int32.toNatClampNeg (11 : Int32) = 11 := by decide
  simp only [c2000, c402, c6, c40, c20, c11]
  have A0 : csA q (1, 13) B B I I 1 [] := ⟨At.rf, hN, Nat.le_refl _, hk, fun _ _ => rfl, fun x f h1 h2 => absurd h1 (by omega), fun x hx => absurd hx (by simp)⟩
  refine ⟨by decide, by decide, by decide, by decide, cs_step A0 (by omega) (by decide) (fun D1 J1 A1 e1 j1 => ?_)⟩
  refine ⟨A1.2.2.2.1, fun N2 en2 => ?_⟩
  subst en2
  rw [psI_set]
  have A2 := A1.u (f := 3) (v := -1)
  have j2 : u2 J1 q 3 (-1) q = u2 J1 q 3 (-1) q := rfl
  have g2 : (∀ x, x ≠ 3 → u2 J1 q 3 (-1) q x = J1 q x) ∧ u2 J1 q 3 (-1) q 3 = -1 := ⟨fun x hx => u2_j hx, u2_same⟩
  clear j2
  generalize u2 J1 q 3 (-1) = J2 at A2 g2 ⊢
  refine ⟨by decide, by decide, by decide, by decide, cs_step A2 (by omega) (by decide) (fun D3 J3 A3 e3 j3 => ?_)⟩
  refine ⟨by decide, by decide, by decide, by decide, cs_step A3 (by omega) (by decide) (fun D4 J4 A4 e4 j4 => ?_)⟩
  refine ⟨by decide, by decide, by decide, by decide, cs_step A4 (by omega) (by decide) (fun D5 J5 A5 e5 j5 => ?_)⟩
  refine ⟨by decide, by decide, by decide, by decide, cs_step A5 (by omega) (by decide) (fun D6 J6 A6 e6 j6 => ?_)⟩
  refine ⟨by decide, by decide, by show pN D6 < pBIG; rw [A6.2.1]; omega, fun Nb7 eb7 => ⟨(10, 3887), by decide, by decide, ?_⟩⟩
  subst eb7
  refine cs_book hd1 A6 (by omega) (by decide) (fun D7 J7 A7 e7 m7 j7 => ?_)
  have M0_7 := m7
  refine ⟨by decide, by decide, by show pN D7 < pBIG; rw [A7.2.1]; omega, fun Nb8 eb8 => ⟨(10, 3887), by decide, by decide, ?_⟩⟩
  subst eb8
  refine cs_book hd1 A7 (by omega) (by decide) (fun D8 J8 A8 e8 m8 j8 => ?_)
  have M0_8 := M0_7.E e8 (by omega) (by omega)
  have M1_8 := m8
  refine ⟨by decide, by decide, by decide, by decide, cs_step A8 (by omega) (by decide) (fun D9 J9 A9 e9 j9 => ?_)⟩
  have M0_9 := M0_8.E e9 (by omega) (by omega)
  have M1_9 := M1_8.E e9 (by omega) (by omega)
  refine ⟨by decide, by decide, by decide, by decide, cs_step A9 (by omega) (by decide) (fun D10 J10 A10 e10 j10 => ?_)⟩
  have M0_10 := M0_9.E e10 (by omega) (by omega)
  have M1_10 := M1_9.E e10 (by omega) (by omega)
  refine ⟨by decide, by decide, by decide, by decide, cs_step A10 (by omega) (by decide) (fun D11 J11 A11 e11 j11 => ?_)⟩
  have M0_11 := M0_10.E e11 (by omega) (by omega)
  have M1_11 := M1_10.E e11 (by omega) (by omega)
  refine ⟨A11.2.2.2.1, fun N12 en12 => ?_⟩
  subst en12
  rw [psI_set]
  have A12 := A11.u (f := 20) (v := -1)
  have j12 : u2 J11 q 20 (-1) q = u2 J11 q 20 (-1) q := rfl
  have g12 : (∀ x, x ≠ 20 → u2 J11 q 20 (-1) q x = J11 q x) ∧ u2 J11 q 20 (-1) q 20 = -1 := ⟨fun x hx => u2_j hx, u2_same⟩
  clear j12
  generalize u2 J11 q 20 (-1) = J12 at A12 g12 ⊢
  have M0_12 := M0_11
  have M1_12 := M1_11
  refine ⟨A12.2.2.2.1, fun N13 en13 => ?_⟩
  subst en13
  rw [psI_set]
  have A13 := A12.u (f := 21) (v := 4)
  have j13 : u2 J12 q 21 (4) q = u2 J12 q 21 (4) q := rfl
  have g13 : (∀ x, x ≠ 21 → u2 J12 q 21 (4) q x = J12 q x) ∧ u2 J12 q 21 (4) q 21 = 4 := ⟨fun x hx => u2_j hx, u2_same⟩
  clear j13
  generalize u2 J12 q 21 (4) = J13 at A13 g13 ⊢
  have M0_13 := M0_12
  have M1_13 := M1_12
  refine ⟨by decide, by decide, by decide, by decide, cs_step A13 (by omega) (by decide) (fun D14 J14 A14 e14 j14 => ?_)⟩
  have M0_14 := M0_13.E e14 (by omega) (by omega)
  have M1_14 := M1_13.E e14 (by omega) (by omega)
  refine ⟨by decide, by decide, by decide, by decide, cs_step A14 (by omega) (by decide) (fun D15 J15 A15 e15 j15 => ?_)⟩
  have M0_15 := M0_14.E e15 (by omega) (by omega)
  have M1_15 := M1_14.E e15 (by omega) (by omega)
  refine ⟨by decide, by decide, by decide, by decide, cs_step A15 (by omega) (by decide) (fun D16 J16 A16 e16 j16 => ?_)⟩
  have M0_16 := M0_15.E e16 (by omega) (by omega)
  have M1_16 := M1_15.E e16 (by omega) (by omega)
  refine ⟨by decide, by decide, by decide, by decide, cs_step A16 (by omega) (by decide) (fun D17 J17 A17 e17 j17 => ?_)⟩
  have M0_17 := M0_16.E e17 (by omega) (by omega)
  have M1_17 := M1_16.E e17 (by omega) (by omega)
  refine ⟨by decide, by decide, by decide, by decide, cs_step A17 (by omega) (by decide) (fun D18 J18 A18 e18 j18 => ?_)⟩
  have M0_18 := M0_17.E e18 (by omega) (by omega)
  have M1_18 := M1_17.E e18 (by omega) (by omega)
  obtain ⟨a1, a2, a3, a4, a5, a6, a7⟩ := A18
  have md : mdS D18 q (q + 6) (q + 17) := ⟨a4, ⟨(a7 (1, 1, (2, 2000)) (by decide)).2.2.2, (a7 (2, 4, (2, 402)) (by decide)).2.2.2, (a7 (3, 5, (2, 402)) (by decide)).2.2.2, (a7 (4, 6, (2, 402)) (by decide)).2.2.2, (a7 (5, 7, (2, 402)) (by decide)).2.2.2, (a7 (6, 8, (1, 12)) (by decide)).2.2.2, (a7 (17, 9, (1, 12)) (by decide)).2.2.2⟩, ⟨(a7 (28, 10, (2, 6)) (by decide)).2.2.2, (a7 (29, 11, (2, 40)) (by decide)).2.2.2, (a7 (30, 17, (2, 20)) (by decide)).2.2.2, (a7 (31, 22, (2, 20)) (by decide)).2.2.2, (a7 (32, 23, (2, 11)) (by decide)).2.2.2, (a7 (33, 24, (2, 40)) (by decide)).2.2.2, (a7 (34, 25, (2, 40)) (by decide)).2.2.2, (a7 (35, 26, (2, 40)) (by decide)).2.2.2⟩, ⟨(a7 (1, 1, (2, 2000)) (by decide)).2.2.1, (a7 (2, 4, (2, 402)) (by decide)).2.2.1, (a7 (3, 5, (2, 402)) (by decide)).2.2.1, (a7 (4, 6, (2, 402)) (by decide)).2.2.1, (a7 (5, 7, (2, 402)) (by decide)).2.2.1, (a7 (28, 10, (2, 6)) (by decide)).2.2.1, (a7 (29, 11, (2, 40)) (by decide)).2.2.1, (a7 (30, 17, (2, 20)) (by decide)).2.2.1, (a7 (31, 22, (2, 20)) (by decide)).2.2.1, (a7 (32, 23, (2, 11)) (by decide)).2.2.1, (a7 (33, 24, (2, 40)) (by decide)).2.2.1, (a7 (34, 25, (2, 40)) (by decide)).2.2.1, (a7 (35, 26, (2, 40)) (by decide)).2.2.1⟩, M0_18, M1_18, Or.inl ⟨rfl, rfl⟩, Nat.le_of_eq a2.symm⟩
  have R0 : ∀ f, I q f = 0 := hI
  have R1 : ∀ f, J1 q f = 0 := by rw [j1]; exact R0
  have R2 : ∀ f, f ≠ 3 → J2 q f = 0 := fun f h3 => (g2.1 f h3).trans (R1 f )
  have V3_2 : J2 q 3 = -1 := g2.2
  have R3 : ∀ f, f ≠ 3 → J3 q f = 0 := by rw [j3]; exact R2
  have V3_3 : J3 q 3 = -1 := by rw [j3]; exact V3_2
  have R4 : ∀ f, f ≠ 3 → J4 q f = 0 := by rw [j4]; exact R3
  have V3_4 : J4 q 3 = -1 := by rw [j4]; exact V3_3
  have R5 : ∀ f, f ≠ 3 → J5 q f = 0 := by rw [j5]; exact R4
  have V3_5 : J5 q 3 = -1 := by rw [j5]; exact V3_4
  have R6 : ∀ f, f ≠ 3 → J6 q f = 0 := by rw [j6]; exact R5
  have V3_6 : J6 q 3 = -1 := by rw [j6]; exact V3_5
  have R7 : ∀ f, f ≠ 3 → J7 q f = 0 := by rw [j7]; exact R6
  have V3_7 : J7 q 3 = -1 := by rw [j7]; exact V3_6
  have R8 : ∀ f, f ≠ 3 → J8 q f = 0 := by rw [j8]; exact R7
  have V3_8 : J8 q 3 = -1 := by rw [j8]; exact V3_7
  have R9 : ∀ f, f ≠ 3 → J9 q f = 0 := by rw [j9]; exact R8
  have V3_9 : J9 q 3 = -1 := by rw [j9]; exact V3_8
  have R10 : ∀ f, f ≠ 3 → J10 q f = 0 := by rw [j10]; exact R9
  have V3_10 : J10 q 3 = -1 := by rw [j10]; exact V3_9
  have R11 : ∀ f, f ≠ 3 → J11 q f = 0 := by rw [j11]; exact R10
  have V3_11 : J11 q 3 = -1 := by rw [j11]; exact V3_10
  have R12 : ∀ f, f ≠ 3 → f ≠ 20 → J12 q f = 0 := fun f h3 h20 => (g12.1 f h20).trans (R11 f h3)
  have V3_12 : J12 q 3 = -1 := (g12.1 3 (by decide)).trans V3_11
  have V20_12 : J12 q 20 = -1 := g12.2
  have R13 : ∀ f, f ≠ 3 → f ≠ 20 → f ≠ 21 → J13 q f = 0 := fun f h3 h20 h21 => (g13.1 f h21).trans (R12 f h3 h20)
  have V3_13 : J13 q 3 = -1 := (g13.1 3 (by decide)).trans V3_12
  have V20_13 : J13 q 20 = -1 := (g13.1 20 (by decide)).trans V20_12
  have V21_13 : J13 q 21 = 4 := g13.2
  have R14 : ∀ f, f ≠ 3 → f ≠ 20 → f ≠ 21 → J14 q f = 0 := by rw [j14]; exact R13
  have V3_14 : J14 q 3 = -1 := by rw [j14]; exact V3_13
  have V20_14 : J14 q 20 = -1 := by rw [j14]; exact V20_13
  have V21_14 : J14 q 21 = 4 := by rw [j14]; exact V21_13
  have R15 : ∀ f, f ≠ 3 → f ≠ 20 → f ≠ 21 → J15 q f = 0 := by rw [j15]; exact R14
  have V3_15 : J15 q 3 = -1 := by rw [j15]; exact V3_14
  have V20_15 : J15 q 20 = -1 := by rw [j15]; exact V20_14
  have V21_15 : J15 q 21 = 4 := by rw [j15]; exact V21_14
  have R16 : ∀ f, f ≠ 3 → f ≠ 20 → f ≠ 21 → J16 q f = 0 := by rw [j16]; exact R15
  have V3_16 : J16 q 3 = -1 := by rw [j16]; exact V3_15
  have V20_16 : J16 q 20 = -1 := by rw [j16]; exact V20_15
  have V21_16 : J16 q 21 = 4 := by rw [j16]; exact V21_15
  have R17 : ∀ f, f ≠ 3 → f ≠ 20 → f ≠ 21 → J17 q f = 0 := by rw [j17]; exact R16
  have V3_17 : J17 q 3 = -1 := by rw [j17]; exact V3_16
  have V20_17 : J17 q 20 = -1 := by rw [j17]; exact V20_16
  have V21_17 : J17 q 21 = 4 := by rw [j17]; exact V21_16
  have R18 : ∀ f, f ≠ 3 → f ≠ 20 → f ≠ 21 → J18 q f = 0 := by rw [j18]; exact R17
  have V3_18 : J18 q 3 = -1 := by rw [j18]; exact V3_17
  have V20_18 : J18 q 20 = -1 := by rw [j18]; exact V20_17
  have V21_18 : J18 q 21 = 4 := by rw [j18]; exact V21_17
  refine ⟨a4, q + 6, (a7 (6, 8, (1, 12)) (by decide)).2.2.2, (a7 (6, 8, (1, 12)) (by decide)).2.2.1, ?_⟩
  refine c_mempty hd1 M0_18 (fun J e z k => ⟨trivial, ?_⟩)
  have er : J q = J18 q := e q (by omega) (by omega)
  refine h D18 J a1 a2 md ⟨⟨?_, by simp, fun j x hx => absurd hx (by simp)⟩, ?_, mb_empty ⟨z.1, z.2.1, z.2.2.1, z.2.2.2.1⟩ k, ?_, by simp, Ar.nil, ?_, ?_, ?_⟩ ?_ (fun x hx => (e x (by omega) (by omega)).trans (a5 x hx))
  · rw [er]; exact R18 2 (by decide) (by decide) (by decide)
  · rw [er]; exact V3_18
  · rw [er]; exact R18 18 (by decide) (by decide) (by decide)
  · rw [er]; exact R18 19 (by decide) (by decide) (by decide)
  · rw [er]; exact V20_18
  · rw [er]; exact V21_18
  · rw [er]; exact R18 0 (by decide) (by decide) (by decide)
