/-! CONSTRUCTORS OF WHAT IS MADE OF ROWS -/
theorem namesS.at {B C : pM} {q n m : Nat} (h : namesS B q n) (e : At m B C) (hq : q + 4 + 2 * n ≤ m) : namesS C q n := by
  obtain ⟨h1, h2, h3, h4, h5, h6, h7⟩ := h
  obtain ⟨a1, a2, -⟩ := e q (by omega)
  obtain ⟨b1, b2, -⟩ := e (q + 3) (by omega)
  exact ⟨by rw [a1]; exact h1, by rw [a2]; exact h2, by rw [a2]; exact h3, h4.at e (by omega), by rw [b1]; exact h5, h6, fun i hi => ⟨by rw [b2]; exact (h7 i hi).1, (h7 i hi).2.at e (by omega)⟩⟩
theorem pP_put {B : pM} {a j v x : Nat} (h : x ≠ a) : pP (psP B a j v) x = pP B x := by
  funext y
  rw [psP_at, if_neg (fun z => h z.1)]
theorem namesS.put {B : pM} {q n a j v : Nat} (h : namesS B q n) (hq : a < q) : namesS (psP B a j v) q n := by
  obtain ⟨h1, h2, h3, h4, h5, h6, h7⟩ := h
  exact ⟨h1, by rw [pP_put (by omega)]; exact h2, by rw [pP_put (by omega)]; exact h3, h4.put (by omega), h5, h6, fun i hi => ⟨by rw [pP_put (by omega)]; exact (h7 i hi).1, (h7 i hi).2.put (by omega)⟩⟩
theorem keysS.at {B C : pM} {q m : Nat} (h : keysS B q) (e : At m B C) (hq : q + 5 ≤ m) : keysS C q := by
  obtain ⟨h1, h2, h3, h4, h5⟩ := h
  obtain ⟨a1, a2, -⟩ := e q (by omega)
  exact ⟨by rw [a1]; exact h1, by rw [a2]; exact h2, by rw [a2]; exact h3, h4.at e (by omega), h5.at e (by omega)⟩
theorem keysS.put {B : pM} {q a j v : Nat} (h : keysS B q) (hq : a < q) : keysS (psP B a j v) q := by
  obtain ⟨h1, h2, h3, h4, h5⟩ := h
  exact ⟨h1, by rw [pP_put (by omega)]; exact h2, by rw [pP_put (by omega)]; exact h3, h4.put (by omega), h5.put (by omega)⟩
theorem handS.at {B C : pM} {q m : Nat} (h : handS B q) (e : At m B C) (hq : q + 3 ≤ m) : handS C q := by
  obtain ⟨h1, h2, h3⟩ := h
  obtain ⟨a1, a2, -⟩ := e q (by omega)
  exact ⟨by rw [a1]; exact h1, by rw [a2]; exact h2, h3.at e (by omega)⟩
theorem handS.put {B : pM} {q a j v : Nat} (h : handS B q) (hq : a < q) : handS (psP B a j v) q := by
  obtain ⟨h1, h2, h3⟩ := h
  exact ⟨h1, by rw [pP_put (by omega)]; exact h2, h3.put (by omega)⟩
theorem reckS.at {B C : pM} {q m : Nat} (h : reckS B q) (e : At m B C) (hq : q + 3 ≤ m) : reckS C q := by
  obtain ⟨h1, h2, h3⟩ := h
  obtain ⟨a1, a2, -⟩ := e q (by omega)
  exact ⟨by rw [a1]; exact h1, by rw [a2]; exact h2, h3.at e (by omega)⟩
theorem reckS.put {B : pM} {q a j v : Nat} (h : reckS B q) (hq : a < q) : reckS (psP B a j v) q := by
  obtain ⟨h1, h2, h3⟩ := h
  exact ⟨h1, by rw [pP_put (by omega)]; exact h2, h3.put (by omega)⟩
theorem boostsS.at {B C : pM} {q m : Nat} (h : boostsS B q) (e : At m B C) (hq : q + 417 ≤ m) : boostsS C q := by
  obtain ⟨h1, h2, r1, r2, r3, r4, r5, r6, r7⟩ := h
  obtain ⟨a1, a2, -⟩ := e q (by omega)
  exact ⟨by rw [a1]; exact h1, by rw [a2]; exact h2, r1.at e (by omega), r2.at e (by omega), r3.at e (by omega), r4.at e (by omega), r5.at e (by omega), r6.at e (by omega), r7.at e (by omega)⟩
theorem boostsS.put {B : pM} {q a j v : Nat} (h : boostsS B q) (hq : a < q) : boostsS (psP B a j v) q := by
  obtain ⟨h1, h2, r1, r2, r3, r4, r5, r6, r7⟩ := h
  exact ⟨h1, by rw [pP_put (by omega)]; exact h2, r1.put (by omega), r2.put (by omega), r3.put (by omega), r4.put (by omega), r5.put (by omega), r6.put (by omega), r7.put (by omega)⟩
theorem keepI {N : Nat} {I J : pIm} {k : Nat × Nat} {B : pM} (hN : pN B = N) (h : ∀ x, x < N → J x = (fun y => if x = pN B then 0 else I x y)) : ∀ x, x < N → J x = I x := fun x hx => by
  rw [h x hx]
  funext y
  exact if_neg (by omega)
theorem c_newNames {d : Nat} (hd : 2 ≤ d) {B : pM} {I : pIm} (n : Nat) {K : pM → Prop} (hB : pN B + 4 + 2 * n < pBIG) (hn : n < 1000)
    (h : ∀ C J, At (pN B) B C → pN C = pN B + (4 + 2 * n) → namesS C (pN B) n → Nm J (pN B) n [] → (∀ x, x < pN B → J x = I x) → K (pset C J)) : pCall_v d mX5_init (2 * n + 3, 13 * n + 2) [.ref (pN B), .int (nI n)] (pnew (pset B I) (1, 5)) K := by
  rw [pnew_pset]
  have kq : pK (pnew B (1, 5)) (pN B) = (1, 5) := if_pos rfl
  exact c_namesInit hd n kq rfl hB hn (fun C J a1 a2 a3 a4 a5 => h C J (At.new.tr a1) (by omega) a3 a4 (keepI (k := (1, 5)) rfl a5))
theorem c_newReck {d : Nat} (hd : 2 ≤ d) {B : pM} {I : pIm} {K : pM → Prop} (hB : pN B + 3 < pBIG)
    (h : ∀ C J, At (pN B) B C → pN C = pN B + 3 → reckS C (pN B) → True → (∀ x, x < pN B → J x = I x) → K (pset C J)) : pCall_v d mX8_init (2, 402) [.ref (pN B)] (pnew (pset B I) (1, 8)) K := by
  rw [pnew_pset]
  have kq : pK (pnew B (1, 8)) (pN B) = (1, 8) := if_pos rfl
  exact c_reckInit hd kq rfl hB (fun C J a1 a2 a3 a5 => h C J (At.new.tr a1) a2 a3 trivial (keepI (k := (1, 8)) rfl a5))
theorem c_newHand {d : Nat} (hd : 2 ≤ d) {B : pM} {I : pIm} {K : pM → Prop} (hB : pN B + 3 < pBIG)
    (h : ∀ C J, At (pN B) B C → pN C = pN B + 3 → handS C (pN B) → Hd J (pN B) [] 0 (-1) 4 → (∀ x, x < pN B → J x = I x) → K (pset C J)) : pCall_v d mX3_init (2, 22) [.ref (pN B)] (pnew (pset B I) (1, 3)) K := by
  rw [pnew_pset]
  have kq : pK (pnew B (1, 3)) (pN B) = (1, 3) := if_pos rfl
  exact c_handInit hd kq rfl hB (fun C J a1 a2 a3 a4 a5 => h C J (At.new.tr a1) a2 a3 a4 (keepI (k := (1, 3)) rfl a5))
theorem Rw.lo {I J : pIm} {q m : Nat} {l : List Int32} (h : Rw I q l) (f : ∀ x, x < m → J x = I x) (hq : q + 2 ≤ m) : Rw J q l := h.fr (f q (by omega)) (f (q + 1) (by omega))
theorem Nm.lo {I J : pIm} {q n m : Nat} (h : Nm I q n []) (f : ∀ x, x < m → J x = I x) (hq : q + 4 + 2 * n ≤ m) : Nm J q n [] := ⟨by rw [f q (by omega)]; exact h.1, h.2.1, h.2.2.1.lo f (by omega), fun i l hl => nomatch hl⟩
theorem c_rankInit {d : Nat} (hd : 4 ≤ d) {B : pM} {I : pIm} {q : Nat} {K : pM → Prop} (hk : pK B q = (1, 6)) (hN : pN B = q + 1) (hB : q + 14 < pBIG)
    (h : ∀ C J, At q B C → pN C = q + 14 → rankS C q → (∀ x, x < q → J x = I x) → K (pset C J)) : pCall_v d mX6_init (13, 549) [.ref q] (pset B I) K := by
  refine CP_go (by omega) okX6_init (Nat.le_of_ble_eq_true rfl) (bX6_init_0 ?_)
  have d0 : 3 ≤ d - 1 := by omega
  have at0 : At q B B := At.rf
  have fr0 : ∀ x, x < q → I x = I x := fun _ _ => rfl
  refine ⟨by decide, by decide, by show pN B < pBIG; omega, fun Na ea => ⟨(1, 40), by decide, by decide, ?_⟩⟩
  subst ea
  refine c_newRow (B := B) (I := I) (by omega) 40 (by omega) (by decide) (fun C1 J1 b1 b2 b3 b4 b5 => ⟨(b1 q (by omega)).1.trans hk, fun Nb eb => ?_⟩)
  have eb2 : Nb = pset (psP C1 q 0 (pN B + 1)) J1 := eb
  clear eb
  subst eb2
  rw [hN] at b3 b4
  have kq1 : pK (psP C1 q 0 (pN B + 1)) q = (1, 6) := (b1 q (by omega)).1.trans hk
  have n1 : pN (psP C1 q 0 (pN B + 1)) = q + 3 := by show pN C1 = _; omega
  have at1 : At q B (psP C1 q 0 (pN B + 1)) := (at0.tr (b1.le (by omega))).tr (At.putP (Nat.le_refl _))
  have fr1 : ∀ x, x < q → J1 x = I x := fun x hx => (b5 x (by omega)).trans (fr0 x hx)
  have s1 := b3.put (j := 0) (v := pN B + 1) (show q ≠ q + 1 by omega)
  have p1 : pP (psP C1 q 0 (pN B + 1)) q 0 = (q + 1) + 1 := by rw [psP_at, if_pos ⟨rfl, rfl⟩, hN]
  have c1 := b4
  clear b3 b4 b1 b5   at0 fr0
  clear b2
  generalize psP C1 q 0 (pN B + 1) = D1 at *
  refine ⟨by decide, by decide, by show pN D1 < pBIG; omega, fun Na ea => ⟨(1, 40), by decide, by decide, ?_⟩⟩
  subst ea
  refine c_newRow (B := D1) (I := J1) (by omega) 40 (by omega) (by decide) (fun C2 J2 b1 b2 b3 b4 b5 => ⟨(b1 q (by omega)).1.trans kq1, fun Nb eb => ?_⟩)
  have eb2 : Nb = pset (psP C2 q 1 (pN D1 + 1)) J2 := eb
  clear eb
  subst eb2
  rw [n1] at b3 b4
  have kq2 : pK (psP C2 q 1 (pN D1 + 1)) q = (1, 6) := (b1 q (by omega)).1.trans kq1
  have n2 : pN (psP C2 q 1 (pN D1 + 1)) = q + 5 := by show pN C2 = _; omega
  have at2 : At q B (psP C2 q 1 (pN D1 + 1)) := (at1.tr (b1.le (by omega))).tr (At.putP (Nat.le_refl _))
  have fr2 : ∀ x, x < q → J2 x = I x := fun x hx => (b5 x (by omega)).trans (fr1 x hx)
  have s2 := b3.put (j := 1) (v := pN D1 + 1) (show q ≠ q + 3 by omega)
  have p2 : pP (psP C2 q 1 (pN D1 + 1)) q 1 = (q + 3) + 1 := by rw [psP_at, if_pos ⟨rfl, rfl⟩, n1]
  have t1 := (s1.at b1 (by omega)).put (j := 1) (v := pN D1 + 1) (show q ≠ q + 1 by omega)
  have u1 : pP (psP C2 q 1 (pN D1 + 1)) q 0 = (q + 1) + 1 := by rw [psP_at, if_neg (fun z => absurd z.2 (by decide)), (b1 q (by omega)).2.1]; exact p1
  have v1 := c1.lo b5 (by omega)
  clear s1 p1 c1
  have s1 := t1
  have p1 := u1
  have c1 := v1
  clear t1 u1 v1
  have c2 := b4
  clear b3 b4 b1 b5 kq1 n1 at1 fr1
  clear b2
  generalize psP C2 q 1 (pN D1 + 1) = D2 at *
  refine ⟨by decide, by decide, by show pN D2 < pBIG; omega, fun Na ea => ⟨(1, 40), by decide, by decide, ?_⟩⟩
  subst ea
  refine c_newRow (B := D2) (I := J2) (by omega) 40 (by omega) (by decide) (fun C3 J3 b1 b2 b3 b4 b5 => ⟨(b1 q (by omega)).1.trans kq2, fun Nb eb => ?_⟩)
  have eb2 : Nb = pset (psP C3 q 2 (pN D2 + 1)) J3 := eb
  clear eb
  subst eb2
  rw [n2] at b3 b4
  have kq3 : pK (psP C3 q 2 (pN D2 + 1)) q = (1, 6) := (b1 q (by omega)).1.trans kq2
  have n3 : pN (psP C3 q 2 (pN D2 + 1)) = q + 7 := by show pN C3 = _; omega
  have at3 : At q B (psP C3 q 2 (pN D2 + 1)) := (at2.tr (b1.le (by omega))).tr (At.putP (Nat.le_refl _))
  have fr3 : ∀ x, x < q → J3 x = I x := fun x hx => (b5 x (by omega)).trans (fr2 x hx)
  have s3 := b3.put (j := 2) (v := pN D2 + 1) (show q ≠ q + 5 by omega)
  have p3 : pP (psP C3 q 2 (pN D2 + 1)) q 2 = (q + 5) + 1 := by rw [psP_at, if_pos ⟨rfl, rfl⟩, n2]
  have t1 := (s1.at b1 (by omega)).put (j := 2) (v := pN D2 + 1) (show q ≠ q + 1 by omega)
  have u1 : pP (psP C3 q 2 (pN D2 + 1)) q 0 = (q + 1) + 1 := by rw [psP_at, if_neg (fun z => absurd z.2 (by decide)), (b1 q (by omega)).2.1]; exact p1
  have v1 := c1.lo b5 (by omega)
  clear s1 p1 c1
  have s1 := t1
  have p1 := u1
  have c1 := v1
  clear t1 u1 v1
  have t2 := (s2.at b1 (by omega)).put (j := 2) (v := pN D2 + 1) (show q ≠ q + 3 by omega)
  have u2 : pP (psP C3 q 2 (pN D2 + 1)) q 1 = (q + 3) + 1 := by rw [psP_at, if_neg (fun z => absurd z.2 (by decide)), (b1 q (by omega)).2.1]; exact p2
  have v2 := c2.lo b5 (by omega)
  clear s2 p2 c2
  have s2 := t2
  have p2 := u2
  have c2 := v2
  clear t2 u2 v2
  have c3 := b4
  clear b3 b4 b1 b5 kq2 n2 at2 fr2
  clear b2
  generalize psP C3 q 2 (pN D2 + 1) = D3 at *
  refine ⟨by decide, by decide, by show pN D3 < pBIG; omega, fun Na ea => ⟨(1, 5), by decide, by decide, ?_⟩⟩
  subst ea
  refine c_newRow (B := D3) (I := J3) (by omega) 5 (by omega) (by decide) (fun C4 J4 b1 b2 b3 b4 b5 => ⟨(b1 q (by omega)).1.trans kq3, fun Nb eb => ?_⟩)
  have eb2 : Nb = pset (psP C4 q 3 (pN D3 + 1)) J4 := eb
  clear eb
  subst eb2
  rw [n3] at b3 b4
  have kq4 : pK (psP C4 q 3 (pN D3 + 1)) q = (1, 6) := (b1 q (by omega)).1.trans kq3
  have n4 : pN (psP C4 q 3 (pN D3 + 1)) = q + 9 := by show pN C4 = _; omega
  have at4 : At q B (psP C4 q 3 (pN D3 + 1)) := (at3.tr (b1.le (by omega))).tr (At.putP (Nat.le_refl _))
  have fr4 : ∀ x, x < q → J4 x = I x := fun x hx => (b5 x (by omega)).trans (fr3 x hx)
  have s4 := b3.put (j := 3) (v := pN D3 + 1) (show q ≠ q + 7 by omega)
  have p4 : pP (psP C4 q 3 (pN D3 + 1)) q 3 = (q + 7) + 1 := by rw [psP_at, if_pos ⟨rfl, rfl⟩, n3]
  have t1 := (s1.at b1 (by omega)).put (j := 3) (v := pN D3 + 1) (show q ≠ q + 1 by omega)
  have u1 : pP (psP C4 q 3 (pN D3 + 1)) q 0 = (q + 1) + 1 := by rw [psP_at, if_neg (fun z => absurd z.2 (by decide)), (b1 q (by omega)).2.1]; exact p1
  have v1 := c1.lo b5 (by omega)
  clear s1 p1 c1
  have s1 := t1
  have p1 := u1
  have c1 := v1
  clear t1 u1 v1
  have t2 := (s2.at b1 (by omega)).put (j := 3) (v := pN D3 + 1) (show q ≠ q + 3 by omega)
  have u2 : pP (psP C4 q 3 (pN D3 + 1)) q 1 = (q + 3) + 1 := by rw [psP_at, if_neg (fun z => absurd z.2 (by decide)), (b1 q (by omega)).2.1]; exact p2
  have v2 := c2.lo b5 (by omega)
  clear s2 p2 c2
  have s2 := t2
  have p2 := u2
  have c2 := v2
  clear t2 u2 v2
  have t3 := (s3.at b1 (by omega)).put (j := 3) (v := pN D3 + 1) (show q ≠ q + 5 by omega)
  have u3 : pP (psP C4 q 3 (pN D3 + 1)) q 2 = (q + 5) + 1 := by rw [psP_at, if_neg (fun z => absurd z.2 (by decide)), (b1 q (by omega)).2.1]; exact p3
  have v3 := c3.lo b5 (by omega)
  clear s3 p3 c3
  have s3 := t3
  have p3 := u3
  have c3 := v3
  clear t3 u3 v3
  have c4 := b4
  clear b3 b4 b1 b5 kq3 n3 at3 fr3
  clear b2
  generalize psP C4 q 3 (pN D3 + 1) = D4 at *
  refine ⟨by decide, by decide, by show pN D4 < pBIG; omega, fun Na ea => ⟨(1, 11), by decide, by decide, ?_⟩⟩
  subst ea
  refine c_newRow (B := D4) (I := J4) (by omega) 11 (by omega) (by decide) (fun C5 J5 b1 b2 b3 b4 b5 => ⟨(b1 q (by omega)).1.trans kq4, fun Nb eb => ?_⟩)
  have eb2 : Nb = pset (psP C5 q 4 (pN D4 + 1)) J5 := eb
  clear eb
  subst eb2
  rw [n4] at b3 b4
  have kq5 : pK (psP C5 q 4 (pN D4 + 1)) q = (1, 6) := (b1 q (by omega)).1.trans kq4
  have n5 : pN (psP C5 q 4 (pN D4 + 1)) = q + 11 := by show pN C5 = _; omega
  have at5 : At q B (psP C5 q 4 (pN D4 + 1)) := (at4.tr (b1.le (by omega))).tr (At.putP (Nat.le_refl _))
  have fr5 : ∀ x, x < q → J5 x = I x := fun x hx => (b5 x (by omega)).trans (fr4 x hx)
  have s5 := b3.put (j := 4) (v := pN D4 + 1) (show q ≠ q + 9 by omega)
  have p5 : pP (psP C5 q 4 (pN D4 + 1)) q 4 = (q + 9) + 1 := by rw [psP_at, if_pos ⟨rfl, rfl⟩, n4]
  have t1 := (s1.at b1 (by omega)).put (j := 4) (v := pN D4 + 1) (show q ≠ q + 1 by omega)
  have u1 : pP (psP C5 q 4 (pN D4 + 1)) q 0 = (q + 1) + 1 := by rw [psP_at, if_neg (fun z => absurd z.2 (by decide)), (b1 q (by omega)).2.1]; exact p1
  have v1 := c1.lo b5 (by omega)
  clear s1 p1 c1
  have s1 := t1
  have p1 := u1
  have c1 := v1
  clear t1 u1 v1
  have t2 := (s2.at b1 (by omega)).put (j := 4) (v := pN D4 + 1) (show q ≠ q + 3 by omega)
  have u2 : pP (psP C5 q 4 (pN D4 + 1)) q 1 = (q + 3) + 1 := by rw [psP_at, if_neg (fun z => absurd z.2 (by decide)), (b1 q (by omega)).2.1]; exact p2
  have v2 := c2.lo b5 (by omega)
  clear s2 p2 c2
  have s2 := t2
  have p2 := u2
  have c2 := v2
  clear t2 u2 v2
  have t3 := (s3.at b1 (by omega)).put (j := 4) (v := pN D4 + 1) (show q ≠ q + 5 by omega)
  have u3 : pP (psP C5 q 4 (pN D4 + 1)) q 2 = (q + 5) + 1 := by rw [psP_at, if_neg (fun z => absurd z.2 (by decide)), (b1 q (by omega)).2.1]; exact p3
  have v3 := c3.lo b5 (by omega)
  clear s3 p3 c3
  have s3 := t3
  have p3 := u3
  have c3 := v3
  clear t3 u3 v3
  have t4 := (s4.at b1 (by omega)).put (j := 4) (v := pN D4 + 1) (show q ≠ q + 7 by omega)
  have u4 : pP (psP C5 q 4 (pN D4 + 1)) q 3 = (q + 7) + 1 := by rw [psP_at, if_neg (fun z => absurd z.2 (by decide)), (b1 q (by omega)).2.1]; exact p4
  have v4 := c4.lo b5 (by omega)
  clear s4 p4 c4
  have s4 := t4
  have p4 := u4
  have c4 := v4
  clear t4 u4 v4
  have c5 := b4
  clear b3 b4 b1 b5 kq4 n4 at4 fr4
  clear b2
  generalize psP C5 q 4 (pN D4 + 1) = D5 at *
  refine ⟨by decide, by decide, by show pN D5 < pBIG; omega, fun Na ea => ⟨(2, 402), by decide, by decide, ?_⟩⟩
  subst ea
  refine c_newReck (B := D5) (I := J5) (by omega) (by omega) (fun C6 J6 b1 b2 b3 b4 b5 => ⟨(b1 q (by omega)).1.trans kq5, fun Nb eb => ?_⟩)
  have eb2 : Nb = pset (psP C6 q 5 (pN D5 + 1)) J6 := eb
  clear eb
  subst eb2
  rw [n5] at b3
  have kq6 : pK (psP C6 q 5 (pN D5 + 1)) q = (1, 6) := (b1 q (by omega)).1.trans kq5
  have n6 : pN (psP C6 q 5 (pN D5 + 1)) = q + 14 := by show pN C6 = _; omega
  have at6 : At q B (psP C6 q 5 (pN D5 + 1)) := (at5.tr (b1.le (by omega))).tr (At.putP (Nat.le_refl _))
  have fr6 : ∀ x, x < q → J6 x = I x := fun x hx => (b5 x (by omega)).trans (fr5 x hx)
  have s6 := b3.put (j := 5) (v := pN D5 + 1) (show q < q + 11 by omega)
  have p6 : pP (psP C6 q 5 (pN D5 + 1)) q 5 = (q + 11) + 1 := by rw [psP_at, if_pos ⟨rfl, rfl⟩, n5]
  have t1 := (s1.at b1 (by omega)).put (j := 5) (v := pN D5 + 1) (show q ≠ q + 1 by omega)
  have u1 : pP (psP C6 q 5 (pN D5 + 1)) q 0 = (q + 1) + 1 := by rw [psP_at, if_neg (fun z => absurd z.2 (by decide)), (b1 q (by omega)).2.1]; exact p1
  have v1 := c1.lo b5 (by omega)
  clear s1 p1 c1
  have s1 := t1
  have p1 := u1
  have c1 := v1
  clear t1 u1 v1
  have t2 := (s2.at b1 (by omega)).put (j := 5) (v := pN D5 + 1) (show q ≠ q + 3 by omega)
  have u2 : pP (psP C6 q 5 (pN D5 + 1)) q 1 = (q + 3) + 1 := by rw [psP_at, if_neg (fun z => absurd z.2 (by decide)), (b1 q (by omega)).2.1]; exact p2
  have v2 := c2.lo b5 (by omega)
  clear s2 p2 c2
  have s2 := t2
  have p2 := u2
  have c2 := v2
  clear t2 u2 v2
  have t3 := (s3.at b1 (by omega)).put (j := 5) (v := pN D5 + 1) (show q ≠ q + 5 by omega)
  have u3 : pP (psP C6 q 5 (pN D5 + 1)) q 2 = (q + 5) + 1 := by rw [psP_at, if_neg (fun z => absurd z.2 (by decide)), (b1 q (by omega)).2.1]; exact p3
  have v3 := c3.lo b5 (by omega)
  clear s3 p3 c3
  have s3 := t3
  have p3 := u3
  have c3 := v3
  clear t3 u3 v3
  have t4 := (s4.at b1 (by omega)).put (j := 5) (v := pN D5 + 1) (show q ≠ q + 7 by omega)
  have u4 : pP (psP C6 q 5 (pN D5 + 1)) q 3 = (q + 7) + 1 := by rw [psP_at, if_neg (fun z => absurd z.2 (by decide)), (b1 q (by omega)).2.1]; exact p4
  have v4 := c4.lo b5 (by omega)
  clear s4 p4 c4
  have s4 := t4
  have p4 := u4
  have c4 := v4
  clear t4 u4 v4
  have t5 := (s5.at b1 (by omega)).put (j := 5) (v := pN D5 + 1) (show q ≠ q + 9 by omega)
  have u5 : pP (psP C6 q 5 (pN D5 + 1)) q 4 = (q + 9) + 1 := by rw [psP_at, if_neg (fun z => absurd z.2 (by decide)), (b1 q (by omega)).2.1]; exact p5
  have v5 := c5.lo b5 (by omega)
  clear s5 p5 c5
  have s5 := t5
  have p5 := u5
  have c5 := v5
  clear t5 u5 v5
  clear b3 b4 b1 b5 kq5 n5 at5 fr5
  clear b2
  generalize psP C6 q 5 (pN D5 + 1) = D6 at *
  refine ⟨kq6, fun Nc ec => ⟨rfl, ?_⟩⟩
  subst ec
  have f : Fr q (q + 1) J6 (u2 J6 q 6 0) := Fr.u (by omega) (by omega)
  exact h D6 (u2 J6 q 6 0) at6 n6 ⟨kq6, ⟨p1, p2, p3, p4, p5, p6⟩, s1, s2, s3, s4, s5, s6⟩ (fun x hx => by rw [f x (by omega)]; exact fr6 x hx)
theorem c_boostsInit {d : Nat} (hd : 4 ≤ d) {B : pM} {I : pIm} {q : Nat} {K : pM → Prop} (hk : pK B q = (1, 1)) (hN : pN B = q + 1) (hB : q + 417 < pBIG)
    (h : ∀ C J, At q B C → pN C = q + 417 → boostsS C q → Bo J q ([], [], [], [], [], [], []) → (∀ x, x < q → J x = I x) → K (pset C J)) : pCall_v d mX1_init (416, 3465) [.ref q] (pset B I) K := by
  refine CP_go (by omega) okX1_init (Nat.le_of_ble_eq_true rfl) (bX1_init_0 ?_)
  have d0 : 3 ≤ d - 1 := by omega
  have at0 : At q B B := At.rf
  have fr0 : ∀ x, x < q → I x = I x := fun _ _ => rfl
  refine ⟨by decide, by decide, by show pN B < pBIG; omega, fun Na ea => ⟨(1, 12), by decide, by decide, ?_⟩⟩
  subst ea
  refine c_newRow (B := B) (I := I) (by omega) 12 (by omega) (by decide) (fun C1 J1 b1 b2 b3 b4 b5 => ⟨(b1 q (by omega)).1.trans hk, fun Nb eb => ?_⟩)
  have eb2 : Nb = pset (psP C1 q 0 (pN B + 1)) J1 := eb
  clear eb
  subst eb2
  rw [hN] at b3 b4
  have kq1 : pK (psP C1 q 0 (pN B + 1)) q = (1, 1) := (b1 q (by omega)).1.trans hk
  have n1 : pN (psP C1 q 0 (pN B + 1)) = q + 3 := by show pN C1 = _; omega
  have at1 : At q B (psP C1 q 0 (pN B + 1)) := (at0.tr (b1.le (by omega))).tr (At.putP (Nat.le_refl _))
  have fr1 : ∀ x, x < q → J1 x = I x := fun x hx => (b5 x (by omega)).trans (fr0 x hx)
  have s1 := b3.put (j := 0) (v := pN B + 1) (show q ≠ q + 1 by omega)
  have p1 : pP (psP C1 q 0 (pN B + 1)) q 0 = (q + 1) + 1 := by rw [psP_at, if_pos ⟨rfl, rfl⟩, hN]
  have c1 := b4
  clear b3 b4 b1 b5   at0 fr0
  clear b2
  generalize psP C1 q 0 (pN B + 1) = D1 at *
  refine ⟨by decide, by decide, by show pN D1 < pBIG; omega, fun Na ea => ⟨(1, 12), by decide, by decide, ?_⟩⟩
  subst ea
  refine c_newRow (B := D1) (I := J1) (by omega) 12 (by omega) (by decide) (fun C2 J2 b1 b2 b3 b4 b5 => ⟨(b1 q (by omega)).1.trans kq1, fun Nb eb => ?_⟩)
  have eb2 : Nb = pset (psP C2 q 1 (pN D1 + 1)) J2 := eb
  clear eb
  subst eb2
  rw [n1] at b3 b4
  have kq2 : pK (psP C2 q 1 (pN D1 + 1)) q = (1, 1) := (b1 q (by omega)).1.trans kq1
  have n2 : pN (psP C2 q 1 (pN D1 + 1)) = q + 5 := by show pN C2 = _; omega
  have at2 : At q B (psP C2 q 1 (pN D1 + 1)) := (at1.tr (b1.le (by omega))).tr (At.putP (Nat.le_refl _))
  have fr2 : ∀ x, x < q → J2 x = I x := fun x hx => (b5 x (by omega)).trans (fr1 x hx)
  have s2 := b3.put (j := 1) (v := pN D1 + 1) (show q ≠ q + 3 by omega)
  have p2 : pP (psP C2 q 1 (pN D1 + 1)) q 1 = (q + 3) + 1 := by rw [psP_at, if_pos ⟨rfl, rfl⟩, n1]
  have t1 := (s1.at b1 (by omega)).put (j := 1) (v := pN D1 + 1) (show q ≠ q + 1 by omega)
  have u1 : pP (psP C2 q 1 (pN D1 + 1)) q 0 = (q + 1) + 1 := by rw [psP_at, if_neg (fun z => absurd z.2 (by decide)), (b1 q (by omega)).2.1]; exact p1
  have v1 := c1.lo b5 (by omega)
  clear s1 p1 c1
  have s1 := t1
  have p1 := u1
  have c1 := v1
  clear t1 u1 v1
  have c2 := b4
  clear b3 b4 b1 b5 kq1 n1 at1 fr1
  clear b2
  generalize psP C2 q 1 (pN D1 + 1) = D2 at *
  refine ⟨by decide, by decide, by show pN D2 < pBIG; omega, fun Na ea => ⟨(1, 12), by decide, by decide, ?_⟩⟩
  subst ea
  refine c_newRow (B := D2) (I := J2) (by omega) 12 (by omega) (by decide) (fun C3 J3 b1 b2 b3 b4 b5 => ⟨(b1 q (by omega)).1.trans kq2, fun Nb eb => ?_⟩)
  have eb2 : Nb = pset (psP C3 q 2 (pN D2 + 1)) J3 := eb
  clear eb
  subst eb2
  rw [n2] at b3 b4
  have kq3 : pK (psP C3 q 2 (pN D2 + 1)) q = (1, 1) := (b1 q (by omega)).1.trans kq2
  have n3 : pN (psP C3 q 2 (pN D2 + 1)) = q + 7 := by show pN C3 = _; omega
  have at3 : At q B (psP C3 q 2 (pN D2 + 1)) := (at2.tr (b1.le (by omega))).tr (At.putP (Nat.le_refl _))
  have fr3 : ∀ x, x < q → J3 x = I x := fun x hx => (b5 x (by omega)).trans (fr2 x hx)
  have s3 := b3.put (j := 2) (v := pN D2 + 1) (show q ≠ q + 5 by omega)
  have p3 : pP (psP C3 q 2 (pN D2 + 1)) q 2 = (q + 5) + 1 := by rw [psP_at, if_pos ⟨rfl, rfl⟩, n2]
  have t1 := (s1.at b1 (by omega)).put (j := 2) (v := pN D2 + 1) (show q ≠ q + 1 by omega)
  have u1 : pP (psP C3 q 2 (pN D2 + 1)) q 0 = (q + 1) + 1 := by rw [psP_at, if_neg (fun z => absurd z.2 (by decide)), (b1 q (by omega)).2.1]; exact p1
  have v1 := c1.lo b5 (by omega)
  clear s1 p1 c1
  have s1 := t1
  have p1 := u1
  have c1 := v1
  clear t1 u1 v1
  have t2 := (s2.at b1 (by omega)).put (j := 2) (v := pN D2 + 1) (show q ≠ q + 3 by omega)
  have u2 : pP (psP C3 q 2 (pN D2 + 1)) q 1 = (q + 3) + 1 := by rw [psP_at, if_neg (fun z => absurd z.2 (by decide)), (b1 q (by omega)).2.1]; exact p2
  have v2 := c2.lo b5 (by omega)
  clear s2 p2 c2
  have s2 := t2
  have p2 := u2
  have c2 := v2
  clear t2 u2 v2
  have c3 := b4
  clear b3 b4 b1 b5 kq2 n2 at2 fr2
  clear b2
  generalize psP C3 q 2 (pN D2 + 1) = D3 at *
  refine ⟨by decide, by decide, by show pN D3 < pBIG; omega, fun Na ea => ⟨(1, 12), by decide, by decide, ?_⟩⟩
  subst ea
  refine c_newRow (B := D3) (I := J3) (by omega) 12 (by omega) (by decide) (fun C4 J4 b1 b2 b3 b4 b5 => ⟨(b1 q (by omega)).1.trans kq3, fun Nb eb => ?_⟩)
  have eb2 : Nb = pset (psP C4 q 3 (pN D3 + 1)) J4 := eb
  clear eb
  subst eb2
  rw [n3] at b3 b4
  have kq4 : pK (psP C4 q 3 (pN D3 + 1)) q = (1, 1) := (b1 q (by omega)).1.trans kq3
  have n4 : pN (psP C4 q 3 (pN D3 + 1)) = q + 9 := by show pN C4 = _; omega
  have at4 : At q B (psP C4 q 3 (pN D3 + 1)) := (at3.tr (b1.le (by omega))).tr (At.putP (Nat.le_refl _))
  have fr4 : ∀ x, x < q → J4 x = I x := fun x hx => (b5 x (by omega)).trans (fr3 x hx)
  have s4 := b3.put (j := 3) (v := pN D3 + 1) (show q ≠ q + 7 by omega)
  have p4 : pP (psP C4 q 3 (pN D3 + 1)) q 3 = (q + 7) + 1 := by rw [psP_at, if_pos ⟨rfl, rfl⟩, n3]
  have t1 := (s1.at b1 (by omega)).put (j := 3) (v := pN D3 + 1) (show q ≠ q + 1 by omega)
  have u1 : pP (psP C4 q 3 (pN D3 + 1)) q 0 = (q + 1) + 1 := by rw [psP_at, if_neg (fun z => absurd z.2 (by decide)), (b1 q (by omega)).2.1]; exact p1
  have v1 := c1.lo b5 (by omega)
  clear s1 p1 c1
  have s1 := t1
  have p1 := u1
  have c1 := v1
  clear t1 u1 v1
  have t2 := (s2.at b1 (by omega)).put (j := 3) (v := pN D3 + 1) (show q ≠ q + 3 by omega)
  have u2 : pP (psP C4 q 3 (pN D3 + 1)) q 1 = (q + 3) + 1 := by rw [psP_at, if_neg (fun z => absurd z.2 (by decide)), (b1 q (by omega)).2.1]; exact p2
  have v2 := c2.lo b5 (by omega)
  clear s2 p2 c2
  have s2 := t2
  have p2 := u2
  have c2 := v2
  clear t2 u2 v2
  have t3 := (s3.at b1 (by omega)).put (j := 3) (v := pN D3 + 1) (show q ≠ q + 5 by omega)
  have u3 : pP (psP C4 q 3 (pN D3 + 1)) q 2 = (q + 5) + 1 := by rw [psP_at, if_neg (fun z => absurd z.2 (by decide)), (b1 q (by omega)).2.1]; exact p3
  have v3 := c3.lo b5 (by omega)
  clear s3 p3 c3
  have s3 := t3
  have p3 := u3
  have c3 := v3
  clear t3 u3 v3
  have c4 := b4
  clear b3 b4 b1 b5 kq3 n3 at3 fr3
  clear b2
  generalize psP C4 q 3 (pN D3 + 1) = D4 at *
  refine ⟨by decide, by decide, by show pN D4 < pBIG; omega, fun Na ea => ⟨(1, 400), by decide, by decide, ?_⟩⟩
  subst ea
  refine c_newRow (B := D4) (I := J4) (by omega) 400 (by omega) (by decide) (fun C5 J5 b1 b2 b3 b4 b5 => ⟨(b1 q (by omega)).1.trans kq4, fun Nb eb => ?_⟩)
  have eb2 : Nb = pset (psP C5 q 4 (pN D4 + 1)) J5 := eb
  clear eb
  subst eb2
  rw [n4] at b3 b4
  have kq5 : pK (psP C5 q 4 (pN D4 + 1)) q = (1, 1) := (b1 q (by omega)).1.trans kq4
  have n5 : pN (psP C5 q 4 (pN D4 + 1)) = q + 11 := by show pN C5 = _; omega
  have at5 : At q B (psP C5 q 4 (pN D4 + 1)) := (at4.tr (b1.le (by omega))).tr (At.putP (Nat.le_refl _))
  have fr5 : ∀ x, x < q → J5 x = I x := fun x hx => (b5 x (by omega)).trans (fr4 x hx)
  have s5 := b3.put (j := 4) (v := pN D4 + 1) (show q ≠ q + 9 by omega)
  have p5 : pP (psP C5 q 4 (pN D4 + 1)) q 4 = (q + 9) + 1 := by rw [psP_at, if_pos ⟨rfl, rfl⟩, n4]
  have t1 := (s1.at b1 (by omega)).put (j := 4) (v := pN D4 + 1) (show q ≠ q + 1 by omega)
  have u1 : pP (psP C5 q 4 (pN D4 + 1)) q 0 = (q + 1) + 1 := by rw [psP_at, if_neg (fun z => absurd z.2 (by decide)), (b1 q (by omega)).2.1]; exact p1
  have v1 := c1.lo b5 (by omega)
  clear s1 p1 c1
  have s1 := t1
  have p1 := u1
  have c1 := v1
  clear t1 u1 v1
  have t2 := (s2.at b1 (by omega)).put (j := 4) (v := pN D4 + 1) (show q ≠ q + 3 by omega)
  have u2 : pP (psP C5 q 4 (pN D4 + 1)) q 1 = (q + 3) + 1 := by rw [psP_at, if_neg (fun z => absurd z.2 (by decide)), (b1 q (by omega)).2.1]; exact p2
  have v2 := c2.lo b5 (by omega)
  clear s2 p2 c2
  have s2 := t2
  have p2 := u2
  have c2 := v2
  clear t2 u2 v2
  have t3 := (s3.at b1 (by omega)).put (j := 4) (v := pN D4 + 1) (show q ≠ q + 5 by omega)
  have u3 : pP (psP C5 q 4 (pN D4 + 1)) q 2 = (q + 5) + 1 := by rw [psP_at, if_neg (fun z => absurd z.2 (by decide)), (b1 q (by omega)).2.1]; exact p3
  have v3 := c3.lo b5 (by omega)
  clear s3 p3 c3
  have s3 := t3
  have p3 := u3
  have c3 := v3
  clear t3 u3 v3
  have t4 := (s4.at b1 (by omega)).put (j := 4) (v := pN D4 + 1) (show q ≠ q + 7 by omega)
  have u4 : pP (psP C5 q 4 (pN D4 + 1)) q 3 = (q + 7) + 1 := by rw [psP_at, if_neg (fun z => absurd z.2 (by decide)), (b1 q (by omega)).2.1]; exact p4
  have v4 := c4.lo b5 (by omega)
  clear s4 p4 c4
  have s4 := t4
  have p4 := u4
  have c4 := v4
  clear t4 u4 v4
  have c5 := b4
  clear b3 b4 b1 b5 kq4 n4 at4 fr4
  clear b2
  generalize psP C5 q 4 (pN D4 + 1) = D5 at *
  refine ⟨by decide, by decide, by show pN D5 < pBIG; omega, fun Na ea => ⟨(1, 400), by decide, by decide, ?_⟩⟩
  subst ea
  refine c_newRow (B := D5) (I := J5) (by omega) 400 (by omega) (by decide) (fun C6 J6 b1 b2 b3 b4 b5 => ⟨(b1 q (by omega)).1.trans kq5, fun Nb eb => ?_⟩)
  have eb2 : Nb = pset (psP C6 q 5 (pN D5 + 1)) J6 := eb
  clear eb
  subst eb2
  rw [n5] at b3 b4
  have kq6 : pK (psP C6 q 5 (pN D5 + 1)) q = (1, 1) := (b1 q (by omega)).1.trans kq5
  have n6 : pN (psP C6 q 5 (pN D5 + 1)) = q + 13 := by show pN C6 = _; omega
  have at6 : At q B (psP C6 q 5 (pN D5 + 1)) := (at5.tr (b1.le (by omega))).tr (At.putP (Nat.le_refl _))
  have fr6 : ∀ x, x < q → J6 x = I x := fun x hx => (b5 x (by omega)).trans (fr5 x hx)
  have s6 := b3.put (j := 5) (v := pN D5 + 1) (show q ≠ q + 11 by omega)
  have p6 : pP (psP C6 q 5 (pN D5 + 1)) q 5 = (q + 11) + 1 := by rw [psP_at, if_pos ⟨rfl, rfl⟩, n5]
  have t1 := (s1.at b1 (by omega)).put (j := 5) (v := pN D5 + 1) (show q ≠ q + 1 by omega)
  have u1 : pP (psP C6 q 5 (pN D5 + 1)) q 0 = (q + 1) + 1 := by rw [psP_at, if_neg (fun z => absurd z.2 (by decide)), (b1 q (by omega)).2.1]; exact p1
  have v1 := c1.lo b5 (by omega)
  clear s1 p1 c1
  have s1 := t1
  have p1 := u1
  have c1 := v1
  clear t1 u1 v1
  have t2 := (s2.at b1 (by omega)).put (j := 5) (v := pN D5 + 1) (show q ≠ q + 3 by omega)
  have u2 : pP (psP C6 q 5 (pN D5 + 1)) q 1 = (q + 3) + 1 := by rw [psP_at, if_neg (fun z => absurd z.2 (by decide)), (b1 q (by omega)).2.1]; exact p2
  have v2 := c2.lo b5 (by omega)
  clear s2 p2 c2
  have s2 := t2
  have p2 := u2
  have c2 := v2
  clear t2 u2 v2
  have t3 := (s3.at b1 (by omega)).put (j := 5) (v := pN D5 + 1) (show q ≠ q + 5 by omega)
  have u3 : pP (psP C6 q 5 (pN D5 + 1)) q 2 = (q + 5) + 1 := by rw [psP_at, if_neg (fun z => absurd z.2 (by decide)), (b1 q (by omega)).2.1]; exact p3
  have v3 := c3.lo b5 (by omega)
  clear s3 p3 c3
  have s3 := t3
  have p3 := u3
  have c3 := v3
  clear t3 u3 v3
  have t4 := (s4.at b1 (by omega)).put (j := 5) (v := pN D5 + 1) (show q ≠ q + 7 by omega)
  have u4 : pP (psP C6 q 5 (pN D5 + 1)) q 3 = (q + 7) + 1 := by rw [psP_at, if_neg (fun z => absurd z.2 (by decide)), (b1 q (by omega)).2.1]; exact p4
  have v4 := c4.lo b5 (by omega)
  clear s4 p4 c4
  have s4 := t4
  have p4 := u4
  have c4 := v4
  clear t4 u4 v4
  have t5 := (s5.at b1 (by omega)).put (j := 5) (v := pN D5 + 1) (show q ≠ q + 9 by omega)
  have u5 : pP (psP C6 q 5 (pN D5 + 1)) q 4 = (q + 9) + 1 := by rw [psP_at, if_neg (fun z => absurd z.2 (by decide)), (b1 q (by omega)).2.1]; exact p5
  have v5 := c5.lo b5 (by omega)
  clear s5 p5 c5
  have s5 := t5
  have p5 := u5
  have c5 := v5
  clear t5 u5 v5
  have c6 := b4
  clear b3 b4 b1 b5 kq5 n5 at5 fr5
  clear b2
  generalize psP C6 q 5 (pN D5 + 1) = D6 at *
  refine ⟨by decide, by decide, by show pN D6 < pBIG; omega, fun Na ea => ⟨(403, 2602), by decide, by decide, ?_⟩⟩
  subst ea
  refine c_newNames (B := D6) (I := J6) (by omega) 200 (by omega) (by decide) (fun C7 J7 b1 b2 b3 b4 b5 => ⟨(b1 q (by omega)).1.trans kq6, fun Nb eb => ?_⟩)
  have eb2 : Nb = pset (psP C7 q 6 (pN D6 + 1)) J7 := eb
  clear eb
  subst eb2
  rw [n6] at b3 b4
  have kq7 : pK (psP C7 q 6 (pN D6 + 1)) q = (1, 1) := (b1 q (by omega)).1.trans kq6
  have n7 : pN (psP C7 q 6 (pN D6 + 1)) = q + 417 := by show pN C7 = _; omega
  have at7 : At q B (psP C7 q 6 (pN D6 + 1)) := (at6.tr (b1.le (by omega))).tr (At.putP (Nat.le_refl _))
  have fr7 : ∀ x, x < q → J7 x = I x := fun x hx => (b5 x (by omega)).trans (fr6 x hx)
  have s7 := b3.put (j := 6) (v := pN D6 + 1) (show q < q + 13 by omega)
  have p7 : pP (psP C7 q 6 (pN D6 + 1)) q 6 = (q + 13) + 1 := by rw [psP_at, if_pos ⟨rfl, rfl⟩, n6]
  have t1 := (s1.at b1 (by omega)).put (j := 6) (v := pN D6 + 1) (show q ≠ q + 1 by omega)
  have u1 : pP (psP C7 q 6 (pN D6 + 1)) q 0 = (q + 1) + 1 := by rw [psP_at, if_neg (fun z => absurd z.2 (by decide)), (b1 q (by omega)).2.1]; exact p1
  have v1 := c1.lo b5 (by omega)
  clear s1 p1 c1
  have s1 := t1
  have p1 := u1
  have c1 := v1
  clear t1 u1 v1
  have t2 := (s2.at b1 (by omega)).put (j := 6) (v := pN D6 + 1) (show q ≠ q + 3 by omega)
  have u2 : pP (psP C7 q 6 (pN D6 + 1)) q 1 = (q + 3) + 1 := by rw [psP_at, if_neg (fun z => absurd z.2 (by decide)), (b1 q (by omega)).2.1]; exact p2
  have v2 := c2.lo b5 (by omega)
  clear s2 p2 c2
  have s2 := t2
  have p2 := u2
  have c2 := v2
  clear t2 u2 v2
  have t3 := (s3.at b1 (by omega)).put (j := 6) (v := pN D6 + 1) (show q ≠ q + 5 by omega)
  have u3 : pP (psP C7 q 6 (pN D6 + 1)) q 2 = (q + 5) + 1 := by rw [psP_at, if_neg (fun z => absurd z.2 (by decide)), (b1 q (by omega)).2.1]; exact p3
  have v3 := c3.lo b5 (by omega)
  clear s3 p3 c3
  have s3 := t3
  have p3 := u3
  have c3 := v3
  clear t3 u3 v3
  have t4 := (s4.at b1 (by omega)).put (j := 6) (v := pN D6 + 1) (show q ≠ q + 7 by omega)
  have u4 : pP (psP C7 q 6 (pN D6 + 1)) q 3 = (q + 7) + 1 := by rw [psP_at, if_neg (fun z => absurd z.2 (by decide)), (b1 q (by omega)).2.1]; exact p4
  have v4 := c4.lo b5 (by omega)
  clear s4 p4 c4
  have s4 := t4
  have p4 := u4
  have c4 := v4
  clear t4 u4 v4
  have t5 := (s5.at b1 (by omega)).put (j := 6) (v := pN D6 + 1) (show q ≠ q + 9 by omega)
  have u5 : pP (psP C7 q 6 (pN D6 + 1)) q 4 = (q + 9) + 1 := by rw [psP_at, if_neg (fun z => absurd z.2 (by decide)), (b1 q (by omega)).2.1]; exact p5
  have v5 := c5.lo b5 (by omega)
  clear s5 p5 c5
  have s5 := t5
  have p5 := u5
  have c5 := v5
  clear t5 u5 v5
  have t6 := (s6.at b1 (by omega)).put (j := 6) (v := pN D6 + 1) (show q ≠ q + 11 by omega)
  have u6 : pP (psP C7 q 6 (pN D6 + 1)) q 5 = (q + 11) + 1 := by rw [psP_at, if_neg (fun z => absurd z.2 (by decide)), (b1 q (by omega)).2.1]; exact p6
  have v6 := c6.lo b5 (by omega)
  clear s6 p6 c6
  have s6 := t6
  have p6 := u6
  have c6 := v6
  clear t6 u6 v6
  have c7 := b4
  clear b3 b4 b1 b5 kq6 n6 at6 fr6
  clear b2
  generalize psP C7 q 6 (pN D6 + 1) = D7 at *
  exact ⟨rfl, h D7 J7 at7 n7 ⟨kq7, ⟨p1, p2, p3, p4, p5, p6, p7⟩, s1, s2, s3, s4, s5, s6, s7⟩ ⟨c1, c2, c3, c4, c5, c6, c7, by simp⟩ fr7⟩
theorem c_keysInit {d : Nat} (hd : 5 ≤ d) {B : pM} {I : pIm} {q : Nat} {K : pM → Prop} (hk : pK B q = (1, 4)) (hN : pN B = q + 1) (hB : q + 5 < pBIG)
    (h : ∀ C J, At q B C → pN C = q + 5 → keysS C q → Kv J q (List.replicate 128 (-1)) (List.replicate 128 (-1)) 0 → (∀ x, x < q → J x = I x) → K (pset C J)) : pCall_v d mX4_init (4, 260) [.ref q] (pset B I) K := by
  refine CP_go (by omega) okX4_init (Nat.le_of_ble_eq_true rfl) (bX4_init_0 ?_)
  have d0 : 4 ≤ d - 1 := by omega
  have at0 : At q B B := At.rf
  have fr0 : ∀ x, x < q → I x = I x := fun _ _ => rfl
  refine ⟨by decide, by decide, by show pN B < pBIG; omega, fun Na ea => ⟨(1, 128), by decide, by decide, ?_⟩⟩
  subst ea
  refine c_newRow (B := B) (I := I) (by omega) 128 (by omega) (by decide) (fun C1 J1 b1 b2 b3 b4 b5 => ⟨(b1 q (by omega)).1.trans hk, fun Nb eb => ?_⟩)
  have eb2 : Nb = pset (psP C1 q 0 (pN B + 1)) J1 := eb
  clear eb
  subst eb2
  rw [hN] at b3 b4
  have kq1 : pK (psP C1 q 0 (pN B + 1)) q = (1, 4) := (b1 q (by omega)).1.trans hk
  have n1 : pN (psP C1 q 0 (pN B + 1)) = q + 3 := by show pN C1 = _; omega
  have at1 : At q B (psP C1 q 0 (pN B + 1)) := (at0.tr (b1.le (by omega))).tr (At.putP (Nat.le_refl _))
  have fr1 : ∀ x, x < q → J1 x = I x := fun x hx => (b5 x (by omega)).trans (fr0 x hx)
  have s1 := b3.put (j := 0) (v := pN B + 1) (show q ≠ q + 1 by omega)
  have p1 : pP (psP C1 q 0 (pN B + 1)) q 0 = (q + 1) + 1 := by rw [psP_at, if_pos ⟨rfl, rfl⟩, hN]
  have c1 := b4
  clear b3 b4 b1 b5   at0 fr0
  clear b2
  generalize psP C1 q 0 (pN B + 1) = D1 at *
  refine ⟨by decide, by decide, by show pN D1 < pBIG; omega, fun Na ea => ⟨(1, 128), by decide, by decide, ?_⟩⟩
  subst ea
  refine c_newRow (B := D1) (I := J1) (by omega) 128 (by omega) (by decide) (fun C2 J2 b1 b2 b3 b4 b5 => ⟨(b1 q (by omega)).1.trans kq1, fun Nb eb => ?_⟩)
  have eb2 : Nb = pset (psP C2 q 1 (pN D1 + 1)) J2 := eb
  clear eb
  subst eb2
  rw [n1] at b3 b4
  have kq2 : pK (psP C2 q 1 (pN D1 + 1)) q = (1, 4) := (b1 q (by omega)).1.trans kq1
  have n2 : pN (psP C2 q 1 (pN D1 + 1)) = q + 5 := by show pN C2 = _; omega
  have at2 : At q B (psP C2 q 1 (pN D1 + 1)) := (at1.tr (b1.le (by omega))).tr (At.putP (Nat.le_refl _))
  have fr2 : ∀ x, x < q → J2 x = I x := fun x hx => (b5 x (by omega)).trans (fr1 x hx)
  have s2 := b3.put (j := 1) (v := pN D1 + 1) (show q ≠ q + 3 by omega)
  have p2 : pP (psP C2 q 1 (pN D1 + 1)) q 1 = (q + 3) + 1 := by rw [psP_at, if_pos ⟨rfl, rfl⟩, n1]
  have t1 := (s1.at b1 (by omega)).put (j := 1) (v := pN D1 + 1) (show q ≠ q + 1 by omega)
  have u1 : pP (psP C2 q 1 (pN D1 + 1)) q 0 = (q + 1) + 1 := by rw [psP_at, if_neg (fun z => absurd z.2 (by decide)), (b1 q (by omega)).2.1]; exact p1
  have v1 := c1.lo b5 (by omega)
  clear s1 p1 c1
  have s1 := t1
  have p1 := u1
  have c1 := v1
  clear t1 u1 v1
  have c2 := b4
  clear b3 b4 b1 b5 kq1 n1 at1 fr1
  clear b2
  generalize psP C2 q 1 (pN D1 + 1) = D2 at *
  refine ⟨kq2, fun Nc ec => ⟨by rw [ec]; exact kq2, ?_⟩⟩
  subst ec
  have f : Fr q (q + 1) J2 (u2 J2 q 2 0) := Fr.u (by omega) (by omega)
  have ks : keysS D2 q := ⟨kq2, p1, p2, s1, s2⟩
  rw [psI_set]
  exact c_kclear (by omega) ks (fun J k1 f1 => ⟨rfl, h D2 J at2 n2 ks k1 (fun x hx => by rw [f1 x (by omega), f x (by omega)]; exact fr2 x hx)⟩)
theorem c_newKeys {d : Nat} (hd : 5 ≤ d) {B : pM} {I : pIm} {K : pM → Prop} (hB : pN B + 5 < pBIG)
    (h : ∀ C J, At (pN B) B C → pN C = pN B + 5 → keysS C (pN B) → Kv J (pN B) (List.replicate 128 (-1)) (List.replicate 128 (-1)) 0 → (∀ x, x < pN B → J x = I x) → K (pset C J)) : pCall_v d mX4_init (4, 260) [.ref (pN B)] (pnew (pset B I) (1, 4)) K := by
  rw [pnew_pset]
  have kq : pK (pnew B (1, 4)) (pN B) = (1, 4) := if_pos rfl
  exact c_keysInit hd kq rfl hB (fun C J a1 a2 a3 a4 a5 => h C J (At.new.tr a1) a2 a3 a4 (keepI (k := (1, 4)) rfl a5))
theorem c_newBoosts {d : Nat} (hd : 4 ≤ d) {B : pM} {I : pIm} {K : pM → Prop} (hB : pN B + 417 < pBIG)
    (h : ∀ C J, At (pN B) B C → pN C = pN B + 417 → boostsS C (pN B) → Bo J (pN B) ([], [], [], [], [], [], []) → (∀ x, x < pN B → J x = I x) → K (pset C J)) : pCall_v d mX1_init (416, 3465) [.ref (pN B)] (pnew (pset B I) (1, 1)) K := by
  rw [pnew_pset]
  have kq : pK (pnew B (1, 1)) (pN B) = (1, 1) := if_pos rfl
  exact c_boostsInit hd kq rfl hB (fun C J a1 a2 a3 a4 a5 => h C J (At.new.tr a1) a2 a3 a4 (keepI (k := (1, 1)) rfl a5))
theorem Kv.lo {I J : pIm} {q m : Nat} {ro po : List Int32} {nr : Int32} (h : Kv I q ro po nr) (f : ∀ x, x < m → J x = I x) (hq : q + 5 ≤ m) : Kv J q ro po nr := by
  obtain ⟨h1, h2, h3, h4, h5⟩ := h
  exact ⟨h1.lo f (by omega), h2.lo f (by omega), h3, h4, by rw [f q (by omega)]; exact h5⟩
theorem c_bookInit {d : Nat} (hd : 6 ≤ d) {B : pM} {I : pIm} {q : Nat} {K : pM → Prop} (hk : pK B q = (1, 0)) (hN : pN B = q + 1) (hB : q + 527 < pBIG)
    (h : ∀ C J, At q B C → pN C = q + 527 → bookS C q → Bk J q bK0 → (∀ x, x < q → J x = I x) → K (pset C J)) : pCall_v d mX0_init (526, 4427) [.ref q] (pset B I) K := by
  refine CP_go (by omega) okX0_init (Nat.le_of_ble_eq_true rfl) (bX0_init_0 ?_)
  have d0 : 5 ≤ d - 1 := by omega
  have at0 : At q B B := At.rf
  have fr0 : ∀ x, x < q → I x = I x := fun _ _ => rfl
  refine ⟨by decide, by decide, by show pN B < pBIG; omega, fun Na ea => ⟨(15, 80), by decide, by decide, ?_⟩⟩
  subst ea
  refine c_newNames (B := B) (I := I) (by omega) 6 (by omega) (by decide) (fun C1 J1 b1 b2 b3 b4 b5 => ⟨(b1 q (by omega)).1.trans hk, fun Nb eb => ?_⟩)
  have eb2 : Nb = pset (psP C1 q 0 (pN B + 1)) J1 := eb
  clear eb
  subst eb2
  rw [hN] at b3 b4
  have kq1 : pK (psP C1 q 0 (pN B + 1)) q = (1, 0) := (b1 q (by omega)).1.trans hk
  have n1 : pN (psP C1 q 0 (pN B + 1)) = q + 17 := by show pN C1 = _; omega
  have at1 : At q B (psP C1 q 0 (pN B + 1)) := (at0.tr (b1.le (by omega))).tr (At.putP (Nat.le_refl _))
  have fr1 : ∀ x, x < q → J1 x = I x := fun x hx => (b5 x (by omega)).trans (fr0 x hx)
  have s1 := b3.put (j := 0) (v := pN B + 1) (show q < q + 1 by omega)
  have p1 : pP (psP C1 q 0 (pN B + 1)) q 0 = (q + 1) + 1 := by rw [psP_at, if_pos ⟨rfl, rfl⟩, hN]
  have c1 := b4
  clear b3 b4 b1 b5   at0 fr0
  clear b2
  generalize psP C1 q 0 (pN B + 1) = D1 at *
  refine ⟨by decide, by decide, by show pN D1 < pBIG; omega, fun Na ea => ⟨(83, 522), by decide, by decide, ?_⟩⟩
  subst ea
  refine c_newNames (B := D1) (I := J1) (by omega) 40 (by omega) (by decide) (fun C2 J2 b1 b2 b3 b4 b5 => ⟨(b1 q (by omega)).1.trans kq1, fun Nb eb => ?_⟩)
  have eb2 : Nb = pset (psP C2 q 1 (pN D1 + 1)) J2 := eb
  clear eb
  subst eb2
  rw [n1] at b3 b4
  have kq2 : pK (psP C2 q 1 (pN D1 + 1)) q = (1, 0) := (b1 q (by omega)).1.trans kq1
  have n2 : pN (psP C2 q 1 (pN D1 + 1)) = q + 101 := by show pN C2 = _; omega
  have at2 : At q B (psP C2 q 1 (pN D1 + 1)) := (at1.tr (b1.le (by omega))).tr (At.putP (Nat.le_refl _))
  have fr2 : ∀ x, x < q → J2 x = I x := fun x hx => (b5 x (by omega)).trans (fr1 x hx)
  have s2 := b3.put (j := 1) (v := pN D1 + 1) (show q < q + 17 by omega)
  have p2 : pP (psP C2 q 1 (pN D1 + 1)) q 1 = (q + 17) + 1 := by rw [psP_at, if_pos ⟨rfl, rfl⟩, n1]
  have t1 := (s1.at b1 (by omega)).put (j := 1) (v := pN D1 + 1) (show q < q + 1 by omega)
  have u1 : pP (psP C2 q 1 (pN D1 + 1)) q 0 = (q + 1) + 1 := by rw [psP_at, if_neg (fun z => absurd z.2 (by decide)), (b1 q (by omega)).2.1]; exact p1
  have v1 := c1.lo b5 (by omega)
  clear s1 p1 c1
  have s1 := t1
  have p1 := u1
  have c1 := v1
  clear t1 u1 v1
  have c2 := b4
  clear b3 b4 b1 b5 kq1 n1 at1 fr1
  clear b2
  generalize psP C2 q 1 (pN D1 + 1) = D2 at *
  refine ⟨by decide, by decide, by show pN D2 < pBIG; omega, fun Na ea => ⟨(1, 40), by decide, by decide, ?_⟩⟩
  subst ea
  refine c_newRow (B := D2) (I := J2) (by omega) 40 (by omega) (by decide) (fun C3 J3 b1 b2 b3 b4 b5 => ⟨(b1 q (by omega)).1.trans kq2, fun Nb eb => ?_⟩)
  have eb2 : Nb = pset (psP C3 q 2 (pN D2 + 1)) J3 := eb
  clear eb
  subst eb2
  rw [n2] at b3 b4
  have kq3 : pK (psP C3 q 2 (pN D2 + 1)) q = (1, 0) := (b1 q (by omega)).1.trans kq2
  have n3 : pN (psP C3 q 2 (pN D2 + 1)) = q + 103 := by show pN C3 = _; omega
  have at3 : At q B (psP C3 q 2 (pN D2 + 1)) := (at2.tr (b1.le (by omega))).tr (At.putP (Nat.le_refl _))
  have fr3 : ∀ x, x < q → J3 x = I x := fun x hx => (b5 x (by omega)).trans (fr2 x hx)
  have s3 := b3.put (j := 2) (v := pN D2 + 1) (show q ≠ q + 101 by omega)
  have p3 : pP (psP C3 q 2 (pN D2 + 1)) q 2 = (q + 101) + 1 := by rw [psP_at, if_pos ⟨rfl, rfl⟩, n2]
  have t1 := (s1.at b1 (by omega)).put (j := 2) (v := pN D2 + 1) (show q < q + 1 by omega)
  have u1 : pP (psP C3 q 2 (pN D2 + 1)) q 0 = (q + 1) + 1 := by rw [psP_at, if_neg (fun z => absurd z.2 (by decide)), (b1 q (by omega)).2.1]; exact p1
  have v1 := c1.lo b5 (by omega)
  clear s1 p1 c1
  have s1 := t1
  have p1 := u1
  have c1 := v1
  clear t1 u1 v1
  have t2 := (s2.at b1 (by omega)).put (j := 2) (v := pN D2 + 1) (show q < q + 17 by omega)
  have u2 : pP (psP C3 q 2 (pN D2 + 1)) q 1 = (q + 17) + 1 := by rw [psP_at, if_neg (fun z => absurd z.2 (by decide)), (b1 q (by omega)).2.1]; exact p2
  have v2 := c2.lo b5 (by omega)
  clear s2 p2 c2
  have s2 := t2
  have p2 := u2
  have c2 := v2
  clear t2 u2 v2
  have c3 := b4
  clear b3 b4 b1 b5 kq2 n2 at2 fr2
  clear b2
  generalize psP C3 q 2 (pN D2 + 1) = D3 at *
  refine ⟨by decide, by decide, by show pN D3 < pBIG; omega, fun Na ea => ⟨(1, 40), by decide, by decide, ?_⟩⟩
  subst ea
  refine c_newRow (B := D3) (I := J3) (by omega) 40 (by omega) (by decide) (fun C4 J4 b1 b2 b3 b4 b5 => ⟨(b1 q (by omega)).1.trans kq3, fun Nb eb => ?_⟩)
  have eb2 : Nb = pset (psP C4 q 3 (pN D3 + 1)) J4 := eb
  clear eb
  subst eb2
  rw [n3] at b3 b4
  have kq4 : pK (psP C4 q 3 (pN D3 + 1)) q = (1, 0) := (b1 q (by omega)).1.trans kq3
  have n4 : pN (psP C4 q 3 (pN D3 + 1)) = q + 105 := by show pN C4 = _; omega
  have at4 : At q B (psP C4 q 3 (pN D3 + 1)) := (at3.tr (b1.le (by omega))).tr (At.putP (Nat.le_refl _))
  have fr4 : ∀ x, x < q → J4 x = I x := fun x hx => (b5 x (by omega)).trans (fr3 x hx)
  have s4 := b3.put (j := 3) (v := pN D3 + 1) (show q ≠ q + 103 by omega)
  have p4 : pP (psP C4 q 3 (pN D3 + 1)) q 3 = (q + 103) + 1 := by rw [psP_at, if_pos ⟨rfl, rfl⟩, n3]
  have t1 := (s1.at b1 (by omega)).put (j := 3) (v := pN D3 + 1) (show q < q + 1 by omega)
  have u1 : pP (psP C4 q 3 (pN D3 + 1)) q 0 = (q + 1) + 1 := by rw [psP_at, if_neg (fun z => absurd z.2 (by decide)), (b1 q (by omega)).2.1]; exact p1
  have v1 := c1.lo b5 (by omega)
  clear s1 p1 c1
  have s1 := t1
  have p1 := u1
  have c1 := v1
  clear t1 u1 v1
  have t2 := (s2.at b1 (by omega)).put (j := 3) (v := pN D3 + 1) (show q < q + 17 by omega)
  have u2 : pP (psP C4 q 3 (pN D3 + 1)) q 1 = (q + 17) + 1 := by rw [psP_at, if_neg (fun z => absurd z.2 (by decide)), (b1 q (by omega)).2.1]; exact p2
  have v2 := c2.lo b5 (by omega)
  clear s2 p2 c2
  have s2 := t2
  have p2 := u2
  have c2 := v2
  clear t2 u2 v2
  have t3 := (s3.at b1 (by omega)).put (j := 3) (v := pN D3 + 1) (show q ≠ q + 101 by omega)
  have u3 : pP (psP C4 q 3 (pN D3 + 1)) q 2 = (q + 101) + 1 := by rw [psP_at, if_neg (fun z => absurd z.2 (by decide)), (b1 q (by omega)).2.1]; exact p3
  have v3 := c3.lo b5 (by omega)
  clear s3 p3 c3
  have s3 := t3
  have p3 := u3
  have c3 := v3
  clear t3 u3 v3
  have c4 := b4
  clear b3 b4 b1 b5 kq3 n3 at3 fr3
  clear b2
  generalize psP C4 q 3 (pN D3 + 1) = D4 at *
  refine ⟨by decide, by decide, by show pN D4 < pBIG; omega, fun Na ea => ⟨(4, 260), by decide, by decide, ?_⟩⟩
  subst ea
  refine c_newKeys (B := D4) (I := J4) (by omega) (by omega) (fun C5 J5 b1 b2 b3 b4 b5 => ⟨(b1 q (by omega)).1.trans kq4, fun Nb eb => ?_⟩)
  have eb2 : Nb = pset (psP C5 q 4 (pN D4 + 1)) J5 := eb
  clear eb
  subst eb2
  rw [n4] at b3 b4
  have kq5 : pK (psP C5 q 4 (pN D4 + 1)) q = (1, 0) := (b1 q (by omega)).1.trans kq4
  have n5 : pN (psP C5 q 4 (pN D4 + 1)) = q + 110 := by show pN C5 = _; omega
  have at5 : At q B (psP C5 q 4 (pN D4 + 1)) := (at4.tr (b1.le (by omega))).tr (At.putP (Nat.le_refl _))
  have fr5 : ∀ x, x < q → J5 x = I x := fun x hx => (b5 x (by omega)).trans (fr4 x hx)
  have s5 := b3.put (j := 4) (v := pN D4 + 1) (show q < q + 105 by omega)
  have p5 : pP (psP C5 q 4 (pN D4 + 1)) q 4 = (q + 105) + 1 := by rw [psP_at, if_pos ⟨rfl, rfl⟩, n4]
  have t1 := (s1.at b1 (by omega)).put (j := 4) (v := pN D4 + 1) (show q < q + 1 by omega)
  have u1 : pP (psP C5 q 4 (pN D4 + 1)) q 0 = (q + 1) + 1 := by rw [psP_at, if_neg (fun z => absurd z.2 (by decide)), (b1 q (by omega)).2.1]; exact p1
  have v1 := c1.lo b5 (by omega)
  clear s1 p1 c1
  have s1 := t1
  have p1 := u1
  have c1 := v1
  clear t1 u1 v1
  have t2 := (s2.at b1 (by omega)).put (j := 4) (v := pN D4 + 1) (show q < q + 17 by omega)
  have u2 : pP (psP C5 q 4 (pN D4 + 1)) q 1 = (q + 17) + 1 := by rw [psP_at, if_neg (fun z => absurd z.2 (by decide)), (b1 q (by omega)).2.1]; exact p2
  have v2 := c2.lo b5 (by omega)
  clear s2 p2 c2
  have s2 := t2
  have p2 := u2
  have c2 := v2
  clear t2 u2 v2
  have t3 := (s3.at b1 (by omega)).put (j := 4) (v := pN D4 + 1) (show q ≠ q + 101 by omega)
  have u3 : pP (psP C5 q 4 (pN D4 + 1)) q 2 = (q + 101) + 1 := by rw [psP_at, if_neg (fun z => absurd z.2 (by decide)), (b1 q (by omega)).2.1]; exact p3
  have v3 := c3.lo b5 (by omega)
  clear s3 p3 c3
  have s3 := t3
  have p3 := u3
  have c3 := v3
  clear t3 u3 v3
  have t4 := (s4.at b1 (by omega)).put (j := 4) (v := pN D4 + 1) (show q ≠ q + 103 by omega)
  have u4 : pP (psP C5 q 4 (pN D4 + 1)) q 3 = (q + 103) + 1 := by rw [psP_at, if_neg (fun z => absurd z.2 (by decide)), (b1 q (by omega)).2.1]; exact p4
  have v4 := c4.lo b5 (by omega)
  clear s4 p4 c4
  have s4 := t4
  have p4 := u4
  have c4 := v4
  clear t4 u4 v4
  have c5 := b4
  clear b3 b4 b1 b5 kq4 n4 at4 fr4
  clear b2
  generalize psP C5 q 4 (pN D4 + 1) = D5 at *
  refine ⟨by decide, by decide, by show pN D5 < pBIG; omega, fun Na ea => ⟨(416, 3465), by decide, by decide, ?_⟩⟩
  subst ea
  refine c_newBoosts (B := D5) (I := J5) (by omega) (by omega) (fun C6 J6 b1 b2 b3 b4 b5 => ⟨(b1 q (by omega)).1.trans kq5, fun Nb eb => ?_⟩)
  have eb2 : Nb = pset (psP C6 q 5 (pN D5 + 1)) J6 := eb
  clear eb
  subst eb2
  rw [n5] at b3 b4
  have kq6 : pK (psP C6 q 5 (pN D5 + 1)) q = (1, 0) := (b1 q (by omega)).1.trans kq5
  have n6 : pN (psP C6 q 5 (pN D5 + 1)) = q + 527 := by show pN C6 = _; omega
  have at6 : At q B (psP C6 q 5 (pN D5 + 1)) := (at5.tr (b1.le (by omega))).tr (At.putP (Nat.le_refl _))
  have fr6 : ∀ x, x < q → J6 x = I x := fun x hx => (b5 x (by omega)).trans (fr5 x hx)
  have s6 := b3.put (j := 5) (v := pN D5 + 1) (show q < q + 110 by omega)
  have p6 : pP (psP C6 q 5 (pN D5 + 1)) q 5 = (q + 110) + 1 := by rw [psP_at, if_pos ⟨rfl, rfl⟩, n5]
  have t1 := (s1.at b1 (by omega)).put (j := 5) (v := pN D5 + 1) (show q < q + 1 by omega)
  have u1 : pP (psP C6 q 5 (pN D5 + 1)) q 0 = (q + 1) + 1 := by rw [psP_at, if_neg (fun z => absurd z.2 (by decide)), (b1 q (by omega)).2.1]; exact p1
  have v1 := c1.lo b5 (by omega)
  clear s1 p1 c1
  have s1 := t1
  have p1 := u1
  have c1 := v1
  clear t1 u1 v1
  have t2 := (s2.at b1 (by omega)).put (j := 5) (v := pN D5 + 1) (show q < q + 17 by omega)
  have u2 : pP (psP C6 q 5 (pN D5 + 1)) q 1 = (q + 17) + 1 := by rw [psP_at, if_neg (fun z => absurd z.2 (by decide)), (b1 q (by omega)).2.1]; exact p2
  have v2 := c2.lo b5 (by omega)
  clear s2 p2 c2
  have s2 := t2
  have p2 := u2
  have c2 := v2
  clear t2 u2 v2
  have t3 := (s3.at b1 (by omega)).put (j := 5) (v := pN D5 + 1) (show q ≠ q + 101 by omega)
  have u3 : pP (psP C6 q 5 (pN D5 + 1)) q 2 = (q + 101) + 1 := by rw [psP_at, if_neg (fun z => absurd z.2 (by decide)), (b1 q (by omega)).2.1]; exact p3
  have v3 := c3.lo b5 (by omega)
  clear s3 p3 c3
  have s3 := t3
  have p3 := u3
  have c3 := v3
  clear t3 u3 v3
  have t4 := (s4.at b1 (by omega)).put (j := 5) (v := pN D5 + 1) (show q ≠ q + 103 by omega)
  have u4 : pP (psP C6 q 5 (pN D5 + 1)) q 3 = (q + 103) + 1 := by rw [psP_at, if_neg (fun z => absurd z.2 (by decide)), (b1 q (by omega)).2.1]; exact p4
  have v4 := c4.lo b5 (by omega)
  clear s4 p4 c4
  have s4 := t4
  have p4 := u4
  have c4 := v4
  clear t4 u4 v4
  have t5 := (s5.at b1 (by omega)).put (j := 5) (v := pN D5 + 1) (show q < q + 105 by omega)
  have u5 : pP (psP C6 q 5 (pN D5 + 1)) q 4 = (q + 105) + 1 := by rw [psP_at, if_neg (fun z => absurd z.2 (by decide)), (b1 q (by omega)).2.1]; exact p5
  have v5 := c5.lo b5 (by omega)
  clear s5 p5 c5
  have s5 := t5
  have p5 := u5
  have c5 := v5
  clear t5 u5 v5
  have c6 := b4
  clear b3 b4 b1 b5 kq5 n5 at5 fr5
  clear b2
  generalize psP C6 q 5 (pN D5 + 1) = D6 at *
  exact ⟨rfl, h D6 J6 at6 n6 ⟨kq6, ⟨p1, p2, p3, p4, p5, p6⟩, s1, s2, s3, s4, s5, s6⟩ ⟨c1, c2, c3, c4, c5, c6, by simp [bK0], by simp [bK0]⟩ fr6⟩
