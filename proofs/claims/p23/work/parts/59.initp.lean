/-! A NEW PAD -/
def rdS0 (B : pM) (q : Nat) : Prop := pK B q = (1, 7) ∧ (pP B q 0 = (q + 1) + 1 ∧ pP B q 1 = (q + 52) + 1) ∧ toksS B (q + 1) ∧ rowS B (q + 52) 401
theorem rdS0.at {B C : pM} {q m : Nat} (h : rdS0 B q) (e : At m B C) (hq : q + 54 ≤ m) : rdS0 C q := by
  obtain ⟨h1, h2, h3, h4⟩ := h
  obtain ⟨a1, a2, -⟩ := e q (by omega)
  exact ⟨by rw [a1]; exact h1, by rw [a2]; exact h2, h3.at e (by omega), h4.at e (by omega)⟩
theorem rdS0.put {B : pM} {q a j v : Nat} (h : rdS0 B q) (hq : a < q) : rdS0 (psP B a j v) q := by
  obtain ⟨h1, h2, h3, h4⟩ := h
  exact ⟨h1, by rw [pP_put (by omega)]; exact h2, h3.put (by omega), h4.put (by omega)⟩
def KwR (I : pIm) (q : Nat) : Prop := Kw I (q + 1)
theorem KwR.lo {I J : pIm} {q m : Nat} (h : KwR I q) (f : ∀ x, x < m → J x = I x) (hq : q + 52 ≤ m) : KwR J q := Kw.lo (q := q + 1) h f (by omega)
theorem KwR.f {I J : pIm} {q lo hi : Nat} (h : KwR I q) (f : Fr lo hi I J) (hq : hi ≤ q) : KwR J q := Nm.f (q := q + 1 + 1) h f (by omega)
theorem bookS.at {B C : pM} {q m : Nat} (h : bookS B q) (e : At m B C) (hq : q + 527 ≤ m) : bookS C q := by
  obtain ⟨h1, h2, r1, r2, r3, r4, r5, r6⟩ := h
  obtain ⟨a1, a2, -⟩ := e q (by omega)
  exact ⟨by rw [a1]; exact h1, by rw [a2]; exact h2, r1.at e (by omega), r2.at e (by omega), r3.at e (by omega), r4.at e (by omega), r5.at e (by omega), r6.at e (by omega)⟩
theorem bookS.put {B : pM} {q a j v : Nat} (h : bookS B q) (hq : a < q) : bookS (psP B a j v) q := by
  obtain ⟨h1, h2, r1, r2, r3, r4, r5, r6⟩ := h
  exact ⟨h1, by rw [pP_put (by omega)]; exact h2, r1.put (by omega), r2.put (by omega), r3.put (by omega), r4.put (by omega), r5.put (by omega), r6.put (by omega)⟩
theorem rankS.at {B C : pM} {q m : Nat} (h : rankS B q) (e : At m B C) (hq : q + 14 ≤ m) : rankS C q := by
  obtain ⟨h1, h2, r1, r2, r3, r4, r5, r6⟩ := h
  obtain ⟨a1, a2, -⟩ := e q (by omega)
  exact ⟨by rw [a1]; exact h1, by rw [a2]; exact h2, r1.at e (by omega), r2.at e (by omega), r3.at e (by omega), r4.at e (by omega), r5.at e (by omega), r6.at e (by omega)⟩
theorem rankS.put {B : pM} {q a j v : Nat} (h : rankS B q) (hq : a < q) : rankS (psP B a j v) q := by
  obtain ⟨h1, h2, r1, r2, r3, r4, r5, r6⟩ := h
  exact ⟨h1, by rw [pP_put (by omega)]; exact h2, r1.put (by omega), r2.put (by omega), r3.put (by omega), r4.put (by omega), r5.put (by omega), r6.put (by omega)⟩
theorem Bo.lo {I J : pIm} {q m : Nat} {b : bB} (h : Bo I q b) (f : ∀ x, x < m → J x = I x) (hq : q + 417 ≤ m) : Bo J q b := by
  obtain ⟨h1, h2, h3, h4, h5, h6, h7, h8⟩ := h
  exact ⟨h1.lo f (by omega), h2.lo f (by omega), h3.lo f (by omega), h4.lo f (by omega), h5.lo f (by omega), h6.lo f (by omega), h7.lo2 f (by omega), h8⟩
theorem Bk.lo {I J : pIm} {q m : Nat} {b : bK} (h : Bk I q b) (f : ∀ x, x < m → J x = I x) (hq : q + 527 ≤ m) : Bk J q b := by
  obtain ⟨h1, h2, h3, h4, h5, h6, h7⟩ := h
  exact ⟨h1.lo2 f (by omega), h2.lo2 f (by omega), h3.lo f (by omega), h4.lo f (by omega), h5.lo f (by omega), h6.lo f (by omega), h7⟩
theorem Hd.lo {I J : pIm} {q m : Nat} {ty : List Int32} {tk la li : Int32} (h : Hd I q ty tk la li) (f : ∀ x, x < m → J x = I x) (hq : q + 3 ≤ m) : Hd J q ty tk la li := by
  obtain ⟨h1, h2, h3, h4, h5⟩ := h
  exact ⟨h1.lo f (by omega), h2, by rw [f q (by omega)]; exact h3, by rw [f q (by omega)]; exact h4, by rw [f q (by omega)]; exact h5⟩
def Z6 (I : pIm) (q : Nat) : Prop := I q 6 = 0
theorem Z6.lo {I J : pIm} {q m : Nat} (h : Z6 I q) (f : ∀ x, x < m → J x = I x) (hq : q + 1 ≤ m) : Z6 J q := by
  show J q 6 = 0
  rw [f q (by omega)]; exact h
theorem c_newRead {d : Nat} (hd : 7 ≤ d) {B : pM} {I : pIm} {K : pM → Prop} (hB : pN B + 54 < pBIG)
    (h : ∀ C J, At (pN B) B C → pN C = pN B + 54 → rdS0 C (pN B) → KwR J (pN B) → (∀ x, x < pN B → J x = I x) → K (pset C J)) : pCall_v d mX7_init (53, 1881) [.ref (pN B)] (pnew (pset B I) (1, 7)) K := by
  rw [pnew_pset]
  have kq : pK (pnew B (1, 7)) (pN B) = (1, 7) := if_pos rfl
  exact c_readInit hd kq rfl hB (fun C J a1 a2 a3 a4 a5 a6 a7 a8 => h C J (At.new.tr a1) a2 ⟨a3, a4, a5, a6⟩ a7 (keepI (k := (1, 7)) rfl a8))
theorem c_newBook {d : Nat} (hd : 6 ≤ d) {B : pM} {I : pIm} {K : pM → Prop} (hB : pN B + 527 < pBIG)
    (h : ∀ C J, At (pN B) B C → pN C = pN B + 527 → bookS C (pN B) → Bk J (pN B) bK0 → (∀ x, x < pN B → J x = I x) → K (pset C J)) : pCall_v d mX0_init (526, 4427) [.ref (pN B)] (pnew (pset B I) (1, 0)) K := by
  rw [pnew_pset]
  have kq : pK (pnew B (1, 0)) (pN B) = (1, 0) := if_pos rfl
  exact c_bookInit hd kq rfl hB (fun C J a1 a2 a3 a4 a5 => h C J (At.new.tr a1) a2 a3 a4 (keepI (k := (1, 0)) rfl a5))
theorem c_newRank {d : Nat} (hd : 4 ≤ d) {B : pM} {I : pIm} {K : pM → Prop} (hB : pN B + 14 < pBIG)
    (h : ∀ C J, At (pN B) B C → pN C = pN B + 14 → rankS C (pN B) → True → (∀ x, x < pN B → J x = I x) → K (pset C J)) : pCall_v d mX6_init (13, 549) [.ref (pN B)] (pnew (pset B I) (1, 6)) K := by
  rw [pnew_pset]
  have kq : pK (pnew B (1, 6)) (pN B) = (1, 6) := if_pos rfl
  exact c_rankInit hd kq rfl hB (fun C J a1 a2 a3 a5 => h C J (At.new.tr a1) a2 a3 trivial (keepI (k := (1, 6)) rfl a5))
theorem c_padInit {d : Nat} (hd : 9 ≤ d) {B : pM} {I : pIm} {q : Nat} {K : pM → Prop} (hk : pK B q = (1, 11)) (hN : pN B = q + 1) (hB : q + 1145 < pBIG)
    (h : ∀ C J, At q B C → pN C = q + 1145 → padS C q (q + 57) (q + 584) → padD J q (q + 57) (q + 584) ([], -1, bK0, [], 0, -1, 4) → (∀ x, x < q → J x = I x) → K (pset C J)) : pCall_v d mX11_init (1144, 13916) [.ref q] (pset B I) K := by
  refine CP_go (by omega) okX11_init (Nat.le_of_ble_eq_true rfl) (bX11_init_0 ?_)
  have d0 : 8 ≤ d - 1 := by omega
  have at0 : At q B B := At.rf
  have fr0 : ∀ x, x < q → I x = I x := fun _ _ => rfl
  refine ⟨by decide, by decide, by show pN B < pBIG; omega, fun Na ea => ⟨(1, 2000), by decide, by decide, ?_⟩⟩
  subst ea
  refine c_newRow (B := B) (I := I) (by omega) 2000 (by omega) (by decide) (fun C1 J1 b1 b2 b3 b4 b5 => ⟨(b1 q (by omega)).1.trans hk, fun Nb eb => ?_⟩)
  have eb2 : Nb = pset (psP C1 q 0 (pN B + 1)) J1 := eb
  clear eb
  subst eb2
  rw [hN] at b3 b4
  have kq1 : pK (psP C1 q 0 (pN B + 1)) q = (1, 11) := (b1 q (by omega)).1.trans hk
  have n1 : pN (psP C1 q 0 (pN B + 1)) = q + 3 := by show pN C1 = _; omega
  have at1 : At q B (psP C1 q 0 (pN B + 1)) := (at0.tr (b1.le (by omega))).tr (At.putP (Nat.le_refl _))
  have fr1 : ∀ x, x < q → J1 x = I x := fun x hx => (b5 x (by omega)).trans (fr0 x hx)
  have s1 := b3.put (j := 0) (v := pN B + 1) (show q ≠ q + 1 by omega)
  have p1 : pP (psP C1 q 0 (pN B + 1)) q 0 = (q + 1) + 1 := by rw [psP_at, if_pos ⟨rfl, rfl⟩, hN]
  have c1 := b4
  clear b3 b4 b1 b5   at0 fr0
  clear b2
  generalize psP C1 q 0 (pN B + 1) = D1 at *
  refine ⟨by decide, by decide, by show pN D1 < pBIG; omega, fun Na ea => ⟨(53, 1881), by decide, by decide, ?_⟩⟩
  subst ea
  refine c_newRead (B := D1) (I := J1) (by omega) (by omega) (fun C2 J2 b1 b2 b3 b4 b5 => ⟨(b1 q (by omega)).1.trans kq1, fun Nb eb => ?_⟩)
  have eb2 : Nb = pset (psP C2 q 1 (pN D1 + 1)) J2 := eb
  clear eb
  subst eb2
  rw [n1] at b3 b4
  have kq2 : pK (psP C2 q 1 (pN D1 + 1)) q = (1, 11) := (b1 q (by omega)).1.trans kq1
  have n2 : pN (psP C2 q 1 (pN D1 + 1)) = q + 57 := by show pN C2 = _; omega
  have at2 : At q B (psP C2 q 1 (pN D1 + 1)) := (at1.tr (b1.le (by omega))).tr (At.putP (Nat.le_refl _))
  have fr2 : ∀ x, x < q → J2 x = I x := fun x hx => (b5 x (by omega)).trans (fr1 x hx)
  have s2 := b3.put (j := 1) (v := pN D1 + 1) (show q < q + 3 by omega)
  have p2 : pP (psP C2 q 1 (pN D1 + 1)) q 1 = (q + 3) + 1 := by rw [psP_at, if_pos ⟨rfl, rfl⟩, n1]
  have t1 := (s1.at b1 (by omega)).put (j := 1) (v := pN D1 + 1) (show q ≠ q + 1 by omega)
  have u1 : pP (psP C2 q 1 (pN D1 + 1)) q 0 = (q + 1) + 1 := by rw [psP_at, if_neg (fun z => absurd z.2 (by decide)), (b1 q (by omega)).2.1]; exact p1
  have v1 := c1.lo b5 (by omega)
  clear s1 p1 c1
  have s1 := t1
  have p1 := u1
  have c1 := v1
  clear t1 u1 v1
  have c2 := b4
  clear b3 b4 b1 b5 kq1 n1 at1 fr1
  clear b2
  generalize psP C2 q 1 (pN D1 + 1) = D2 at *
  refine ⟨by decide, by decide, by show pN D2 < pBIG; omega, fun Na ea => ⟨(526, 4427), by decide, by decide, ?_⟩⟩
  subst ea
  refine c_newBook (B := D2) (I := J2) (by omega) (by omega) (fun C3 J3 b1 b2 b3 b4 b5 => ⟨(b1 q (by omega)).1.trans kq2, fun Nb eb => ?_⟩)
  have eb2 : Nb = pset (psP C3 q 2 (pN D2 + 1)) J3 := eb
  clear eb
  subst eb2
  rw [n2] at b3 b4
  have kq3 : pK (psP C3 q 2 (pN D2 + 1)) q = (1, 11) := (b1 q (by omega)).1.trans kq2
  have n3 : pN (psP C3 q 2 (pN D2 + 1)) = q + 584 := by show pN C3 = _; omega
  have at3 : At q B (psP C3 q 2 (pN D2 + 1)) := (at2.tr (b1.le (by omega))).tr (At.putP (Nat.le_refl _))
  have fr3 : ∀ x, x < q → J3 x = I x := fun x hx => (b5 x (by omega)).trans (fr2 x hx)
  have s3 := b3.put (j := 2) (v := pN D2 + 1) (show q < q + 57 by omega)
  have p3 : pP (psP C3 q 2 (pN D2 + 1)) q 2 = (q + 57) + 1 := by rw [psP_at, if_pos ⟨rfl, rfl⟩, n2]
  have t1 := (s1.at b1 (by omega)).put (j := 2) (v := pN D2 + 1) (show q ≠ q + 1 by omega)
  have u1 : pP (psP C3 q 2 (pN D2 + 1)) q 0 = (q + 1) + 1 := by rw [psP_at, if_neg (fun z => absurd z.2 (by decide)), (b1 q (by omega)).2.1]; exact p1
  have v1 := c1.lo b5 (by omega)
  clear s1 p1 c1
  have s1 := t1
  have p1 := u1
  have c1 := v1
  clear t1 u1 v1
  have t2 := (s2.at b1 (by omega)).put (j := 2) (v := pN D2 + 1) (show q < q + 3 by omega)
  have u2 : pP (psP C3 q 2 (pN D2 + 1)) q 1 = (q + 3) + 1 := by rw [psP_at, if_neg (fun z => absurd z.2 (by decide)), (b1 q (by omega)).2.1]; exact p2
  have v2 := c2.lo b5 (by omega)
  clear s2 p2 c2
  have s2 := t2
  have p2 := u2
  have c2 := v2
  clear t2 u2 v2
  have c3 := b4
  clear b3 b4 b1 b5 kq2 n2 at2 fr2
  clear b2
  generalize psP C3 q 2 (pN D2 + 1) = D3 at *
  refine ⟨by decide, by decide, by show pN D3 < pBIG; omega, fun Na ea => ⟨(526, 4427), by decide, by decide, ?_⟩⟩
  subst ea
  refine c_newBook (B := D3) (I := J3) (by omega) (by omega) (fun C4 J4 b1 b2 b3 b4 b5 => ⟨(b1 q (by omega)).1.trans kq3, fun Nb eb => ?_⟩)
  have eb2 : Nb = pset (psP C4 q 3 (pN D3 + 1)) J4 := eb
  clear eb
  subst eb2
  rw [n3] at b3 b4
  have kq4 : pK (psP C4 q 3 (pN D3 + 1)) q = (1, 11) := (b1 q (by omega)).1.trans kq3
  have n4 : pN (psP C4 q 3 (pN D3 + 1)) = q + 1111 := by show pN C4 = _; omega
  have at4 : At q B (psP C4 q 3 (pN D3 + 1)) := (at3.tr (b1.le (by omega))).tr (At.putP (Nat.le_refl _))
  have fr4 : ∀ x, x < q → J4 x = I x := fun x hx => (b5 x (by omega)).trans (fr3 x hx)
  have s4 := b3.put (j := 3) (v := pN D3 + 1) (show q < q + 584 by omega)
  have p4 : pP (psP C4 q 3 (pN D3 + 1)) q 3 = (q + 584) + 1 := by rw [psP_at, if_pos ⟨rfl, rfl⟩, n3]
  have t1 := (s1.at b1 (by omega)).put (j := 3) (v := pN D3 + 1) (show q ≠ q + 1 by omega)
  have u1 : pP (psP C4 q 3 (pN D3 + 1)) q 0 = (q + 1) + 1 := by rw [psP_at, if_neg (fun z => absurd z.2 (by decide)), (b1 q (by omega)).2.1]; exact p1
  have v1 := c1.lo b5 (by omega)
  clear s1 p1 c1
  have s1 := t1
  have p1 := u1
  have c1 := v1
  clear t1 u1 v1
  have t2 := (s2.at b1 (by omega)).put (j := 3) (v := pN D3 + 1) (show q < q + 3 by omega)
  have u2 : pP (psP C4 q 3 (pN D3 + 1)) q 1 = (q + 3) + 1 := by rw [psP_at, if_neg (fun z => absurd z.2 (by decide)), (b1 q (by omega)).2.1]; exact p2
  have v2 := c2.lo b5 (by omega)
  clear s2 p2 c2
  have s2 := t2
  have p2 := u2
  have c2 := v2
  clear t2 u2 v2
  have t3 := (s3.at b1 (by omega)).put (j := 3) (v := pN D3 + 1) (show q < q + 57 by omega)
  have u3 : pP (psP C4 q 3 (pN D3 + 1)) q 2 = (q + 57) + 1 := by rw [psP_at, if_neg (fun z => absurd z.2 (by decide)), (b1 q (by omega)).2.1]; exact p3
  have v3 := c3.lo b5 (by omega)
  clear s3 p3 c3
  have s3 := t3
  have p3 := u3
  have c3 := v3
  clear t3 u3 v3
  have c4 := b4
  clear b3 b4 b1 b5 kq3 n3 at3 fr3
  clear b2
  generalize psP C4 q 3 (pN D3 + 1) = D4 at *
  refine ⟨by decide, by decide, by show pN D4 < pBIG; omega, fun Na ea => ⟨(2, 22), by decide, by decide, ?_⟩⟩
  subst ea
  refine c_newHand (B := D4) (I := J4) (by omega) (by omega) (fun C5 J5 b1 b2 b3 b4 b5 => ⟨(b1 q (by omega)).1.trans kq4, fun Nb eb => ?_⟩)
  have eb2 : Nb = pset (psP C5 q 4 (pN D4 + 1)) J5 := eb
  clear eb
  subst eb2
  rw [n4] at b3 b4
  have kq5 : pK (psP C5 q 4 (pN D4 + 1)) q = (1, 11) := (b1 q (by omega)).1.trans kq4
  have n5 : pN (psP C5 q 4 (pN D4 + 1)) = q + 1114 := by show pN C5 = _; omega
  have at5 : At q B (psP C5 q 4 (pN D4 + 1)) := (at4.tr (b1.le (by omega))).tr (At.putP (Nat.le_refl _))
  have fr5 : ∀ x, x < q → J5 x = I x := fun x hx => (b5 x (by omega)).trans (fr4 x hx)
  have s5 := b3.put (j := 4) (v := pN D4 + 1) (show q < q + 1111 by omega)
  have p5 : pP (psP C5 q 4 (pN D4 + 1)) q 4 = (q + 1111) + 1 := by rw [psP_at, if_pos ⟨rfl, rfl⟩, n4]
  have t1 := (s1.at b1 (by omega)).put (j := 4) (v := pN D4 + 1) (show q ≠ q + 1 by omega)
  have u1 : pP (psP C5 q 4 (pN D4 + 1)) q 0 = (q + 1) + 1 := by rw [psP_at, if_neg (fun z => absurd z.2 (by decide)), (b1 q (by omega)).2.1]; exact p1
  have v1 := c1.lo b5 (by omega)
  clear s1 p1 c1
  have s1 := t1
  have p1 := u1
  have c1 := v1
  clear t1 u1 v1
  have t2 := (s2.at b1 (by omega)).put (j := 4) (v := pN D4 + 1) (show q < q + 3 by omega)
  have u2 : pP (psP C5 q 4 (pN D4 + 1)) q 1 = (q + 3) + 1 := by rw [psP_at, if_neg (fun z => absurd z.2 (by decide)), (b1 q (by omega)).2.1]; exact p2
  have v2 := c2.lo b5 (by omega)
  clear s2 p2 c2
  have s2 := t2
  have p2 := u2
  have c2 := v2
  clear t2 u2 v2
  have t3 := (s3.at b1 (by omega)).put (j := 4) (v := pN D4 + 1) (show q < q + 57 by omega)
  have u3 : pP (psP C5 q 4 (pN D4 + 1)) q 2 = (q + 57) + 1 := by rw [psP_at, if_neg (fun z => absurd z.2 (by decide)), (b1 q (by omega)).2.1]; exact p3
  have v3 := c3.lo b5 (by omega)
  clear s3 p3 c3
  have s3 := t3
  have p3 := u3
  have c3 := v3
  clear t3 u3 v3
  have t4 := (s4.at b1 (by omega)).put (j := 4) (v := pN D4 + 1) (show q < q + 584 by omega)
  have u4 : pP (psP C5 q 4 (pN D4 + 1)) q 3 = (q + 584) + 1 := by rw [psP_at, if_neg (fun z => absurd z.2 (by decide)), (b1 q (by omega)).2.1]; exact p4
  have v4 := c4.lo b5 (by omega)
  clear s4 p4 c4
  have s4 := t4
  have p4 := u4
  have c4 := v4
  clear t4 u4 v4
  have c5 := b4
  clear b3 b4 b1 b5 kq4 n4 at4 fr4
  clear b2
  generalize psP C5 q 4 (pN D4 + 1) = D5 at *
  refine ⟨by decide, by decide, by show pN D5 < pBIG; omega, fun Na ea => ⟨(13, 549), by decide, by decide, ?_⟩⟩
  subst ea
  refine c_newRank (B := D5) (I := J5) (by omega) (by omega) (fun C6 J6 b1 b2 b3 b4 b5 => ⟨(b1 q (by omega)).1.trans kq5, fun Nb eb => ?_⟩)
  have eb2 : Nb = pset (psP C6 q 5 (pN D5 + 1)) J6 := eb
  clear eb
  subst eb2
  rw [n5] at b3
  have kq6 : pK (psP C6 q 5 (pN D5 + 1)) q = (1, 11) := (b1 q (by omega)).1.trans kq5
  have n6 : pN (psP C6 q 5 (pN D5 + 1)) = q + 1128 := by show pN C6 = _; omega
  have at6 : At q B (psP C6 q 5 (pN D5 + 1)) := (at5.tr (b1.le (by omega))).tr (At.putP (Nat.le_refl _))
  have fr6 : ∀ x, x < q → J6 x = I x := fun x hx => (b5 x (by omega)).trans (fr5 x hx)
  have s6 := b3.put (j := 5) (v := pN D5 + 1) (show q < q + 1114 by omega)
  have p6 : pP (psP C6 q 5 (pN D5 + 1)) q 5 = (q + 1114) + 1 := by rw [psP_at, if_pos ⟨rfl, rfl⟩, n5]
  have t1 := (s1.at b1 (by omega)).put (j := 5) (v := pN D5 + 1) (show q ≠ q + 1 by omega)
  have u1 : pP (psP C6 q 5 (pN D5 + 1)) q 0 = (q + 1) + 1 := by rw [psP_at, if_neg (fun z => absurd z.2 (by decide)), (b1 q (by omega)).2.1]; exact p1
  have v1 := c1.lo b5 (by omega)
  clear s1 p1 c1
  have s1 := t1
  have p1 := u1
  have c1 := v1
  clear t1 u1 v1
  have t2 := (s2.at b1 (by omega)).put (j := 5) (v := pN D5 + 1) (show q < q + 3 by omega)
  have u2 : pP (psP C6 q 5 (pN D5 + 1)) q 1 = (q + 3) + 1 := by rw [psP_at, if_neg (fun z => absurd z.2 (by decide)), (b1 q (by omega)).2.1]; exact p2
  have v2 := c2.lo b5 (by omega)
  clear s2 p2 c2
  have s2 := t2
  have p2 := u2
  have c2 := v2
  clear t2 u2 v2
  have t3 := (s3.at b1 (by omega)).put (j := 5) (v := pN D5 + 1) (show q < q + 57 by omega)
  have u3 : pP (psP C6 q 5 (pN D5 + 1)) q 2 = (q + 57) + 1 := by rw [psP_at, if_neg (fun z => absurd z.2 (by decide)), (b1 q (by omega)).2.1]; exact p3
  have v3 := c3.lo b5 (by omega)
  clear s3 p3 c3
  have s3 := t3
  have p3 := u3
  have c3 := v3
  clear t3 u3 v3
  have t4 := (s4.at b1 (by omega)).put (j := 5) (v := pN D5 + 1) (show q < q + 584 by omega)
  have u4 : pP (psP C6 q 5 (pN D5 + 1)) q 3 = (q + 584) + 1 := by rw [psP_at, if_neg (fun z => absurd z.2 (by decide)), (b1 q (by omega)).2.1]; exact p4
  have v4 := c4.lo b5 (by omega)
  clear s4 p4 c4
  have s4 := t4
  have p4 := u4
  have c4 := v4
  clear t4 u4 v4
  have t5 := (s5.at b1 (by omega)).put (j := 5) (v := pN D5 + 1) (show q < q + 1111 by omega)
  have u5 : pP (psP C6 q 5 (pN D5 + 1)) q 4 = (q + 1111) + 1 := by rw [psP_at, if_neg (fun z => absurd z.2 (by decide)), (b1 q (by omega)).2.1]; exact p5
  have v5 := c5.lo b5 (by omega)
  clear s5 p5 c5
  have s5 := t5
  have p5 := u5
  have c5 := v5
  clear t5 u5 v5
  clear b3 b4 b1 b5 kq5 n5 at5 fr5
  clear b2
  generalize psP C6 q 5 (pN D5 + 1) = D6 at *
  refine ⟨kq6, fun Nc ec => ?_⟩
  have ec2 : Nc = pset D6 (u2 J6 q 6 0) := ec
  clear ec
  subst ec2
  have f6 : Fr q (q + 1) J6 (u2 J6 q 6 0) := Fr.u (by omega) (by omega)
  have c6 : Z6 (u2 J6 q 6 0) q := u2_same
  have e1 := c1.f f6 (by omega)
  have e2 := c2.f f6 (by omega)
  have e3 := c3.f f6 (by omega)
  have e4 := c4.f f6 (by omega)
  have e5 := c5.f f6 (by omega)
  have e6 : ∀ x, x < q → u2 J6 q 6 0 x = I x := fun x hx => by rw [f6 x (by omega)]; exact fr6 x hx
  clear c1 c2 c3 c4 c5 fr6 f6
  have c1 := e1
  have c2 := e2
  have c3 := e3
  have c4 := e4
  have c5 := e5
  have fr6 := e6
  clear e1 e2 e3 e4 e5 e6
  generalize u2 J6 q 6 0 = J6b at *
  refine ⟨by decide, by decide, by show pN D6 < pBIG; omega, fun Na ea => ⟨(2, 22), by decide, by decide, ?_⟩⟩
  subst ea
  refine c_newHand (B := D6) (I := J6b) (by omega) (by omega) (fun C7 J7 b1 b2 b3 b4 b5 => ⟨(b1 q (by omega)).1.trans kq6, fun Nb eb => ?_⟩)
  have eb2 : Nb = pset (psP C7 q 7 (pN D6 + 1)) J7 := eb
  clear eb
  subst eb2
  rw [n6] at b3 b4
  have kq7 : pK (psP C7 q 7 (pN D6 + 1)) q = (1, 11) := (b1 q (by omega)).1.trans kq6
  have n7 : pN (psP C7 q 7 (pN D6 + 1)) = q + 1131 := by show pN C7 = _; omega
  have at7 : At q B (psP C7 q 7 (pN D6 + 1)) := (at6.tr (b1.le (by omega))).tr (At.putP (Nat.le_refl _))
  have fr7 : ∀ x, x < q → J7 x = I x := fun x hx => (b5 x (by omega)).trans (fr6 x hx)
  have s7 := b3.put (j := 7) (v := pN D6 + 1) (show q < q + 1128 by omega)
  have p7 : pP (psP C7 q 7 (pN D6 + 1)) q 7 = (q + 1128) + 1 := by rw [psP_at, if_pos ⟨rfl, rfl⟩, n6]
  have t1 := (s1.at b1 (by omega)).put (j := 7) (v := pN D6 + 1) (show q ≠ q + 1 by omega)
  have u1 : pP (psP C7 q 7 (pN D6 + 1)) q 0 = (q + 1) + 1 := by rw [psP_at, if_neg (fun z => absurd z.2 (by decide)), (b1 q (by omega)).2.1]; exact p1
  have v1 := c1.lo b5 (by omega)
  clear s1 p1 c1
  have s1 := t1
  have p1 := u1
  have c1 := v1
  clear t1 u1 v1
  have t2 := (s2.at b1 (by omega)).put (j := 7) (v := pN D6 + 1) (show q < q + 3 by omega)
  have u2 : pP (psP C7 q 7 (pN D6 + 1)) q 1 = (q + 3) + 1 := by rw [psP_at, if_neg (fun z => absurd z.2 (by decide)), (b1 q (by omega)).2.1]; exact p2
  have v2 := c2.lo b5 (by omega)
  clear s2 p2 c2
  have s2 := t2
  have p2 := u2
  have c2 := v2
  clear t2 u2 v2
  have t3 := (s3.at b1 (by omega)).put (j := 7) (v := pN D6 + 1) (show q < q + 57 by omega)
  have u3 : pP (psP C7 q 7 (pN D6 + 1)) q 2 = (q + 57) + 1 := by rw [psP_at, if_neg (fun z => absurd z.2 (by decide)), (b1 q (by omega)).2.1]; exact p3
  have v3 := c3.lo b5 (by omega)
  clear s3 p3 c3
  have s3 := t3
  have p3 := u3
  have c3 := v3
  clear t3 u3 v3
  have t4 := (s4.at b1 (by omega)).put (j := 7) (v := pN D6 + 1) (show q < q + 584 by omega)
  have u4 : pP (psP C7 q 7 (pN D6 + 1)) q 3 = (q + 584) + 1 := by rw [psP_at, if_neg (fun z => absurd z.2 (by decide)), (b1 q (by omega)).2.1]; exact p4
  have v4 := c4.lo b5 (by omega)
  clear s4 p4 c4
  have s4 := t4
  have p4 := u4
  have c4 := v4
  clear t4 u4 v4
  have t5 := (s5.at b1 (by omega)).put (j := 7) (v := pN D6 + 1) (show q < q + 1111 by omega)
  have u5 : pP (psP C7 q 7 (pN D6 + 1)) q 4 = (q + 1111) + 1 := by rw [psP_at, if_neg (fun z => absurd z.2 (by decide)), (b1 q (by omega)).2.1]; exact p5
  have v5 := c5.lo b5 (by omega)
  clear s5 p5 c5
  have s5 := t5
  have p5 := u5
  have c5 := v5
  clear t5 u5 v5
  have t6 := (s6.at b1 (by omega)).put (j := 7) (v := pN D6 + 1) (show q < q + 1114 by omega)
  have u6 : pP (psP C7 q 7 (pN D6 + 1)) q 5 = (q + 1114) + 1 := by rw [psP_at, if_neg (fun z => absurd z.2 (by decide)), (b1 q (by omega)).2.1]; exact p6
  have v6 := c6.lo b5 (by omega)
  clear s6 p6 c6
  have s6 := t6
  have p6 := u6
  have c6 := v6
  clear t6 u6 v6
  have c7 := b4
  clear b3 b4 b1 b5 kq6 n6 at6 fr6
  clear b2
  generalize psP C7 q 7 (pN D6 + 1) = D7 at *
  refine ⟨by decide, by decide, by show pN D7 < pBIG; omega, fun Na ea => ⟨(13, 549), by decide, by decide, ?_⟩⟩
  subst ea
  refine c_newRank (B := D7) (I := J7) (by omega) (by omega) (fun C8 J8 b1 b2 b3 b4 b5 => ⟨(b1 q (by omega)).1.trans kq7, fun Nb eb => ?_⟩)
  have eb2 : Nb = pset (psP C8 q 8 (pN D7 + 1)) J8 := eb
  clear eb
  subst eb2
  rw [n7] at b3
  have kq8 : pK (psP C8 q 8 (pN D7 + 1)) q = (1, 11) := (b1 q (by omega)).1.trans kq7
  have n8 : pN (psP C8 q 8 (pN D7 + 1)) = q + 1145 := by show pN C8 = _; omega
  have at8 : At q B (psP C8 q 8 (pN D7 + 1)) := (at7.tr (b1.le (by omega))).tr (At.putP (Nat.le_refl _))
  have fr8 : ∀ x, x < q → J8 x = I x := fun x hx => (b5 x (by omega)).trans (fr7 x hx)
  have s8 := b3.put (j := 8) (v := pN D7 + 1) (show q < q + 1131 by omega)
  have p8 : pP (psP C8 q 8 (pN D7 + 1)) q 8 = (q + 1131) + 1 := by rw [psP_at, if_pos ⟨rfl, rfl⟩, n7]
  have t1 := (s1.at b1 (by omega)).put (j := 8) (v := pN D7 + 1) (show q ≠ q + 1 by omega)
  have u1 : pP (psP C8 q 8 (pN D7 + 1)) q 0 = (q + 1) + 1 := by rw [psP_at, if_neg (fun z => absurd z.2 (by decide)), (b1 q (by omega)).2.1]; exact p1
  have v1 := c1.lo b5 (by omega)
  clear s1 p1 c1
  have s1 := t1
  have p1 := u1
  have c1 := v1
  clear t1 u1 v1
  have t2 := (s2.at b1 (by omega)).put (j := 8) (v := pN D7 + 1) (show q < q + 3 by omega)
  have u2 : pP (psP C8 q 8 (pN D7 + 1)) q 1 = (q + 3) + 1 := by rw [psP_at, if_neg (fun z => absurd z.2 (by decide)), (b1 q (by omega)).2.1]; exact p2
  have v2 := c2.lo b5 (by omega)
  clear s2 p2 c2
  have s2 := t2
  have p2 := u2
  have c2 := v2
  clear t2 u2 v2
  have t3 := (s3.at b1 (by omega)).put (j := 8) (v := pN D7 + 1) (show q < q + 57 by omega)
  have u3 : pP (psP C8 q 8 (pN D7 + 1)) q 2 = (q + 57) + 1 := by rw [psP_at, if_neg (fun z => absurd z.2 (by decide)), (b1 q (by omega)).2.1]; exact p3
  have v3 := c3.lo b5 (by omega)
  clear s3 p3 c3
  have s3 := t3
  have p3 := u3
  have c3 := v3
  clear t3 u3 v3
  have t4 := (s4.at b1 (by omega)).put (j := 8) (v := pN D7 + 1) (show q < q + 584 by omega)
  have u4 : pP (psP C8 q 8 (pN D7 + 1)) q 3 = (q + 584) + 1 := by rw [psP_at, if_neg (fun z => absurd z.2 (by decide)), (b1 q (by omega)).2.1]; exact p4
  have v4 := c4.lo b5 (by omega)
  clear s4 p4 c4
  have s4 := t4
  have p4 := u4
  have c4 := v4
  clear t4 u4 v4
  have t5 := (s5.at b1 (by omega)).put (j := 8) (v := pN D7 + 1) (show q < q + 1111 by omega)
  have u5 : pP (psP C8 q 8 (pN D7 + 1)) q 4 = (q + 1111) + 1 := by rw [psP_at, if_neg (fun z => absurd z.2 (by decide)), (b1 q (by omega)).2.1]; exact p5
  have v5 := c5.lo b5 (by omega)
  clear s5 p5 c5
  have s5 := t5
  have p5 := u5
  have c5 := v5
  clear t5 u5 v5
  have t6 := (s6.at b1 (by omega)).put (j := 8) (v := pN D7 + 1) (show q < q + 1114 by omega)
  have u6 : pP (psP C8 q 8 (pN D7 + 1)) q 5 = (q + 1114) + 1 := by rw [psP_at, if_neg (fun z => absurd z.2 (by decide)), (b1 q (by omega)).2.1]; exact p6
  have v6 := c6.lo b5 (by omega)
  clear s6 p6 c6
  have s6 := t6
  have p6 := u6
  have c6 := v6
  clear t6 u6 v6
  have t7 := (s7.at b1 (by omega)).put (j := 8) (v := pN D7 + 1) (show q < q + 1128 by omega)
  have u7 : pP (psP C8 q 8 (pN D7 + 1)) q 7 = (q + 1128) + 1 := by rw [psP_at, if_neg (fun z => absurd z.2 (by decide)), (b1 q (by omega)).2.1]; exact p7
  have v7 := c7.lo b5 (by omega)
  clear s7 p7 c7
  have s7 := t7
  have p7 := u7
  have c7 := v7
  clear t7 u7 v7
  clear b3 b4 b1 b5 kq7 n7 at7 fr7
  clear b2
  generalize psP C8 q 8 (pN D7 + 1) = D8 at *
  refine ⟨kq8, fun Nc ec => ⟨rfl, ?_⟩⟩
  subst ec
  have f : Fr q (q + 1) J8 (u2 J8 q 9 (-1)) := Fr.u (by omega) (by omega)
  obtain ⟨g1, g2, g3, g4⟩ := s2
  have lay : rdE D8 (q + 3) (q + 1) (q + 584) := ⟨g1, g2, g3, g4, s1, s4, by omega, by omega, by omega⟩
  refine h D8 (u2 J8 q 9 (-1)) at8 n8 ⟨kq8, ⟨p1, p2, p3, p4, p5, p6, p7, p8⟩, s1, lay, s3, s5, s6, s7, s8, Or.inl ⟨rfl, rfl⟩, by omega⟩ ⟨c1.f f (by omega), by simp, fun x hx => absurd hx List.not_mem_nil, u2_same, c3.f f (by omega), ⟨_, c4.f f (by omega)⟩, c5.f f (by omega), c2.f f (by omega), Or.inl ?_⟩ (fun x hx => by rw [f x (by omega)]; exact fr8 x hx)
  rw [u2_j (by decide)]
  exact c6
