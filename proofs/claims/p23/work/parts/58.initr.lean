/-! CONSTRUCTOR OF THE READER -/
theorem Nm.lo2 {I J : pIm} {q n m : Nat} {ls : List (List Int32)} (h : Nm I q n ls) (f : ∀ x, x < m → J x = I x) (hq : q + 4 + 2 * n ≤ m) : Nm J q n ls := by
  obtain ⟨h1, h2, h3, h4⟩ := h
  refine ⟨by rw [f q (by omega)]; exact h1, h2, h3.lo f (by omega), fun i l hl => ?_⟩
  have hi : i < ls.length := (List.getElem?_eq_some_iff.mp hl).1
  exact ⟨(h4 i l hl).1.lo f (by omega), (h4 i l hl).2⟩
def Kw (I : pIm) (q : Nat) : Prop := Nm I (q + 1) 19 keyw
theorem Kw.lo {I J : pIm} {q m : Nat} (h : Kw I q) (f : ∀ x, x < m → J x = I x) (hq : q + 51 ≤ m) : Kw J q := Nm.lo2 (q := q + 1) h f (by omega)
theorem toksS.at {B C : pM} {q m : Nat} (h : toksS B q) (e : At m B C) (hq : q + 51 ≤ m) : toksS C q := by
  obtain ⟨h1, h2, r1, r2, r3, r4, r5⟩ := h
  obtain ⟨a1, a2, -⟩ := e q (by omega)
  exact ⟨by rw [a1]; exact h1, by rw [a2]; exact h2, r1.at e (by omega), r2.at e (by omega), r3.at e (by omega), r4.at e (by omega), r5.at e (by omega)⟩
theorem toksS.put {B : pM} {q a j v : Nat} (h : toksS B q) (hq : a < q) : toksS (psP B a j v) q := by
  obtain ⟨h1, h2, r1, r2, r3, r4, r5⟩ := h
  exact ⟨h1, by rw [pP_put (by omega)]; exact h2, r1.put (by omega), r2.put (by omega), r3.put (by omega), r4.put (by omega), r5.put (by omega)⟩
theorem c_newToks {d : Nat} (hd : 6 ≤ d) {B : pM} {I : pIm} {K : pM → Prop} (hB : pN B + 51 < pBIG)
    (h : ∀ C J, At (pN B) B C → pN C = pN B + 51 → toksS C (pN B) → Kw J (pN B) → (∀ x, x < pN B → J x = I x) → K (pset C J)) : pCall_v d mX10_init (50, 1473) [.ref (pN B)] (pnew (pset B I) (1, 10)) K := by
  rw [pnew_pset]
  have kq : pK (pnew B (1, 10)) (pN B) = (1, 10) := if_pos rfl
  exact c_toksInit hd kq rfl hB (fun C J a1 a2 a3 a4 a5 => h C J (At.new.tr a1) a2 a3 a4 (keepI (k := (1, 10)) rfl a5))

theorem c_readInit {d : Nat} (hd : 7 ≤ d) {B : pM} {I : pIm} {q : Nat} {K : pM → Prop} (hk : pK B q = (1, 7)) (hN : pN B = q + 1) (hB : q + 54 < pBIG)
    (h : ∀ C J, At q B C → pN C = q + 54 → pK C q = (1, 7) → (pP C q 0 = (q + 1) + 1 ∧ pP C q 1 = (q + 52) + 1) → toksS C (q + 1) → rowS C (q + 52) 401 → Kw J (q + 1) → (∀ x, x < q → J x = I x) → K (pset C J)) : pCall_v d mX7_init (53, 1881) [.ref q] (pset B I) K := by
  refine CP_go (by omega) okX7_init (Nat.le_of_ble_eq_true rfl) (bX7_init_0 ?_)
  have d0 : 6 ≤ d - 1 := by omega
  have at0 : At q B B := At.rf
  have fr0 : ∀ x, x < q → I x = I x := fun _ _ => rfl
  refine ⟨by decide, by decide, by show pN B < pBIG; omega, fun Na ea => ⟨(50, 1473), by decide, by decide, ?_⟩⟩
  subst ea
  refine c_newToks (B := B) (I := I) (by omega) (by omega) (fun C1 J1 b1 b2 b3 b4 b5 => ⟨(b1 q (by omega)).1.trans hk, fun Nb eb => ?_⟩)
  have eb2 : Nb = pset (psP C1 q 0 (pN B + 1)) J1 := eb
  clear eb
  subst eb2
  rw [hN] at b3 b4
  have kq1 : pK (psP C1 q 0 (pN B + 1)) q = (1, 7) := (b1 q (by omega)).1.trans hk
  have n1 : pN (psP C1 q 0 (pN B + 1)) = q + 52 := by show pN C1 = _; omega
  have at1 : At q B (psP C1 q 0 (pN B + 1)) := (at0.tr (b1.le (by omega))).tr (At.putP (Nat.le_refl _))
  have fr1 : ∀ x, x < q → J1 x = I x := fun x hx => (b5 x (by omega)).trans (fr0 x hx)
  have s1 := b3.put (j := 0) (v := pN B + 1) (show q < q + 1 by omega)
  have p1 : pP (psP C1 q 0 (pN B + 1)) q 0 = (q + 1) + 1 := by rw [psP_at, if_pos ⟨rfl, rfl⟩, hN]
  have c1 := b4
  clear b3 b4 b1 b5   at0 fr0
  clear b2
  generalize psP C1 q 0 (pN B + 1) = D1 at *
  refine ⟨by decide, by decide, by show pN D1 < pBIG; omega, fun Na ea => ⟨(1, 401), by decide, by decide, ?_⟩⟩
  subst ea
  refine c_newRow (B := D1) (I := J1) (by omega) 401 (by omega) (by decide) (fun C2 J2 b1 b2 b3 b4 b5 => ⟨(b1 q (by omega)).1.trans kq1, fun Nb eb => ?_⟩)
  have eb2 : Nb = pset (psP C2 q 1 (pN D1 + 1)) J2 := eb
  clear eb
  subst eb2
  rw [n1] at b3 b4
  have kq2 : pK (psP C2 q 1 (pN D1 + 1)) q = (1, 7) := (b1 q (by omega)).1.trans kq1
  have n2 : pN (psP C2 q 1 (pN D1 + 1)) = q + 54 := by show pN C2 = _; omega
  have at2 : At q B (psP C2 q 1 (pN D1 + 1)) := (at1.tr (b1.le (by omega))).tr (At.putP (Nat.le_refl _))
  have fr2 : ∀ x, x < q → J2 x = I x := fun x hx => (b5 x (by omega)).trans (fr1 x hx)
  have s2 := b3.put (j := 1) (v := pN D1 + 1) (show q ≠ q + 52 by omega)
  have p2 : pP (psP C2 q 1 (pN D1 + 1)) q 1 = (q + 52) + 1 := by rw [psP_at, if_pos ⟨rfl, rfl⟩, n1]
  have t1 := (s1.at b1 (by omega)).put (j := 1) (v := pN D1 + 1) (show q < q + 1 by omega)
  have u1 : pP (psP C2 q 1 (pN D1 + 1)) q 0 = (q + 1) + 1 := by rw [psP_at, if_neg (fun z => absurd z.2 (by decide)), (b1 q (by omega)).2.1]; exact p1
  have v1 := c1.lo b5 (by omega)
  clear s1 p1 c1
  have s1 := t1
  have p1 := u1
  have c1 := v1
  clear t1 u1 v1
  have c2 := b4
  clear b3 b4 b1 b5 kq1 n1 at1 fr1
  clear b2
  generalize psP C2 q 1 (pN D1 + 1) = D2 at *
  refine ⟨kq2, fun Nc ec => ⟨rfl, ?_⟩⟩
  subst ec
  have f : Fr q (q + 1) J2 (u2 J2 q 2 (-1)) := Fr.u (by omega) (by omega)
  exact h D2 (u2 J2 q 2 (-1)) at2 n2 kq2 ⟨p1, p2⟩ s1 s2 (Nm.f (q := q + 1 + 1) c1 f (by omega)) (fun x hx => by rw [f x (by omega)]; exact fr2 x hx)
