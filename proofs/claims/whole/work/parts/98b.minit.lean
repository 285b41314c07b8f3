/-! THE REFERENCE: its constructors -/
def csE (q N : Nat) (D D' : pM) : Prop := ∀ x, x < q + N → pK D' x = pK D x ∧ (x ≠ q → pP D' x = pP D x)
/-- an object at q is being made: N cells so far; of them l: where, which field, what it is -/
def csA (q : Nat) (k : Nat × Nat) (B D : pM) (I J : pIm) (N : Nat) (l : List (Nat × Nat × (Nat × Nat))) : Prop := At q B D ∧ pN D = q + N ∧ 1 ≤ N ∧ pK D q = k ∧ (∀ x, x < q → J x = I x) ∧ (∀ x f, q < x → x < q + N → J x f = 0) ∧ ∀ x ∈ l, 1 ≤ x.1 ∧ x.1 < N ∧ pK D (q + x.1) = x.2.2 ∧ pP D q x.2.1 = (q + x.1) + 1
theorem cs_new {q N : Nat} {D : pM} {n j : Nat} (ha : pN D = q + N) (h1 : 1 ≤ N) : (∀ x, x < q + N → pK (psP (pnew D (2, n)) q j (pN D + 1)) x = pK D x) ∧ pK (psP (pnew D (2, n)) q j (pN D + 1)) (q + N) = (2, n) ∧ pP (psP (pnew D (2, n)) q j (pN D + 1)) q j = (q + N) + 1 ∧ (∀ y, y ≠ j → pP (psP (pnew D (2, n)) q j (pN D + 1)) q y = pP D q y) ∧ (∀ x, x < q + N → x ≠ q → pP (psP (pnew D (2, n)) q j (pN D + 1)) x = pP D x) := by
  refine ⟨fun x hx => ?_, ?_, ?_, fun y hy => ?_, fun x hx hq => funext (fun y => ?_)⟩
  · show (if x = pN D then (2, n) else pK D x) = _
    rw [if_neg (by omega)]
  · show (if q + N = pN D then (2, n) else pK D _) = _
    rw [if_pos ha.symm]
  · rw [psP_at, if_pos ⟨rfl, rfl⟩, ha]
  · rw [psP_at, if_neg (fun z => hy z.2)]
    show (if q = pN D then 0 else pP D q y) = _
    rw [if_neg (by omega)]
  · rw [psP_at, if_neg (fun z => hq z.1)]
    show (if x = pN D then 0 else pP D x y) = _
    rw [if_neg (by omega)]
theorem cs_step {q N j n : Nat} {k : Nat × Nat} {B D : pM} {I J : pIm} {l : List (Nat × Nat × (Nat × Nat))} {P : pM → Prop} (hA : csA q k B D I J N l) (hB : q + N < pBIG) (hj : ∀ x ∈ l, x.2.1 ≠ j) (h : ∀ D' J', csA q k B D' I J' (N + 1) (l ++ [(N, j, (2, n))]) → csE q N D D' → J' q = J q → P (pset D' J')) : pN (pset D J) < pBIG ∧ ∀ N1 : pM, N1 = pnew (pset D J) (2, n) → (pK N1 q = k ∧ ∀ N2 : pM, N2 = psP N1 q j (pN (pset D J) + 1) → P N2) := by
  obtain ⟨a1, a2, a3, a4, a5, a6, a7⟩ := hA
  have hpn : pN (pset D J) = pN D := rfl
  obtain ⟨K, KN, Pq, Po, Px⟩ := cs_new (n := n) (j := j) a2 a3
  refine ⟨by rw [hpn, a2]; exact hB, fun N1 e1 => ⟨?_, fun N2 e2 => ?_⟩⟩
  · rw [e1]
    show (if q = pN D then (2, n) else pK D q) = k
    rw [if_neg (by rw [a2]; omega)]
    exact a4
  · have e : N2 = pset (psP (pnew D (2, n)) q j (pN D + 1)) (fun x y => if x = pN D then 0 else J x y) := by rw [e2, e1]; rfl
    rw [e]
    have At' : At q B (psP (pnew D (2, n)) q j (pN D + 1)) := (a1.tr (At.new.le (by rw [a2]; omega))).tr (At.putP (Nat.le_refl _))
    have n' : pN (psP (pnew D (2, n)) q j (pN D + 1)) = q + (N + 1) := by
      show pN D + 1 = _
      rw [a2]; rfl
    generalize psP (pnew D (2, n)) q j (pN D + 1) = D' at K KN Pq Po Px At' n'
    have ne : ∀ x, x < q + N → x ≠ pN D := fun x hx => by rw [a2]; omega
    refine h D' _ ⟨At', n', by omega, (K q (by omega)).trans a4, fun x hx => ?_, fun x f h1 h2 => ?_, fun x hx => ?_⟩ (fun x hx => ⟨K x hx, Px x hx⟩) ?_
    · rw [← a5 x hx]
      funext y
      show (if x = pN D then 0 else J x y) = _
      rw [if_neg (ne x (by omega))]
    · show (if x = pN D then 0 else J x f) = 0
      by_cases c : x = pN D
      · rw [if_pos c]
      · rw [if_neg c]
        exact a6 x f h1 (by rw [a2] at c; omega)
    · rcases List.mem_append.mp hx with y | y
      · obtain ⟨b1, b2, b3, b4⟩ := a7 x y
        exact ⟨b1, by omega, (K _ (by omega)).trans b3, (Po _ (hj x y)).trans b4⟩
      · rw [List.mem_singleton.mp y]
        exact ⟨a3, Nat.lt_succ_self _, KN, Pq⟩
    · funext y
      show (if q = pN D then 0 else J q y) = _
      rw [if_neg (ne q (by omega))]
/-- a new book of the reference -/
theorem c_mbookInit {d : Nat} (hd : 1 ≤ d) {B : pM} {I : pIm} {q : Nat} {K : pM → Prop} (hk : pK B q = (1, 12)) (hN : pN B = q + 1) (hB : q + 11 < pBIG)
    (h : ∀ C J, At q B C → pN C = q + 11 → mbS C q → (∀ x, x < q → J x = I x) → J q = I q → (∀ x f, q < x → x < q + 11 → J x f = 0) → K (pset C J)) : pCall_v d mX12_init (10, 3887) [.ref q] (pset B I) K := by
  refine CP_go hd okX12_init (Nat.le_of_ble_eq_true rfl) (bX12_init_0 ?_)
  have c36 : Int32.toNatClampNeg (36 : Int32) = 36 := by decide
  have c40 : Int32.toNatClampNeg (40 : Int32) = 40 := by decide
  have c128 : Int32.toNatClampNeg (128 : Int32) = 128 := by decide
  have c400 : Int32.toNatClampNeg (400 : Int32) = 400 := by decide
  have c401 : Int32.toNatClampNeg (401 : Int32) = 401 := by decide
  have c2000 : Int32.toNatClampNeg (2000 : Int32) = 2000 := by decide
  simp only [c36, c40, c128, c400, c401, c2000]
  have A0 : csA q (1, 12) B B I I 1 [] := ⟨At.rf, hN, Nat.le_refl _, hk, fun _ _ => rfl, fun x f h1 h2 => absurd h1 (by omega), fun x hx => absurd hx (by simp)⟩
  refine ⟨by decide, by decide, by decide, by decide, cs_step A0 (by omega) (by decide) (fun D1 J1 A1 _ j1 => ?_)⟩
  refine ⟨by decide, by decide, by decide, by decide, cs_step A1 (by omega) (by decide) (fun D2 J2 A2 _ j2 => ?_)⟩
  refine ⟨by decide, by decide, by decide, by decide, cs_step A2 (by omega) (by decide) (fun D3 J3 A3 _ j3 => ?_)⟩
  refine ⟨by decide, by decide, by decide, by decide, cs_step A3 (by omega) (by decide) (fun D4 J4 A4 _ j4 => ?_)⟩
  refine ⟨by decide, by decide, by decide, by decide, cs_step A4 (by omega) (by decide) (fun D5 J5 A5 _ j5 => ?_)⟩
  refine ⟨by decide, by decide, by decide, by decide, cs_step A5 (by omega) (by decide) (fun D6 J6 A6 _ j6 => ?_)⟩
  refine ⟨by decide, by decide, by decide, by decide, cs_step A6 (by omega) (by decide) (fun D7 J7 A7 _ j7 => ?_)⟩
  refine ⟨by decide, by decide, by decide, by decide, cs_step A7 (by omega) (by decide) (fun D8 J8 A8 _ j8 => ?_)⟩
  refine ⟨by decide, by decide, by decide, by decide, cs_step A8 (by omega) (by decide) (fun D9 J9 A9 _ j9 => ?_)⟩
  refine ⟨by decide, by decide, by decide, by decide, cs_step A9 (by omega) (by decide) (fun D10 J10 A10 _ j10 => ?_)⟩
  obtain ⟨a1, a2, a3, a4, a5, a6, a7⟩ := A10
  refine ⟨trivial, h D10 J10 a1 a2 ⟨a4, ⟨(a7 (1, 4, (2, 400)) (by decide)).2.2.2, (a7 (2, 5, (2, 40)) (by decide)).2.2.2, (a7 (3, 6, (2, 40)) (by decide)).2.2.2, (a7 (4, 7, (2, 40)) (by decide)).2.2.2, (a7 (5, 8, (2, 128)) (by decide)).2.2.2, (a7 (6, 9, (2, 36)) (by decide)).2.2.2, (a7 (7, 11, (2, 401)) (by decide)).2.2.2, (a7 (8, 12, (2, 401)) (by decide)).2.2.2, (a7 (9, 13, (2, 401)) (by decide)).2.2.2, (a7 (10, 15, (2, 2000)) (by decide)).2.2.2⟩, ⟨(a7 (1, 4, (2, 400)) (by decide)).2.2.1, (a7 (2, 5, (2, 40)) (by decide)).2.2.1, (a7 (3, 6, (2, 40)) (by decide)).2.2.1, (a7 (4, 7, (2, 40)) (by decide)).2.2.1, (a7 (5, 8, (2, 128)) (by decide)).2.2.1, (a7 (6, 9, (2, 36)) (by decide)).2.2.1, (a7 (7, 11, (2, 401)) (by decide)).2.2.1, (a7 (8, 12, (2, 401)) (by decide)).2.2.1, (a7 (9, 13, (2, 401)) (by decide)).2.2.1, (a7 (10, 15, (2, 2000)) (by decide)).2.2.1⟩⟩ a5 (((((((((j10.trans j9).trans j8).trans j7).trans j6).trans j5).trans j4).trans j3).trans j2).trans j1) a6⟩
