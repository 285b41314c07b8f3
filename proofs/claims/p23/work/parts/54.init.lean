/-! CONSTRUCTORS -/
/-- the cells below q stand as they stood -/
def At (q : Nat) (B C : pM) : Prop := ∀ a, a < q → pK C a = pK B a ∧ pP C a = pP B a ∧ pL C a = pL B a
theorem At.rf {q : Nat} {B : pM} : At q B B := fun _ _ => ⟨rfl, rfl, rfl⟩
theorem At.tr {q : Nat} {B C D : pM} (h : At q B C) (g : At q C D) : At q B D := fun a ha => ⟨(g a ha).1.trans (h a ha).1, (g a ha).2.1.trans (h a ha).2.1, (g a ha).2.2.trans (h a ha).2.2⟩
theorem At.le {q q' : Nat} {B C : pM} (h : At q B C) (hq : q' ≤ q) : At q' B C := fun a ha => h a (by omega)
theorem At.new {B : pM} {k : Nat × Nat} : At (pN B) B (pnew B k) := Ex.new.2
theorem At.putP {q a j v : Nat} {B : pM} (h : q ≤ a) : At q B (psP B a j v) := fun x hx => ⟨rfl, by
  funext y
  rw [psP_at, if_neg (fun z => by omega)], rfl⟩
theorem mx0 {n : Nat} (h : n < 2 ^ 31) : (if (0 : Int32) < nI n then nI n else 0) = nI n := by
  by_cases e : n = 0
  · subst e; rfl
  · exact if_pos (nI_lt (a := 0) (by omega) h)
theorem c_rowInit {d : Nat} (hd : 1 ≤ d) {B : pM} {I : pIm} {q : Nat} (n : Nat) {K : pM → Prop} (hk : pK B q = (1, 9)) (hN : pN B = q + 1) (hB : q + 1 < pBIG) (hn : n < 1000000)
    (h : ∀ C J, At q B C → pN C = q + 2 → rowS C q n → Rw J q [] → (∀ x, x < q → J x = I x) → K (pset C J)) : pCall_v d mX9_init (1, n) [.ref q, .int (nI n)] (pset B I) K := by
  refine CP_go hd okX9_init (Nat.le_of_ble_eq_true rfl) ?_
  have e0 := mx0 (n := n) (by omega)
  refine bX9_init_0 ⟨hk, fun N1 e1 => ?_⟩
  rw [e0, nI_clamp (by omega)]
  have kq : pK (pnew B (2, n)) q = (1, 9) := (if_neg (show q ≠ pN B by omega)).trans hk
  refine ⟨nI_pos (by omega), by omega, Nat.le_refl _, Nat.le_refl _, by rw [e1, psI_set]; show pN B < pBIG; omega, fun N2 e2 => ⟨by rw [e2, e1, psI_set]; exact kq, fun N3 e3 => ⟨rfl, ?_⟩⟩⟩
  rw [e3, e2, e1, psI_set, pnew_pset, psP_pset]
  refine h _ _ ((At.new.le (by omega)).tr (At.putP (Nat.le_refl _))) (by show pN B + 1 = q + 2; omega) ⟨kq, ?_, ?_, hn⟩ ⟨?_, fun j x hx => nomatch hx⟩ (fun x hx => ?_)
  · rw [psP_at, if_pos ⟨rfl, rfl⟩]
    show pN B + 1 = q + 1 + 1
    omega
  · show (if q + 1 = pN B then (2, n) else pK B (q + 1)) = (2, n)
    rw [if_pos hN.symm]
  · show (if q = pN B then 0 else u2 I q 1 0 q 1) = nI 0
    rw [if_neg (by omega), u2_same]; rfl
  · funext y
    show (if x = pN B then 0 else u2 I q 1 0 x y) = I x y
    rw [if_neg (by omega), u2_a (by omega)]
/-- new Row(n) behind what stands -/
theorem c_newRow {d : Nat} (hd : 1 ≤ d) {B : pM} {I : pIm} (n : Nat) {K : pM → Prop} (hB : pN B + 1 < pBIG) (hn : n < 1000000)
    (h : ∀ C J, At (pN B) B C → pN C = pN B + 2 → rowS C (pN B) n → Rw J (pN B) [] → (∀ x, x < pN B → J x = I x) → K (pset C J)) : pCall_v d mX9_init (1, n) [.ref (pN B), .int (nI n)] (pnew (pset B I) (1, 9)) K := by
  rw [pnew_pset]
  have kq : pK (pnew B (1, 9)) (pN B) = (1, 9) := if_pos rfl
  refine c_rowInit hd n kq rfl hB hn (fun C J a1 a2 a3 a4 a5 => h C J (At.new.tr a1) a2 a3 a4 (fun x hx => ?_))
  rw [a5 x hx]
  funext y
  show (if x = pN B then 0 else I x y) = I x y
  rw [if_neg (by omega)]
theorem rowS.at {B C : pM} {q n m : Nat} (h : rowS B q n) (e : At m B C) (hq : q + 2 ≤ m) : rowS C q n := by
  obtain ⟨h1, h2, h3, h4⟩ := h
  obtain ⟨a1, a2, -⟩ := e q (by omega)
  obtain ⟨b1, -, -⟩ := e (q + 1) (by omega)
  exact ⟨by rw [a1]; exact h1, by rw [a2]; exact h2, by rw [b1]; exact h3, h4⟩
theorem rowS.put {B : pM} {q n a j v : Nat} (h : rowS B q n) (hq : a ≠ q) : rowS (psP B a j v) q n := ⟨h.1, by rw [psP_at, if_neg (fun z => hq z.1.symm)]; exact h.2.1, h.2.2.1, h.2.2.2⟩
theorem c_reckInit {d : Nat} (hd : 2 ≤ d) {B : pM} {I : pIm} {q : Nat} {K : pM → Prop} (hk : pK B q = (1, 8)) (hN : pN B = q + 1) (hB : q + 3 < pBIG)
    (h : ∀ C J, At q B C → pN C = q + 3 → reckS C q → (∀ x, x < q → J x = I x) → K (pset C J)) : pCall_v d mX8_init (2, 402) [.ref q] (pset B I) K := by
  refine CP_go (by omega) okX8_init (Nat.le_of_ble_eq_true rfl) ?_
  refine bX8_init_0 ⟨by decide, by decide, by show pN B < pBIG; omega, fun N1 e1 => ⟨(1, 400), by decide, by decide, ?_⟩⟩
  rw [e1]
  refine c_newRow (B := B) (I := I) (by omega) 400 (by omega) (by decide) (fun C J a1 a2 a3 a4 a5 => ⟨(a1 q (by omega)).1.trans hk, fun N2 e2 => ⟨rfl, ?_⟩⟩)
  rw [e2, psP_pset]
  refine h _ _ ((a1.le (by omega)).tr (At.putP (Nat.le_refl _))) (by show pN C = q + 3; omega) ⟨(a1 q (by omega)).1.trans hk, ?_, ?_⟩ (fun x hx => a5 x (by omega))
  · rw [psP_at, if_pos ⟨rfl, rfl⟩]
    show pN B + 1 = q + 1 + 1
    omega
  · rw [hN] at a3
    exact a3.put (by omega)
theorem c_handInit {d : Nat} (hd : 2 ≤ d) {B : pM} {I : pIm} {q : Nat} {K : pM → Prop} (hk : pK B q = (1, 3)) (hN : pN B = q + 1) (hB : q + 3 < pBIG)
    (h : ∀ C J, At q B C → pN C = q + 3 → handS C q → Hd J q [] 0 (-1) 4 → (∀ x, x < q → J x = I x) → K (pset C J)) : pCall_v d mX3_init (2, 22) [.ref q] (pset B I) K := by
  refine CP_go (by omega) okX3_init (Nat.le_of_ble_eq_true rfl) ?_
  refine bX3_init_0 ⟨by decide, by decide, by show pN B < pBIG; omega, fun N1 e1 => ⟨(1, 20), by decide, by decide, ?_⟩⟩
  rw [e1]
  refine c_newRow (B := B) (I := I) (by omega) 20 (by omega) (by decide) (fun C J a1 a2 a3 a4 a5 => ?_)
  have kq : pK C q = (1, 3) := (a1 q (by omega)).1.trans hk
  refine ⟨kq, fun N2 e2 => ⟨by rw [e2]; exact kq, fun N3 e3 => ⟨by rw [e3, e2]; exact kq, fun N4 e4 => ⟨by rw [e4, e3, e2]; exact kq, fun N5 e5 => ⟨rfl, ?_⟩⟩⟩⟩⟩
  rw [e5, e4, e3, e2, psP_pset, psI_set, psI_set, psI_set]
  have f : Fr q (q + 1) J (u2 (u2 (u2 J q 1 0) q 2 (-1)) q 3 4) := Fr.tr (Fr.tr (Fr.u (by omega) (by omega)) (Fr.u (by omega) (by omega))) (Fr.u (by omega) (by omega))
  rw [hN] at a3 a4
  refine h _ _ ((a1.le (by omega)).tr (At.putP (Nat.le_refl _))) (by show pN C = q + 3; omega) ⟨kq, ?_, a3.put (by omega)⟩ ⟨a4.f f (by omega), by simp, ?_, ?_, u2_same⟩ (fun x hx => by rw [f x (by omega)]; exact a5 x (by omega))
  · rw [psP_at, if_pos ⟨rfl, rfl⟩]
    show pN B + 1 = q + 1 + 1
    omega
  · rw [u2_j (by decide), u2_j (by decide), u2_same]
  · rw [u2_j (by decide), u2_same]
