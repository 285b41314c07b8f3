/-! HOW FAR A WORD IS: as whole numbers -/
def dRow (ro po : List Int32) (le : Int32) (w : List Int32) (f : Nat → Nat) : Nat → Nat
  | 0 => f 0 + 3
  | j + 1 => tomN ro po le (rat w (nI j)) (f j) (dRow ro po le w f j) (f (j + 1))
def dN (ro po ty w : List Int32) : Nat → Nat → Nat
  | 0 => fun j => 3 * j
  | i + 1 => dRow ro po (rat ty (nI i)) w (dN ro po ty w i)
theorem tomN_le {ro po : List Int32} {le key : Int32} {s a b : Nat} : tomN ro po le key s a b ≤ b + 3 := by
  unfold tomN
  split
  · omega
  · split <;> omega
theorem dRow_le {ro po : List Int32} {le : Int32} {w : List Int32} {f : Nat → Nat} (j : Nat) : dRow ro po le w f j ≤ f j + 3 := by
  cases j with
  | zero => exact Nat.le_refl _
  | succ j => exact tomN_le
theorem set_at {l : List Int32} {a k : Nat} {v : Int32} (h : a < l.length) : (l.set a v)[k]? = if k = a then some v else l[k]? := by
  rw [List.getElem?_set]
  by_cases c : a = k
  · rw [if_pos c, if_pos c.symm, if_pos h]
  · rw [if_neg c, if_neg (fun z => c z.symm)]
theorem tomL_dN {ro po : List Int32} {le : Int32} {w cs : List Int32} {f : Nat → Nat} {c : Nat} (hc : c ≤ 500) (hlen : cs.length = w.length + 1) (h10 : w.length ≤ 10) (hcs : ∀ k, k ≤ w.length → cs[k]? = some (nI (f k))) (hb : ∀ k, k ≤ w.length → f k ≤ c) : ∀ j, j ≤ w.length → (∀ k, k ≤ w.length → (tomL ro po le w cs j).1[k]? = some (nI (if k ≤ j then dRow ro po le w f k else f k))) ∧ (tomL ro po le w cs j).2 = nI (f j) := by
  intro j
  induction j with
  | zero =>
    intro _
    have e0 : rat cs 0 = nI (f 0) := rat_in (j := 0) (hcs 0 (Nat.zero_le _)) (by omega)
    refine ⟨fun k hk => ?_, e0⟩
    show (rput cs 0 (rat cs 0 + 3))[k]? = _
    have er : rput cs 0 (rat cs 0 + 3) = cs.set 0 (nI (f 0 + 3)) := by
      rw [e0, show nI (f 0) + 3 = nI (f 0 + 3) from nI_add _ 3]
      exact rput_nI (j := 0) (by decide)
    rw [er, set_at (by omega)]
    by_cases k0 : k = 0
    · subst k0
      rw [if_pos rfl, if_pos (Nat.le_refl 0)]
      rfl
    · rw [if_neg k0, if_neg (by omega), hcs k hk]
  | succ j ih =>
    intro hj
    obtain ⟨i1, i2⟩ := ih (by omega)
    have hl : (tomL ro po le w cs j).1.length = w.length + 1 := tomL_len.trans hlen
    have ea : rat (tomL ro po le w cs j).1 (nI j) = nI (dRow ro po le w f j) := by
      have := i1 j (by omega)
      rw [if_pos (Nat.le_refl j)] at this
      exact rat_in this (by omega)
    have eb : rat (tomL ro po le w cs j).1 (nI (j + 1)) = nI (f (j + 1)) := by
      have := i1 (j + 1) hj
      rw [if_neg (by omega)] at this
      exact rat_in this (by omega)
    have b1 := hb j (by omega)
    have b2 := hb (j + 1) hj
    have b3 := dRow_le (ro := ro) (po := po) (le := le) (w := w) (f := f) j
    refine ⟨fun k hk => ?_, ?_⟩
    · show (rput (tomL ro po le w cs j).1 (nI (j + 1)) (tomC ro po le (rat w (nI j)) (tomL ro po le w cs j).2 (rat (tomL ro po le w cs j).1 (nI j)) (rat (tomL ro po le w cs j).1 (nI (j + 1)))))[k]? = _
      rw [ea, eb, i2, tomC_nI (by omega) (by omega) (by omega), rput_nI (by omega), set_at (by omega)]
      by_cases k0 : k = j + 1
      · subst k0
        rw [if_pos rfl, if_pos (Nat.le_refl _)]
        rfl
      · rw [if_neg k0, i1 k hk]
        by_cases k1 : k ≤ j
        · rw [if_pos k1, if_pos (by omega)]
        · rw [if_neg k1, if_neg (by omega)]
    · show rat (tomL ro po le w cs j).1 (nI (j + 1)) = _
      exact eb
theorem disR_dN {ro po ty w : List Int32} (h10 : w.length ≤ 10) : ∀ i, i ≤ 20 → ∀ k, k ≤ w.length → (disR ro po ty w i)[k]? = some (nI (dN ro po ty w i k)) ∧ dN ro po ty w i k ≤ 30 + 3 * i := by
  intro i
  induction i with
  | zero =>
    intro _ k hk
    refine ⟨?_, by show 3 * k ≤ 30 + 3 * 0; omega⟩
    show (cst0 w.length)[k]? = some (nI (3 * k))
    unfold cst0
    rw [List.getElem?_map, List.getElem?_range (by omega)]
    show some (nI k * 3) = _
    have : nI k * 3 = nI (3 * k) := by
      rw [Nat.mul_comm]
      exact (Int32.ofNat_mul k 3).symm
    rw [this]
  | succ i ih =>
    intro hi k hk
    have hb : ∀ k, k ≤ w.length → dN ro po ty w i k ≤ 30 + 3 * i := fun k hk => (ih (by omega) k hk).2
    obtain ⟨t1, -⟩ := tomL_dN (ro := ro) (po := po) (le := rat ty (nI i)) (w := w) (cs := disR ro po ty w i) (f := dN ro po ty w i) (c := 30 + 3 * i) (by omega) disR_len h10 (fun k hk => (ih (by omega) k hk).1) hb w.length (Nat.le_refl _)
    have := t1 k hk
    rw [if_pos hk] at this
    refine ⟨this, ?_⟩
    have := dRow_le (ro := ro) (po := po) (le := rat ty (nI i)) (w := w) (f := dN ro po ty w i) k
    have := hb k hk
    show dRow ro po (rat ty (nI i)) w (dN ro po ty w i) k ≤ _
    omega
def minN (f : Nat → Nat) : Nat → Nat
  | 0 => f 0
  | j + 1 => min (minN f j) (f (j + 1))
theorem minN_le {f : Nat → Nat} : ∀ {j k : Nat}, k ≤ j → minN f j ≤ f k := by
  intro j
  induction j with
  | zero =>
    intro k hk
    have h0 : k = 0 := by omega
    rw [h0]
    exact Nat.le_refl _
  | succ j ih =>
    intro k hk
    show min (minN f j) (f (j + 1)) ≤ f k
    by_cases c : k = j + 1
    · subst c; omega
    · have := ih (k := k) (by omega); omega
theorem minN_at {f : Nat → Nat} : ∀ j, ∃ k, k ≤ j ∧ minN f j = f k := by
  intro j
  induction j with
  | zero => exact ⟨0, Nat.le_refl _, rfl⟩
  | succ j ih =>
    obtain ⟨k, k1, k2⟩ := ih
    show ∃ k, k ≤ j + 1 ∧ min (minN f j) (f (j + 1)) = f k
    by_cases c : minN f j ≤ f (j + 1)
    · exact ⟨k, by omega, by rw [Nat.min_eq_left c, k2]⟩
    · exact ⟨j + 1, Nat.le_refl _, Nat.min_eq_right (by omega)⟩
theorem minL_N {cs : List Int32} {f : Nat → Nat} {n : Nat} (hn : n ≤ 10) (hl : cs.length < 100) (hcs : ∀ k, k ≤ n → cs[k]? = some (nI (f k)) ∧ f k ≤ 1000) : ∀ j, j ≤ n → minL cs j = nI (minN f j) ∧ minN f j ≤ 1000 := by
  intro j
  induction j with
  | zero =>
    intro _
    exact ⟨rat_in (j := 0) (hcs 0 (Nat.zero_le _)).1 (by omega), (hcs 0 (Nat.zero_le _)).2⟩
  | succ j ih =>
    intro hj
    obtain ⟨i1, i2⟩ := ih (by omega)
    obtain ⟨h1, h2⟩ := hcs (j + 1) hj
    have er : rat cs (nI (j + 1)) = nI (f (j + 1)) := rat_in h1 (by omega)
    have hm : minN f (j + 1) = min (minN f j) (f (j + 1)) := rfl
    refine ⟨?_, by rw [hm]; omega⟩
    show (if rat cs (nI (j + 1)) < minL cs j then rat cs (nI (j + 1)) else minL cs j) = _
    rw [er, i1, min_nI (by omega) (by omega), hm, Nat.min_comm]
theorem dN_0 {ro po ty w : List Int32} : ∀ i, dN ro po ty w i 0 = 3 * i := by
  intro i
  induction i with
  | zero => rfl
  | succ i ih =>
    show dN ro po ty w i 0 + 3 = _
    rw [ih]; omega
theorem dN_z {ro po ty w : List Int32} : ∀ i k, dN ro po ty w i k = 0 ↔ (k = i ∧ ∀ x, x < i → rat w (nI x) = rat ty (nI x)) := by
  intro i
  induction i with
  | zero =>
    intro k
    show 3 * k = 0 ↔ _
    refine ⟨fun h => ⟨by omega, fun x hx => absurd hx (by omega)⟩, fun h => by omega⟩
  | succ i ih =>
    intro k
    cases k with
    | zero =>
      rw [dN_0]
      exact ⟨fun h => by omega, fun h => by omega⟩
    | succ k =>
      show tomN ro po (rat ty (nI i)) (rat w (nI k)) (dN ro po ty w i k) _ _ = 0 ↔ _
      have ik := ih k
      unfold tomN
      by_cases c : rat w (nI k) = rat ty (nI i)
      · rw [if_pos c]
        refine ⟨fun h => ?_, fun h => ?_⟩
        · obtain ⟨h1, h2⟩ := ik.mp (by omega)
          subst h1
          refine ⟨rfl, fun x hx => ?_⟩
          by_cases e : x = k
          · subst e; exact c
          · exact h2 x (by omega)
        · have := ik.mpr ⟨by omega, fun x hx => h.2 x (by omega)⟩
          omega
      · rw [if_neg c]
        refine ⟨fun h => ?_, fun h => ?_⟩
        · exfalso
          split at h <;> omega
        · exfalso
          have hk : k = i := by omega
          subst hk
          exact c (h.2 k (by omega))
theorem pre_rat {ty w : List Int32} (h1 : ty.length ≤ 20) (h2 : w.length ≤ 20) : ty <+: w ↔ (ty.length ≤ w.length ∧ ∀ x, x < ty.length → rat w (nI x) = rat ty (nI x)) := by
  constructor
  · rintro ⟨r, rfl⟩
    refine ⟨by simp, fun x hx => ?_⟩
    rw [rat_nI (by omega), rat_nI (by omega), List.getD_eq_getElem?_getD, List.getElem?_append_left hx, ← List.getD_eq_getElem?_getD]
  · rintro ⟨g1, g2⟩
    refine ⟨w.drop ty.length, ?_⟩
    refine List.ext_getElem? (fun x => ?_)
    by_cases hx : x < ty.length
    · have := g2 x hx
      rw [rat_nI (by omega), rat_nI (by omega), List.getD_eq_getElem?_getD, List.getD_eq_getElem?_getD, List.getElem?_eq_getElem (show x < w.length by omega), List.getElem?_eq_getElem hx] at this
      rw [List.getElem?_append_left hx, List.getElem?_eq_getElem hx, List.getElem?_eq_getElem (show x < w.length by omega)]
      exact congrArg some this.symm
    · rw [List.getElem?_append_right (by omega), List.getElem?_drop]
      congr 1
      omega
/-- how far a word is: a whole number, at most three for each letter typed, 0 only where the word begins with all that is typed -/
theorem dist_in {ro po ty w : List Int32} (h20 : ty.length ≤ 20) (h10 : w.length ≤ 10) : ∃ f, f ≤ 3 * ty.length ∧ distI ro po ty w = nI f ∧ (f = 0 ↔ ty <+: w) := by
  have hd := disR_dN (ro := ro) (po := po) (ty := ty) h10 ty.length h20
  obtain ⟨m1, m2⟩ := minL_N (cs := disR ro po ty w ty.length) (f := dN ro po ty w ty.length) (n := w.length) h10 (by rw [disR_len]; omega) (fun k hk => ⟨(hd k hk).1, by have := (hd k hk).2; omega⟩) w.length (Nat.le_refl _)
  refine ⟨minN (dN ro po ty w ty.length) w.length, ?_, m1, ?_⟩
  · have := minN_le (f := dN ro po ty w ty.length) (Nat.zero_le w.length)
    rw [dN_0] at this
    exact this
  · rw [pre_rat h20 (by omega)]
    constructor
    · intro z
      obtain ⟨k, k1, k2⟩ := minN_at (f := dN ro po ty w ty.length) w.length
      rw [z] at k2
      obtain ⟨e1, e2⟩ := (dN_z _ k).mp k2.symm
      exact ⟨by omega, e2⟩
    · intro z
      have := minN_le (f := dN ro po ty w ty.length) z.1
      have e := (dN_z (ro := ro) (po := po) (ty := ty) (w := w) ty.length ty.length).mpr ⟨rfl, z.2⟩
      omega
