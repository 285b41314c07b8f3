/-! WHAT THE PAD OF THE LAW TELLS -/
def wsL (sc : Nat → Int32) (n : Nat) : List (List Int32) := [namL sc n 0, namL sc n 1, namL sc n 2, namL sc n 3, namL sc n 4, namL sc n 5]
def boF : bB := ([0], [0], [5], [10], kiL, vaF, [[97]])
def BKs (sc : Nat → Int32) (n : Nat) (wt : List Int32) : bK := ([[116], [117]], wsL sc n, wt, [0, 1, -1, 0, 1, -1], (kk2.1, kk2.2, 2), boF)
def wOK (m : Nat) (wt : List Int32) : Prop := wt.length = 6 ∧ ∀ k, k < 6 → ∃ u, u ≤ 89 + 5 * m ∧ wt[k]? = some (nI u)
theorem wsL_at {sc : Nat → Int32} {n k : Nat} (h : k < 6) : (wsL sc n)[k]? = some (namL sc n k) := by
  match k, h with
  | 0, _ => rfl
  | 1, _ => rfl
  | 2, _ => rfl
  | 3, _ => rfl
  | 4, _ => rfl
  | 5, _ => rfl
theorem wsL_lat {sc : Nat → Int32} {n k : Nat} (h : k < 6) : lat (wsL sc n) (nI k) = namL sc n k := lat_in (wsL_at h) (by omega)
theorem wsL_10 {sc : Nat → Int32} {n : Nat} : ∀ l ∈ wsL sc n, l.length ≤ 10 := by
  intro l hl
  obtain ⟨k, hk⟩ := List.getElem?_of_mem hl
  have h6 : k < 6 := (List.getElem?_eq_some_iff.mp hk).1
  rw [wsL_at h6] at hk
  cases Option.some.inj hk
  have := (nam_len (sc := sc) (n := n) (w := k)).2
  omega
theorem wOK_at {m k : Nat} {wt : List Int32} (h : wOK m wt) (hk : k < 6) : ∃ u, u ≤ 89 + 5 * m ∧ rat wt (nI k) = nI u := by
  obtain ⟨u, h1, h2⟩ := h.2 k hk
  exact ⟨u, h1, rat_in h2 (by rw [h.1]; decide)⟩
theorem i32_a {a b : Int32} {x y : Int} (ha : a.toInt = x) (hb : b.toInt = y) (h1 : -2000000000 ≤ x + y) (h2 : x + y ≤ 2000000000) : (a + b).toInt = x + y := by
  rw [Int32.toInt_add, ha, hb]
  exact Int.bmod_eq_of_le (by simp at *; omega) (by simp at *; omega)
theorem i32_s {a b : Int32} {x y : Int} (ha : a.toInt = x) (hb : b.toInt = y) (h1 : -2000000000 ≤ x - y) (h2 : x - y ≤ 2000000000) : (a - b).toInt = x - y := by
  rw [Int32.toInt_sub, ha, hb]
  exact Int.bmod_eq_of_le (by simp at *; omega) (by simp at *; omega)
theorem map_a {α : Type} {f : Nat → α} {n k : Nat} (h : k < n) : ((List.range n).map f)[k]? = some (f k) := by
  rw [List.getElem?_map, List.getElem?_range h]
  rfl
theorem far_in {sc : Nat → Int32} {n k : Nat} {wt ty : List Int32} (hk : k < 6) (ht : ty.length ≤ 20) : ∃ f, f ≤ 3 * ty.length ∧ faO (BKs sc n wt) ty k = nI f ∧ (f = 0 ↔ ty <+: namL sc n k) := by
  have e : faO (BKs sc n wt) ty k = distI kk2.1 kk2.2 ty (namL sc n k) := by
    show distI kk2.1 kk2.2 ty ((wsL sc n).getD k []) = _
    rw [List.getD_eq_getElem?_getD, wsL_at hk]
    rfl
  rw [e]
  exact dist_in ht (by have := (nam_len (sc := sc) (n := n) (w := k)).2; omega)
theorem run_sum {E : rE} : runV E kiL vaF 0 5 = 5 * nI E.2.2.1.length - E.2.2.2.2.2.2 := by rfl
theorem boost_in {sc : Nat → Int32} {n : Nat} {wt ty : List Int32} {tk la li far tag : Int32} : boostI (envB (BKs sc n wt) ty tk la li far) boF tag 1 = 0 ∨ boostI (envB (BKs sc n wt) ty tk la li far) boF tag 1 = 5 * nI ty.length - far := by
  show (if rat boF.1 (nI 0) = tag then 0 + (if runV (envB (BKs sc n wt) ty tk la li far) kiL vaF 5 10 = 0 then 0 else runV (envB (BKs sc n wt) ty tk la li far) kiL vaF 0 5) else 0) = 0 ∨ (if rat boF.1 (nI 0) = tag then 0 + (if runV (envB (BKs sc n wt) ty tk la li far) kiL vaF 5 10 = 0 then 0 else runV (envB (BKs sc n wt) ty tk la li far) kiL vaF 0 5) else 0) = 5 * nI ty.length - far
  by_cases c : rat boF.1 (nI 0) = tag
  · rw [if_pos c, Int32.zero_add]
    by_cases c2 : runV (envB (BKs sc n wt) ty tk la li far) kiL vaF 5 10 = 0
    · rw [if_pos c2]; exact Or.inl rfl
    · rw [if_neg c2, run_sum]; exact Or.inr rfl
  · rw [if_neg c]; exact Or.inl rfl
/-- a score is the weight and not much else -/
theorem score_in {sc : Nat → Int32} {n k : Nat} {wt ty : List Int32} {tk la li : Int32} (hk : k < 6) (ht : ty.length ≤ 20) : ∃ base : Int32, scO (BKs sc n wt) ty tk la li k = rat wt (nI k) + base ∧ -700 ≤ base.toInt ∧ base.toInt ≤ 200 := by
  obtain ⟨f, f1, f2, -⟩ := far_in (sc := sc) (n := n) (wt := wt) hk ht
  have e10 : (10 : Int32) * nI f = nI (10 * f) := (Int32.ofNat_mul 10 f).symm
  have e5 : (5 : Int32) * nI ty.length = nI (5 * ty.length) := (Int32.ofNat_mul 5 _).symm
  have hB : ∃ z : Int, (boostI (envB (BKs sc n wt) ty tk la li (nI f)) boF (rat [0, 1, -1, 0, 1, -1] (nI k)) 1).toInt = z ∧ -60 ≤ z ∧ z ≤ 100 := by
    rcases boost_in (sc := sc) (n := n) (wt := wt) (ty := ty) (tk := tk) (la := la) (li := li) (far := nI f) (tag := rat [0, 1, -1, 0, 1, -1] (nI k)) with e | e
    · exact ⟨0, by rw [e]; rfl, by omega, by omega⟩
    · rw [e, e5]
      exact ⟨_, i32_s (nI_toInt (by omega)) (nI_toInt (by omega)) (by omega) (by omega), by omega, by omega⟩
  obtain ⟨z, z1, z2, z3⟩ := hB
  have hs := i32_s z1 (nI_toInt (n := 10 * f) (by omega)) (by omega) (by omega)
  refine ⟨boostI (envB (BKs sc n wt) ty tk la li (nI f)) boF (rat [0, 1, -1, 0, 1, -1] (nI k)) 1 - nI (10 * f), ?_, by rw [hs]; omega, by rw [hs]; omega⟩
  show rat wt (nI k) + boostI (envB (BKs sc n wt) ty tk la li (faO (BKs sc n wt) ty k)) boF (rat [0, 1, -1, 0, 1, -1] (nI k)) 1 - 10 * faO (BKs sc n wt) ty k = _
  rw [f2, e10, Int32.sub_eq_add_neg, Int32.sub_eq_add_neg, Int32.add_assoc]
/-- a row in any order that is total -/
theorem srt_ins {R : Nat → Nat → Prop} (tot : ∀ x y, x ≠ y → R x y ∨ R y x) (tr : ∀ x y z, R x y → R y z → R x z) (x : Nat) : ∀ O : List Nat, O.Pairwise R → x ∉ O → ∃ P : List Nat, P.Perm (x :: O) ∧ P.Pairwise R := by
  intro O
  induction O with
  | nil => intro _ _; exact ⟨[x], List.Perm.refl _, by simp⟩
  | cons y t ih =>
    intro hp hx
    obtain ⟨h1, h2⟩ := List.pairwise_cons.mp hp
    have hxy : x ≠ y := fun z => hx (by rw [z]; exact List.mem_cons_self)
    rcases tot x y hxy with c | c
    · refine ⟨x :: y :: t, List.Perm.refl _, List.pairwise_cons.mpr ⟨fun z hz => ?_, hp⟩⟩
      rcases List.mem_cons.mp hz with hz | hz
      · rw [hz]; exact c
      · exact tr _ _ _ c (h1 z hz)
    · obtain ⟨P, p1, p2⟩ := ih h2 (fun z => hx (List.mem_cons_of_mem _ z))
      refine ⟨y :: P, ?_, List.pairwise_cons.mpr ⟨fun z hz => ?_, p2⟩⟩
      · exact (List.Perm.cons y p1).trans (List.Perm.swap x y t)
      · have := p1.mem_iff.mp hz
        rcases List.mem_cons.mp this with hz | hz
        · rw [hz]; exact c
        · exact h1 z hz
theorem srt {R : Nat → Nat → Prop} (tot : ∀ x y, x ≠ y → R x y ∨ R y x) (tr : ∀ x y z, R x y → R y z → R x z) : ∀ N : List Nat, N.Nodup → ∃ O : List Nat, O.Perm N ∧ O.Pairwise R := by
  intro N
  induction N with
  | nil => intro _; exact ⟨[], List.Perm.refl _, List.Pairwise.nil⟩
  | cons x r ih =>
    intro h
    obtain ⟨h1, h2⟩ := List.nodup_cons.mp h
    obtain ⟨O, o1, o2⟩ := ih h2
    obtain ⟨P, p1, p2⟩ := srt_ins tot tr x O o2 (fun z => h1 (o1.mem_iff.mp z))
    exact ⟨P, p1.trans (List.Perm.cons x o1), p2⟩
def cntN (g : Nat → Bool) : Nat → Nat
  | 0 => 0
  | k + 1 => cntN g k + (if g k = true then 1 else 0)
theorem cntN_le {g : Nat → Bool} : ∀ k, cntN g k ≤ k := by
  intro k
  induction k with
  | zero => exact Nat.le_refl _
  | succ k ih => show cntN g k + (if g k = true then 1 else 0) ≤ k + 1; split <;> omega
