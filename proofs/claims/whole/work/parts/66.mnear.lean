/-! THE REFERENCE: neighbours -/
def keyV (ky : Nat → Int32) (c : Int32) : Int32 := if isInI c 0 127 = 0 then -1 else ky c.toNatClampNeg
theorem kq_cases {ky : Nat → Int32} {ro po : List Int32} (h : kqD ky ro po) (c : Int32) : (keyV ky c = -1 ∧ rat ro c = -1) ∨ ∃ r p, r < 4 ∧ p < 10 ∧ rat ro c = nI r ∧ rat po c = nI p ∧ keyV ky c = nI (16 * r + p) := by
  obtain ⟨h1, h2, h3⟩ := h
  unfold keyV
  by_cases c1 : c < 0
  · rw [isInI_f (Or.inl c1), if_pos rfl]
    exact Or.inl ⟨rfl, if_pos c1⟩
  by_cases c2 : (127 : Int32) < c
  · rw [isInI_f (Or.inr c2), if_pos rfl]
    obtain ⟨k, hk, rfl⟩ := nI_of c1
    have : ¬ k ≤ 127 := fun z => (Int32.not_lt.mpr (nI_le (b := 127) z (by omega))) c2
    exact Or.inl ⟨rfl, rat_out (by omega) hk⟩
  rw [isInI_t c1 c2, if_neg (by decide)]
  obtain ⟨k, hk, rfl⟩ := nI_of c1
  have hk2 : k ≤ 127 := (nI_leI (b := 127) hk (by omega)).mp (Int32.not_lt.mp c2)
  rw [nI_clamp hk]
  rcases h3 k (by omega) with ⟨e1, e2⟩ | ⟨r, p, e⟩
  · exact Or.inl ⟨e2, e1⟩
  · exact Or.inr ⟨r, p, e.1, e.2.1, e.2.2.1, e.2.2.2.1, e.2.2.2.2⟩
theorem c_mkeyOf {d : Nat} (hd : 2 ≤ d) {B : pM} {I : pIm} {r td dr : Nat} {c : Int32} {K : Int32 → pM → Prop} (hq : mdS B r td dr) (h : K (keyV (I (td + 5)) c) (pset B I)) : pCall_i d mX13_keyOf (0, 0) [.ref r, .int c] (pset B I) K := by
  refine CP_go (by omega) okX13_keyOf (Nat.le_of_ble_eq_true rfl) ?_
  have hb := hq.2.2.2.2.1
  unfold keyV at h
  refine bX13_keyOf_0 (c_misIn (by omega) ⟨fun g => ⟨_, rfl, ?_⟩, fun g => ⟨hq.1, td, hq.2.1.2.2.2.2.2.1, hb.1, td + 5, hb.2.1.2.2.2.2.1, 128, hb.2.2.2.2.2.2.1, ?_, _, rfl, ?_⟩⟩)
  · rw [if_pos g] at h; exact h
  · have c1 : ¬ c < 0 := fun z => g (isInI_f (Or.inl z))
    have c2 : ¬ (127 : Int32) < c := fun z => g (isInI_f (Or.inr z))
    obtain ⟨k, hk, rfl⟩ := nI_of c1
    exact vp_inN (show k < 128 by have := (nI_leI (b := 127) hk (by omega)).mp (Int32.not_lt.mp c2); omega) (by omega)
  · rw [if_neg g] at h; exact h
def nearV (a b : Int32) : Int32 := if a = -1 then 0 else if b = -1 then 0 else
  if (if a < b then b else a) / 16 = (if b < a then b else a) / 16 then (if (if a < b then b else a) - (if b < a then b else a) = 1 then 1 else 0)
  else if (if a < b then b else a) / 16 = (if b < a then b else a) / 16 + 1 then (if isInI (((if b < a then b else a) - (if b < a then b else a) / 16 * 16) - ((if a < b then b else a) - (if a < b then b else a) / 16 * 16)) 0 1 = 0 then 0 else 1) else 0
def nbrV (ra pa rb pb : Int32) : Int32 :=
    if ra = rb then (if pb - pa = 1 then 1 else if pb - pa = -1 then 1 else 0)
     else if ra = rb + 1 then (if pb - pa = 0 then 1 else if pb - pa = 1 then 1 else 0)
     else if rb = ra + 1 then (if pb - pa = 0 then 1 else if pb - pa = -1 then 1 else 0) else 0
theorem near_all : ∀ r, r < 4 → ∀ p, p < 10 → ∀ r2, r2 < 4 → ∀ p2, p2 < 10 → nearV (nI (16 * r + p)) (nI (16 * r2 + p2)) = nbrV (nI r) (nI p) (nI r2) (nI p2) := by decide +kernel
theorem near_eq {ky : Nat → Int32} {ro po : List Int32} (h : kqD ky ro po) (a b : Int32) : nearV (keyV ky a) (keyV ky b) = nbr ro po a b := by
  unfold nbr
  rcases kq_cases h a with ⟨e1, e2⟩ | ⟨r, p, hr, hp, e1, e2, e3⟩
  · rw [e1, e2, if_pos (by decide)]
    rfl
  · rw [e1, if_neg (nI_pos (by omega))]
    rcases kq_cases h b with ⟨f1, f2⟩ | ⟨r2, p2, hr2, hp2, f1, f2, f3⟩
    · rw [f1, f2, if_neg (by decide)]
      unfold nearV
      split
      · rfl
      · rfl
    · rw [f1, if_pos (nI_pos' (by omega)), e2, f2, e3, f3]
      exact near_all r hr p hp r2 hr2 p2 hp2
theorem c_misNear {d : Nat} (hd : 3 ≤ d) {B : pM} {I : pIm} {r td dr : Nat} {ro po : List Int32} {a b : Int32} {K : Int32 → pM → Prop} (hq : mdS B r td dr) (hl : kqD (I (td + 5)) ro po) (h : K (nbr ro po a b) (pset B I)) : pCall_i d mX13_isNear (0, 0) [.ref r, .int a, .int b] (pset B I) K := by
  refine CP_go (by omega) okX13_isNear (Nat.le_of_ble_eq_true rfl) ?_
  rw [← near_eq hl] at h
  unfold nearV at h
  refine bX13_isNear_0 ⟨hq.1, c_mkeyOf (by omega) hq ⟨hq.1, c_mkeyOf (by omega) hq ⟨fun g => ⟨_, rfl, ?_⟩, fun g => ⟨fun g2 => ⟨_, rfl, ?_⟩, fun g2 => ⟨fun g3 => ⟨fun g4 => ⟨_, rfl, ?_⟩, fun g4 => ⟨_, rfl, ?_⟩⟩, fun g3 => ⟨fun g4 => c_misIn (by omega) ⟨fun g5 => ⟨_, rfl, ?_⟩, fun g5 => ⟨_, rfl, ?_⟩⟩, fun g4 => ⟨_, rfl, ?_⟩⟩⟩⟩⟩⟩⟩
  · rw [if_pos g] at h; exact h
  · rw [if_neg g, if_pos g2] at h; exact h
  · rw [if_neg g, if_neg g2, if_pos g3, if_pos g4] at h; exact h
  · rw [if_neg g, if_neg g2, if_pos g3, if_neg g4] at h; exact h
  · rw [if_neg g, if_neg g2, if_neg g3, if_pos g4, if_pos g5] at h; exact h
  · rw [if_neg g, if_neg g2, if_neg g3, if_pos g4, if_neg g5] at h; exact h
  · rw [if_neg g, if_neg g2, if_neg g3, if_neg g4] at h; exact h
theorem m_near {d : Nat} (hd : 4 ≤ d) {B : pM} {I : pIm} {r td dr : Nat} {cd : String → Int32} {s : wS} {a b : Int32} {K : Int32 → pM → Prop} (hq : mdS B r td dr) (hl : modD I r td s) (h : modO B I r cd (rI (nbr s.2.2.1.2.2.2.2.1.1 s.2.2.1.2.2.2.2.1.2.1 a b), s) K) : pCall_i d mX13_near (0, 0) [.ref r, .int a, .int b] (pset B I) K := by
  refine CP_go (by omega) okX13_near (Nat.le_of_ble_eq_true rfl) ?_
  obtain ⟨g1, g2, g3⟩ := hl.th hq (n := 0)
  exact bX13_near_0 ⟨hq.1, hq.1, c_misNear (B := B) (by omega) hq g1.2.2.1.2.2.2.2.2.2.1 ⟨nbr_01, _, rfl, mod_stay (B := B) hq g1 g2 u2_same h⟩⟩
