/-! READING: IT ENDS -/
theorem gP_pos {kf nm : Nat → Int32} {m0 : Nat} (hk : kfM kf m0) : ∀ (n c d a a' : Nat) (s : List (Int32 × Int32)), c ≤ 6 → gP kf nm n c d a = some (true, a', s) → a < a' := by
  intro n
  induction n with
  | zero => intro c d a a' s hc h; exact nomatch h
  | succ n ih =>
    intro c d a a' s hc h
    have tl : ∀ {c1 d1 a0 : Nat} {F : Nat → List (Int32 × Int32) → List (Int32 × Int32)}, (gB (gP kf nm n c1 d1 a0) fun a2 s2 => some (true, a2, F a2 s2)) = some (true, a', s) → a0 ≤ a' := by
      intro c1 d1 a0 F h
      rcases gB_some h with ⟨a1, s1, e, hx⟩ | ⟨a1, s1, e, h⟩
      · cases hx
      · have := (gP_m hk _ _ _ _ _ e).1
        cases Option.some.inj h
        exact this
    have two : ∀ {c1 c2 d2 : Nat} {F : Nat → List (Int32 × Int32) → Nat → List (Int32 × Int32) → List (Int32 × Int32)}, c1 ≤ 6 → (gB (gP kf nm n c1 d a) fun a1 s1 => gB (gP kf nm n c2 d2 a1) fun a2 s2 => some (true, a2, F a1 s1 a2 s2)) = some (true, a', s) → a < a' := by
      intro c1 c2 d2 F hc1 h
      rcases gB_some h with ⟨a1, s1, e, hx⟩ | ⟨a1, s1, e, h⟩
      · cases hx
      · exact Nat.lt_of_lt_of_le (ih _ _ _ _ _ hc1 e) (tl h)
    have ge : ∀ {c1 d1 a0 : Nat} {f : Nat → List (Int32 × Int32) → Option gR}, a < a0 → (∀ a1 s1, f a1 s1 = some (true, a', s) → a1 ≤ a') → gB (gP kf nm n c1 d1 a0) f = some (true, a', s) → a < a' := by
      intro c1 d1 a0 f h1 h2 h
      rcases gB_some h with ⟨a1, s1, e, hx⟩ | ⟨a1, s1, e, h⟩
      · cases hx
      · have := (gP_m hk _ _ _ _ _ e).1
        have := h2 _ _ h
        dsimp only at *
        omega
    match c, hc, h with
    | 0, _, h => exact two (by omega) h
    | 1, _, h => exact two (by omega) h
    | 4, _, h => exact two (by omega) h
    | 5, _, h => exact two (by omega) h
    | 3, _, h =>
      rw [gP] at h
      rcases gB_some h with ⟨a1, s1, e, hx⟩ | ⟨a1, s1, e, h⟩
      · cases hx
      · have := ih _ _ _ _ _ (by omega) e
        split at h
        · have := tl h; omega
        · cases Option.some.inj h
    | 2, _, h =>
      rw [gP] at h
      split at h
      · split at h
        · cases Option.some.inj h; omega
        · cases Option.some.inj h
      split at h
      · split at h
        · exact ge (Nat.lt_succ_self a) (fun a1 s1 h => by cases Option.some.inj h; exact Nat.le_refl _) h
        · cases Option.some.inj h
      split at h
      · split at h
        · refine ge (Nat.lt_succ_self a) (fun a1 s1 h => ?_) h
          split at h
          · cases Option.some.inj h; omega
          · cases Option.some.inj h
        · cases Option.some.inj h
      exact ih _ _ _ _ _ (by omega) h
    | 6, _, h =>
      rw [gP] at h
      split at h
      · split at h
        · cases Option.some.inj h; omega
        · cases Option.some.inj h
      split at h
      · cases Option.some.inj h; omega
      split at h
      · split at h
        · refine ge (show a < a + 2 by omega) (fun a1 s1 h => ?_) h
          split at h
          · have := tl (a0 := a1 + 1) (F := fun a2 s2 => s) (c1 := 4) (d1 := d + 1)
            rcases gB_some h with ⟨a2, s2, e, hx⟩ | ⟨a2, s2, e, h⟩
            · cases hx
            · have := (gP_m hk _ _ _ _ _ e).1
              split at h
              · cases Option.some.inj h; dsimp only at *; omega
              · cases Option.some.inj h
          · cases Option.some.inj h
        · cases Option.some.inj h
      split at h
      · cases Option.some.inj h; omega
      split at h
      · split at h
        · refine ge (Nat.lt_succ_self a) (fun a1 s1 h => ?_) h
          split at h
          · cases Option.some.inj h; omega
          · cases Option.some.inj h
        · cases Option.some.inj h
      split at h
      · split at h
        · exact ge (Nat.lt_succ_self a) (fun a1 s1 h => by cases Option.some.inj h; exact Nat.le_refl _) h
        · cases Option.some.inj h
      cases Option.some.inj h
    | (c + 7), hc, _ => omega
theorem gP_end {kf nm : Nat → Int32} {m0 : Nat} (hk : kfM kf m0) (n c d a a' : Nat) (s : List (Int32 × Int32)) (hc : c ≤ 6) (ha : m0 ≤ a) (h : gP kf nm n c d a = some (true, a', s)) : False := by
  induction n generalizing c d a' s with
  | zero => exact nomatch h
  | succ n ih =>
    have no : ∀ {k : Int32}, k ≠ 24 → k ≠ 25 → k ≠ -1 → kf a ≠ k := fun h1 h2 h3 e => by have := hk.lt e h1 h2 h3; omega
    have fst : ∀ {c1 : Nat} {f : Nat → List (Int32 × Int32) → Option gR}, c1 ≤ 6 → gB (gP kf nm n c1 d a) f = some (true, a', s) → False := by
      intro c1 f h1 h
      rcases gB_some h with ⟨a1, s1, e, hx⟩ | ⟨a1, s1, e, h⟩
      · cases hx
      · exact ih _ _ _ _ h1 e
    match c, hc, h with
    | 0, _, h => exact fst (by omega) h
    | 1, _, h => exact fst (by omega) h
    | 3, _, h => exact fst (by omega) h
    | 4, _, h => exact fst (by omega) h
    | 5, _, h => exact fst (by omega) h
    | 2, _, h =>
      rw [gP, if_neg (fun z => z.elim (no (by decide) (by decide) (by decide)) (no (by decide) (by decide) (by decide))), if_neg (no (by decide) (by decide) (by decide)), if_neg (no (by decide) (by decide) (by decide))] at h
      exact ih _ _ _ _ (by omega) h
    | 6, _, h =>
      rw [gP, if_neg (no (by decide) (by decide) (by decide)), if_neg (fun z => z.elim (no (by decide) (by decide) (by decide)) (fun z => z.elim (no (by decide) (by decide) (by decide)) (fun z => z.elim (no (by decide) (by decide) (by decide)) (no (by decide) (by decide) (by decide))))), if_neg (fun z => z.elim (no (by decide) (by decide) (by decide)) (no (by decide) (by decide) (by decide))), if_neg (no (by decide) (by decide) (by decide)), if_neg (no (by decide) (by decide) (by decide)), if_neg (no (by decide) (by decide) (by decide))] at h
      cases Option.some.inj h
    | (c + 7), hc, _ => omega
theorem gB_tot {r : Option gR} {f : Nat → List (Int32 × Int32) → Option gR} (h : ∃ x, r = some x) (h2 : ∀ a s, r = some (true, a, s) → ∃ x, f a s = some x) : ∃ x, gB r f = some x := by
  obtain ⟨⟨ok, a, s⟩, rfl⟩ := h
  cases ok
  · exact ⟨_, rfl⟩
  · exact h2 a s rfl
theorem gP_tot {kf nm : Nat → Int32} {m0 : Nat} (hk : kfM kf m0) : ∀ (n c d a : Nat), c ≤ 10 → 12 * (m0 - a) + (12 - c) ≤ n → ∃ x, gP kf nm n c d a = some x := by
  intro n
  induction n with
  | zero => intro c d a hc h; omega
  | succ n ih =>
    intro c d a hc h
    have seq : ∀ {c1 c2 : Nat} {F : Nat → List (Int32 × Int32) → Nat → List (Int32 × Int32) → List (Int32 × Int32)}, c < c1 → c1 ≤ 6 → c2 ≤ 10 → ∃ x, (gB (gP kf nm n c1 d a) fun a1 s1 => gB (gP kf nm n c2 d a1) fun a2 s2 => some (true, a2, F a1 s1 a2 s2)) = some x := by
      intro c1 c2 F h1 h2 h3
      refine gB_tot (ih _ _ _ (by omega) (by omega)) (fun a1 s1 e => gB_tot (ih _ _ _ h3 ?_) (fun a2 s2 e2 => ⟨_, rfl⟩))
      have p := gP_pos hk _ _ _ _ _ _ h2 e
      have q := (gP_m hk _ _ _ _ _ e).2
      dsimp only at q
      by_cases z : a < m0
      · omega
      · exfalso
        have : 12 * (m0 - a) = 0 := by omega
        exact gP_end hk n c1 d a a1 s1 h2 (by omega) e
    have nx : ∀ {c1 c2 k : Nat} {F : Nat → List (Int32 × Int32) → Nat → List (Int32 × Int32) → List (Int32 × Int32)}, a < m0 → c1 ≤ 6 → c2 ≤ 10 → ∃ x, (gB (gP kf nm n c1 d (a + 1)) fun a1 s1 => gB (gP kf nm n c2 d a1) fun a2 s2 => some (true, a2, F a1 s1 a2 s2)) = some x := by
      intro c1 c2 k F h1 h2 h3
      refine gB_tot (ih _ _ _ (by omega) (by omega)) (fun a1 s1 e => gB_tot (ih _ _ _ h3 ?_) (fun a2 s2 e2 => ⟨_, rfl⟩))
      have p := gP_pos hk _ _ _ _ _ _ h2 e
      omega
    match c, hc with
    | 0, _ => exact seq (by omega) (by omega) (by omega)
    | 1, _ => exact seq (by omega) (by omega) (by omega)
    | 4, _ => exact seq (by omega) (by omega) (by omega)
    | 5, _ => exact seq (by omega) (by omega) (by omega)
    | 3, _ =>
      rw [gP]
      refine gB_tot (ih _ _ _ (by omega) (by omega)) (fun a1 s1 e => ?_)
      have p := gP_pos hk _ _ _ _ _ _ (by omega) e
      have q := (gP_m hk _ _ _ _ _ e).1
      split
      · rename_i e2
        have : a1 < m0 := e2.elim (fun e => hk.lt e (by decide) (by decide) (by decide)) (fun e2 => e2.elim (fun e => hk.lt e (by decide) (by decide) (by decide)) (fun e2 => e2.elim (fun e => hk.lt e (by decide) (by decide) (by decide)) (fun e2 => e2.elim (fun e => hk.lt e (by decide) (by decide) (by decide)) (fun e => hk.lt e (by decide) (by decide) (by decide)))))
        exact gB_tot (ih _ _ _ (by omega) (by omega)) (fun a2 s2 e2 => ⟨_, rfl⟩)
      · exact ⟨_, rfl⟩
    | 2, _ =>
      rw [gP]
      split
      · split <;> exact ⟨_, rfl⟩
      split
      · rename_i e
        have := hk.lt e (by decide) (by decide) (by decide)
        split
        · exact gB_tot (ih _ _ _ (by omega) (by omega)) (fun a1 s1 e => ⟨_, rfl⟩)
        · exact ⟨_, rfl⟩
      split
      · rename_i e
        have := hk.lt e (by decide) (by decide) (by decide)
        split
        · exact gB_tot (ih _ _ _ (by omega) (by omega)) (fun a1 s1 e => by split <;> exact ⟨_, rfl⟩)
        · exact ⟨_, rfl⟩
      exact ih _ _ _ (by omega) (by omega)
    | 6, _ =>
      rw [gP]
      split
      · split <;> exact ⟨_, rfl⟩
      split
      · exact ⟨_, rfl⟩
      split
      · split
        · rename_i e
          have := hk.lt e.2 (by decide) (by decide) (by decide)
          refine gB_tot (ih _ _ _ (by omega) (by omega)) (fun a1 s1 e => ?_)
          have p := gP_pos hk _ _ _ _ _ _ (by omega) e
          split
          · exact gB_tot (ih _ _ _ (by omega) (by omega)) (fun a2 s2 e => by split <;> exact ⟨_, rfl⟩)
          · exact ⟨_, rfl⟩
        · exact ⟨_, rfl⟩
      split
      · exact ⟨_, rfl⟩
      split
      · rename_i e
        have := hk.lt e (by decide) (by decide) (by decide)
        split
        · exact gB_tot (ih _ _ _ (by omega) (by omega)) (fun a1 s1 e => by split <;> exact ⟨_, rfl⟩)
        · exact ⟨_, rfl⟩
      split
      · rename_i e
        have := hk.lt e (by decide) (by decide) (by decide)
        split
        · exact gB_tot (ih _ _ _ (by omega) (by omega)) (fun a1 s1 e => ⟨_, rfl⟩)
        · exact ⟨_, rfl⟩
      exact ⟨_, rfl⟩
    | 7, _ =>
      rw [gP]
      split
      · rename_i e
        exact nx (k := 0) (hk.lt e (by decide) (by decide) (by decide)) (by omega) (by omega)
      · exact ⟨_, rfl⟩
    | 8, _ =>
      rw [gP]
      split
      · rename_i e
        exact nx (k := 0) (hk.lt e (by decide) (by decide) (by decide)) (by omega) (by omega)
      · exact ⟨_, rfl⟩
    | 9, _ =>
      rw [gP]
      split
      · rename_i e
        exact nx (k := 0) (e.elim (fun e => hk.lt e (by decide) (by decide) (by decide)) (fun e => hk.lt e (by decide) (by decide) (by decide))) (by omega) (by omega)
      · exact ⟨_, rfl⟩
    | 10, _ =>
      rw [gP]
      split
      · rename_i e
        exact nx (k := 0) (e.elim (fun e => hk.lt e (by decide) (by decide) (by decide)) (fun e => hk.lt e (by decide) (by decide) (by decide))) (by omega) (by omega)
      · exact ⟨_, rfl⟩
    | (c + 11), hc => omega
theorem gRows_tot {kf : Nat → Int32} {m0 : Nat} (hk : kfM kf m0) : ∀ (n a : Nat), m0 - a + 1 ≤ n → ∃ x, gRows kf n a = some x := by
  intro n
  induction n with
  | zero => intro a h; omega
  | succ n ih =>
    intro a h
    rw [gRows]
    split
    · rename_i e
      have := hk.lt e (by decide) (by decide) (by decide)
      split
      · exact ih _ (by omega)
      · exact ⟨_, rfl⟩
    · exact ⟨_, rfl⟩
theorem gFst_tot {r : Option gR} {f : Nat → List (Int32 × Int32) → Option gRL} (h : ∃ x, r = some x) (h2 : ∀ a s, r = some (true, a, s) → ∃ x, f a s = some x) : ∃ x, gFst r f = some x := by
  obtain ⟨⟨ok, a, s⟩, rfl⟩ := h
  cases ok
  · exact ⟨_, rfl⟩
  · exact h2 a s rfl
theorem gBL_tot {r : Option gRL} {f : Nat → List (List (Int32 × Int32) × List (Int32 × Int32)) → Option gRL} (h : ∃ x, r = some x) (h2 : ∀ a s, r = some (true, a, s) → ∃ x, f a s = some x) : ∃ x, gBL r f = some x := by
  obtain ⟨⟨ok, a, s⟩, rfl⟩ := h
  cases ok
  · exact ⟨_, rfl⟩
  · exact h2 a s rfl
theorem gLn_tot {kf nm : Nat → Int32} {m0 : Nat} (hk : kfM kf m0) {n a : Nat} (h : 12 * (m0 - a) + 12 ≤ n) : ∃ x, gLn kf nm n a = some x := by
  unfold gLn
  split
  · unfold gTag; split <;> exact ⟨_, rfl⟩
  split
  · unfold gWord
    repeat' (first | exact ⟨_, rfl⟩ | split)
  split
  · unfold gKeys
    split
    · exact gRows_tot hk _ _ (by omega)
    · exact ⟨_, rfl⟩
  unfold gBoost
  split
  · split
    · split
      · refine gFst_tot (gP_tot hk _ _ _ _ (by omega) (by omega)) (fun a1 s1 e => ?_)
        have p := gP_pos hk _ _ _ _ _ _ (by omega) e
        split
        · exact gFst_tot (gP_tot hk _ _ _ _ (by omega) (by omega)) (fun a2 s2 e => ⟨_, rfl⟩)
        · exact ⟨_, rfl⟩
      · exact ⟨_, rfl⟩
    · exact ⟨_, rfl⟩
  · exact ⟨_, rfl⟩
theorem gRd_tot {kf nm : Nat → Int32} {m0 : Nat} (hk : kfM kf m0) : ∀ (n a : Nat), 12 * (m0 - a) + 13 ≤ n → ∃ x, gRd kf nm n a = some x := by
  intro n
  induction n with
  | zero => intro a h; omega
  | succ n ih =>
    intro a h
    rw [gRd]
    split
    · exact ⟨_, rfl⟩
    · refine gBL_tot (gLn_tot hk (by omega)) (fun a1 s1 e => ?_)
      have p := gLn_m hk e
      dsimp only at p
      split
      · rename_i e2
        have := hk.lt e2 (by decide) (by decide) (by decide)
        exact gBL_tot (ih _ (by omega)) (fun a2 s2 e => ⟨_, rfl⟩)
      · exact ⟨_, rfl⟩
