/-! locals -/
def passoc (w : pW) (L : List (Option Value)) : List (Nat × Value) := (List.range L.length).filterMap (fun k => (pat L k).map (fun v => (k, ptr w v)))
theorem passoc_mem {w : pW} {L : List (Option Value)} {k : Nat} {v : Value} (h : pat L k = some v) : (k, ptr w v) ∈ passoc w L :=
  List.mem_filterMap.mpr ⟨k, List.mem_range.mpr (pat_lt h), by rw [h]; rfl⟩
theorem passoc_of {w : pW} {L : List (Option Value)} {q : Nat × Value} (h : q ∈ passoc w L) : ∃ v, pat L q.1 = some v ∧ q.2 = ptr w v := by
  obtain ⟨k, -, hk⟩ := List.mem_filterMap.mp h
  cases hp : pat L k with
  | none => rw [hp] at hk; cases hk
  | some v =>
    rw [hp] at hk
    cases hk
    exact ⟨v, hp, rfl⟩
theorem pLR.has {w : pW} {n : Nat} {L : List (Option Value)} {ls : Array Slot} (h : pLR w n L ls) : lv_has ls n (passoc w L) := ⟨h.1, h.2.1, fun q hq => by
  obtain ⟨v, h1, h2⟩ := passoc_of hq
  rw [h2]
  exact h.2.2 _ _ h1⟩
theorem pok_prev {L : List (Option Value)} {k j : Nat} {u : Value} (h : pok L k = true) (hj : j + 1 = k) (hp : pat L j = some u) : ¬ u.category = 2 := by
  subst hj
  simp only [pok, hp] at h
  intro hc
  rw [(pcat2_iff u).mpr hc] at h
  cases h
theorem pLR_st1 {w : pW} {n k : Nat} {L : List (Option Value)} {v : Value} {ls : Array Slot} (hok : pok L k = true)
    (h : lv_has ls n ((k, ptr w v) :: (passoc w L).filter (fun q => !(q.1 == k) && !(q.1 + 1 == k && q.2.category == 2)))) : pLR w n (pst L k (some v)) ls := by
  refine ⟨h.1, h.2.1, fun j u hj => ?_⟩
  rw [pat_pst] at hj
  by_cases e : j = k
  · rw [if_pos e] at hj
    by_cases e2 : k < L.length
    · rw [if_pos e2] at hj
      cases hj
      rw [e]
      exact h.2.2 _ List.mem_cons_self
    · rw [if_neg e2] at hj; cases hj
  · rw [if_neg e] at hj
    refine h.2.2 (j, ptr w u) (List.mem_cons_of_mem _ (List.mem_filter.mpr ⟨passoc_mem hj, ?_⟩))
    by_cases e3 : j + 1 = k
    · have := pok_prev hok e3 hj
      simp [e, ptr_cat, this]
    · simp [e, e3]
theorem pLR_st2 {w : pW} {n k : Nat} {L : List (Option Value)} {v : Value} {ls : Array Slot} (hok : pok L k = true)
    (h : lv_has ls n ((k, ptr w v) :: (passoc w L).filter (fun q => !(q.1 == k) && (!(q.1 == k + 1) && !(q.1 + 1 == k && q.2.category == 2))))) : pLR w n (pst (pst L (k + 1) none) k (some v)) ls := by
  refine ⟨h.1, h.2.1, fun j u hj => ?_⟩
  rw [pat_pst] at hj
  by_cases e : j = k
  · rw [if_pos e] at hj
    by_cases e2 : k < (pst L (k + 1) none).length
    · rw [if_pos e2] at hj
      cases hj
      rw [e]
      exact h.2.2 _ List.mem_cons_self
    · rw [if_neg e2] at hj; cases hj
  · rw [if_neg e, pat_pst] at hj
    by_cases e4 : j = k + 1
    · rw [if_pos e4] at hj
      split at hj <;> cases hj
    · rw [if_neg e4] at hj
      refine h.2.2 (j, ptr w u) (List.mem_cons_of_mem _ (List.mem_filter.mpr ⟨passoc_mem hj, ?_⟩))
      by_cases e3 : j + 1 = k
      · have := pok_prev hok e3 hj
        simp [e, e4, ptr_cat, this]
      · simp [e, e4, e3]
theorem pent_lv {w : pW} : ∀ (as : List Value) (i k : Nat) (v : Value), pat (pent as) k = some v → (i + k, ptr w v) ∈ lv_args i (as.map (ptr w)) := by
  intro as
  induction as with
  | nil => intro i k v h; simp [pent, pat] at h
  | cons a as ih =>
    intro i k v h
    rw [List.map_cons, lv_args]
    unfold pent at h
    cases hc : pcat2 a with
    | true =>
      rw [hc] at h
      have hc2 : (ptr w a).category = 2 := (ptr_cat w a).trans ((pcat2_iff a).mp hc)
      rw [if_pos hc2]
      match k, h with
      | 0, h => simp [pat] at h; subst h; exact List.mem_cons_self
      | 1, h => simp [pat] at h
      | k + 2, h =>
        have := ih (i + 2) k v (by simpa [pat] using h)
        rw [show i + (k + 2) = i + 2 + k by omega]
        exact List.mem_cons_of_mem _ this
    | false =>
      rw [hc] at h
      have hc2 : ¬ (ptr w a).category = 2 := by rw [ptr_cat, (pcat2_iff0 a).mp hc]; decide
      rw [if_neg hc2]
      match k, h with
      | 0, h => simp [pat] at h; subst h; exact List.mem_cons_self
      | k + 1, h =>
        have := ih (i + 1) k v (by simpa [pat] using h)
        rw [show i + (k + 1) = i + 1 + k by omega]
        exact List.mem_cons_of_mem _ this
theorem pat_app {L L' : List (Option Value)} : ∀ {k : Nat} {v : Value}, pat (L ++ L') k = some v → (pat L k = some v ∨ ∃ j, pat L' j = some v) := by
  induction L with
  | nil => intro k v h; exact Or.inr ⟨k, h⟩
  | cons x l ih =>
    intro k v h
    cases k with
    | zero => exact Or.inl h
    | succ k => exact ih (k := k) h
theorem pat_none {n : Nat} : ∀ {k : Nat}, pat (List.replicate n none) k = none := by
  induction n with
  | zero => intro k; rfl
  | succ n ih => intro k; cases k with
    | zero => rfl
    | succ k => exact ih
theorem pent_sl {w : pW} : ∀ as : List Value, (lg_sl (as.map (ptr w))).length = (pent as).length := by
  intro as
  induction as with
  | nil => rfl
  | cons a as ih =>
    rw [List.map_cons]
    have e : lg_sl (ptr w a :: as.map (ptr w)) = (if (ptr w a).category = 2 then [Slot.val (ptr w a), Slot.second] else [Slot.val (ptr w a)]) ++ lg_sl (as.map (ptr w)) := by simp [lg_sl]
    rw [e, List.length_append, ih]
    cases hc : pcat2 a with
    | true =>
      have e2 : pent (a :: as) = some a :: none :: pent as := by rw [pent]; simp [hc]
      rw [if_pos ((ptr_cat w a).trans ((pcat2_iff a).mp hc)), e2]
      simp only [List.length_cons, List.length_nil]
      omega
    | false =>
      have e2 : pent (a :: as) = some a :: pent as := by rw [pent]; simp [hc]
      rw [if_neg (by rw [ptr_cat, (pcat2_iff0 a).mp hc]; decide), e2]
      simp only [List.length_cons, List.length_nil]
      omega
theorem pLR_entry {w : pW} {n : Nat} {as : List Value} (h : (pent as).length ≤ n) : pLR w n (pentry n as) ((lg_sl (as.map (ptr w)) ++ List.replicate (n - (lg_sl (as.map (ptr w))).length) Slot.unset).toArray) := by
  have hl := lv_entry (as.map (ptr w)) (n := n) (by rw [pent_sl]; exact h)
  refine ⟨hl.1, hl.2.1, fun k v hk => ?_⟩
  unfold pentry at hk
  rcases pat_app hk with hk | ⟨j, hj⟩
  · have := pent_lv (w := w) as 0 k v hk
    rw [Nat.zero_add] at this
    exact hl.2.2 _ this
  · rw [pat_none] at hj; cases hj
