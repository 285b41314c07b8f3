/-! READING: HOW FAR -/
def kfM (kf : Nat → Int32) (m0 : Nat) : Prop := ∀ a, m0 ≤ a → kf a = 24 ∨ kf a = 25 ∨ kf a = -1
theorem kfM.lt {kf : Nat → Int32} {m0 : Nat} (h : kfM kf m0) {a : Nat} {k : Int32} (hk : kf a = k) (h1 : k ≠ 24) (h2 : k ≠ 25) (h3 : k ≠ -1) : a < m0 := by
  refine Nat.not_le.mp (fun z => ?_)
  rcases h a z with e | e | e
  · exact h1 (hk.symm.trans e)
  · exact h2 (hk.symm.trans e)
  · exact h3 (hk.symm.trans e)
theorem gP_m {kf nm : Nat → Int32} {m0 : Nat} (hk : kfM kf m0) : ∀ (n c d a : Nat) (x : gR), gP kf nm n c d a = some x → a ≤ x.2.1 ∧ (a ≤ m0 → x.2.1 ≤ m0) := by
  intro n
  induction n with
  | zero => intro c d a x h; exact nomatch h
  | succ n ih =>
    intro c d a x h
    have two : ∀ {c1 c2 a0 : Nat} {d1 d2 : Nat} {F : Nat → List (Int32 × Int32) → Nat → List (Int32 × Int32) → List (Int32 × Int32)}, a ≤ a0 → (a ≤ m0 → a0 ≤ m0) → (gB (gP kf nm n c1 d1 a0) fun a1 s1 => gB (gP kf nm n c2 d2 a1) fun a2 s2 => some (true, a2, F a1 s1 a2 s2)) = some x → a ≤ x.2.1 ∧ (a ≤ m0 → x.2.1 ≤ m0) := by
      intro c1 c2 a0 d1 d2 F h1 h2 h
      rcases gB_some h with ⟨a1, s1, e, rfl⟩ | ⟨a1, s1, e, h⟩
      · have := ih _ _ _ _ e; dsimp only at *; omega
      · have i1 := ih _ _ _ _ e
        rcases gB_some h with ⟨a2, s2, e, rfl⟩ | ⟨a2, s2, e, h⟩
        · have := ih _ _ _ _ e; dsimp only at *; omega
        · have i2 := ih _ _ _ _ e
          cases Option.some.inj h
          dsimp only at *; omega
    match c, h with
    | 0, h => exact two (Nat.le_refl _) id h
    | 1, h => exact two (Nat.le_refl _) id h
    | 4, h => exact two (Nat.le_refl _) id h
    | 5, h => exact two (Nat.le_refl _) id h
    | 7, h =>
      rw [gP] at h
      split at h
      · rename_i e
        have := hk.lt e (by decide) (by decide) (by decide)
        exact two (a0 := a + 1) (by omega) (by omega) h
      · cases Option.some.inj h; exact ⟨Nat.le_refl _, id⟩
    | 8, h =>
      rw [gP] at h
      split at h
      · rename_i e
        have := hk.lt e (by decide) (by decide) (by decide)
        exact two (a0 := a + 1) (by omega) (by omega) h
      · cases Option.some.inj h; exact ⟨Nat.le_refl _, id⟩
    | 9, h =>
      rw [gP] at h
      split at h
      · rename_i e
        have := e.elim (fun e => hk.lt e (by decide) (by decide) (by decide)) (fun e => hk.lt e (by decide) (by decide) (by decide))
        exact two (a0 := a + 1) (by omega) (by omega) h
      · cases Option.some.inj h; exact ⟨Nat.le_refl _, id⟩
    | 10, h =>
      rw [gP] at h
      split at h
      · rename_i e
        have := e.elim (fun e => hk.lt e (by decide) (by decide) (by decide)) (fun e => hk.lt e (by decide) (by decide) (by decide))
        exact two (a0 := a + 1) (by omega) (by omega) h
      · cases Option.some.inj h; exact ⟨Nat.le_refl _, id⟩
    | 3, h =>
      rw [gP] at h
      rcases gB_some h with ⟨a1, s1, e, rfl⟩ | ⟨a1, s1, e, h⟩
      · have := ih _ _ _ _ e; dsimp only at *; omega
      · have i1 := ih _ _ _ _ e
        split at h
        · rename_i e2
          have := e2.elim (fun e => hk.lt e (by decide) (by decide) (by decide)) (fun e2 => e2.elim (fun e => hk.lt e (by decide) (by decide) (by decide)) (fun e2 => e2.elim (fun e => hk.lt e (by decide) (by decide) (by decide)) (fun e2 => e2.elim (fun e => hk.lt e (by decide) (by decide) (by decide)) (fun e => hk.lt e (by decide) (by decide) (by decide)))))
          rcases gB_some h with ⟨a2, s2, e, rfl⟩ | ⟨a2, s2, e, h⟩
          · have := ih _ _ _ _ e; dsimp only at *; omega
          · have i2 := ih _ _ _ _ e
            cases Option.some.inj h
            dsimp only at *; omega
        · cases Option.some.inj h; dsimp only at *; omega
    | 2, h =>
      rw [gP] at h
      split at h
      · rename_i e
        have := e.elim (fun e => hk.lt e (by decide) (by decide) (by decide)) (fun e => hk.lt e (by decide) (by decide) (by decide))
        split at h
        · rename_i e
          have := hk.lt e (by decide) (by decide) (by decide)
          cases Option.some.inj h; dsimp only at *; omega
        · cases Option.some.inj h; dsimp only at *; omega
      split at h
      · rename_i e
        have := hk.lt e (by decide) (by decide) (by decide)
        split at h
        · rcases gB_some h with ⟨a1, s1, e, rfl⟩ | ⟨a1, s1, e, h⟩
          · have := ih _ _ _ _ e; dsimp only at *; omega
          · have i1 := ih _ _ _ _ e
            cases Option.some.inj h; dsimp only at *; omega
        · cases Option.some.inj h; dsimp only at *; omega
      split at h
      · rename_i e
        have := hk.lt e (by decide) (by decide) (by decide)
        split at h
        · rcases gB_some h with ⟨a1, s1, e, rfl⟩ | ⟨a1, s1, e, h⟩
          · have := ih _ _ _ _ e; dsimp only at *; omega
          · have i1 := ih _ _ _ _ e
            split at h
            · rename_i e
              have := hk.lt e (by decide) (by decide) (by decide)
              cases Option.some.inj h; dsimp only at *; omega
            · cases Option.some.inj h; dsimp only at *; omega
        · cases Option.some.inj h; dsimp only at *; omega
      exact ih _ _ _ _ h
    | 6, h =>
      rw [gP] at h
      split at h
      · rename_i e
        have := hk.lt e (by decide) (by decide) (by decide)
        split at h
        · rename_i e
          have := hk.lt e (by decide) (by decide) (by decide)
          cases Option.some.inj h; dsimp only at *; omega
        · cases Option.some.inj h; dsimp only at *; omega
      split at h
      · rename_i e2
        have := e2.elim (fun e => hk.lt e (by decide) (by decide) (by decide)) (fun e2 => e2.elim (fun e => hk.lt e (by decide) (by decide) (by decide)) (fun e2 => e2.elim (fun e => hk.lt e (by decide) (by decide) (by decide)) (fun e => hk.lt e (by decide) (by decide) (by decide))))
        cases Option.some.inj h; dsimp only at *; omega
      split at h
      · rename_i e
        have := e.elim (fun e => hk.lt e (by decide) (by decide) (by decide)) (fun e => hk.lt e (by decide) (by decide) (by decide))
        split at h
        · rename_i e
          have := hk.lt e.2 (by decide) (by decide) (by decide)
          rcases gB_some h with ⟨a1, s1, e, rfl⟩ | ⟨a1, s1, e, h⟩
          · have := ih _ _ _ _ e; dsimp only at *; omega
          · have i1 := ih _ _ _ _ e
            split at h
            · rename_i e
              have := hk.lt e (by decide) (by decide) (by decide)
              rcases gB_some h with ⟨a2, s2, e, rfl⟩ | ⟨a2, s2, e, h⟩
              · have := ih _ _ _ _ e; dsimp only at *; omega
              · have i2 := ih _ _ _ _ e
                split at h
                · rename_i e
                  have := hk.lt e (by decide) (by decide) (by decide)
                  cases Option.some.inj h; dsimp only at *; omega
                · cases Option.some.inj h; dsimp only at *; omega
            · cases Option.some.inj h; dsimp only at *; omega
        · cases Option.some.inj h; dsimp only at *; omega
      split at h
      · rename_i e
        have := hk.lt e (by decide) (by decide) (by decide)
        cases Option.some.inj h; dsimp only at *; omega
      split at h
      · rename_i e
        have := hk.lt e (by decide) (by decide) (by decide)
        split at h
        · rcases gB_some h with ⟨a1, s1, e, rfl⟩ | ⟨a1, s1, e, h⟩
          · have := ih _ _ _ _ e; dsimp only at *; omega
          · have i1 := ih _ _ _ _ e
            split at h
            · rename_i e
              have := hk.lt e (by decide) (by decide) (by decide)
              cases Option.some.inj h; dsimp only at *; omega
            · cases Option.some.inj h; dsimp only at *; omega
        · cases Option.some.inj h; dsimp only at *; omega
      split at h
      · rename_i e
        have := hk.lt e (by decide) (by decide) (by decide)
        split at h
        · rcases gB_some h with ⟨a1, s1, e, rfl⟩ | ⟨a1, s1, e, h⟩
          · have := ih _ _ _ _ e; dsimp only at *; omega
          · have i1 := ih _ _ _ _ e
            cases Option.some.inj h; dsimp only at *; omega
        · cases Option.some.inj h; dsimp only at *; omega
      cases Option.some.inj h; dsimp only at *; omega
    | (c + 11), h => exact nomatch h
theorem gRows_m {kf : Nat → Int32} {m0 : Nat} (hk : kfM kf m0) : ∀ (n a : Nat) (x : gRL), gRows kf n a = some x → a ≤ x.2.1 ∧ (a ≤ m0 → x.2.1 ≤ m0) := by
  intro n
  induction n with
  | zero => intro a x h; exact nomatch h
  | succ n ih =>
    intro a x h
    rw [gRows] at h
    split at h
    · rename_i e
      have := hk.lt e (by decide) (by decide) (by decide)
      split at h
      · rename_i e
        have := hk.lt e (by decide) (by decide) (by decide)
        have := ih _ _ h
        omega
      · cases Option.some.inj h; dsimp only at *; omega
    · cases Option.some.inj h; dsimp only at *; omega
theorem gLn_m {kf nm : Nat → Int32} {m0 : Nat} (hk : kfM kf m0) {n a : Nat} {x : gRL} (h : gLn kf nm n a = some x) : a ≤ x.2.1 ∧ (a ≤ m0 → x.2.1 ≤ m0) ∧ (x.1 = true → a < x.2.1) := by
  unfold gLn at h
  split at h
  · rename_i e
    have := hk.lt e (by decide) (by decide) (by decide)
    unfold gTag at h
    split at h
    · rename_i e
      have := hk.lt e (by decide) (by decide) (by decide)
      cases Option.some.inj h; dsimp only; omega
    · cases Option.some.inj h; dsimp only; omega
  split at h
  · rename_i e
    have := hk.lt e (by decide) (by decide) (by decide)
    unfold gWord at h
    repeat (split at h; rename_i e; (try have := hk.lt e (by decide) (by decide) (by decide)); skip)
    all_goals (cases Option.some.inj h; dsimp only; omega)
  split at h
  · rename_i e
    have := hk.lt e (by decide) (by decide) (by decide)
    unfold gKeys at h
    split at h
    · rename_i e
      have := hk.lt e (by decide) (by decide) (by decide)
      have := gRows_m hk _ _ _ h
      omega
    · cases Option.some.inj h; dsimp only; omega
  unfold gBoost at h
  split at h
  · rename_i e
    have := hk.lt e (by decide) (by decide) (by decide)
    split at h
    · rename_i e
      have := hk.lt e (by decide) (by decide) (by decide)
      split at h
      · rename_i e
        have := hk.lt e (by decide) (by decide) (by decide)
        rcases gFst_some h with ⟨a1, s1, x1, hx⟩ | ⟨a1, s1, x1, h⟩
        · cases hx
          have := gP_m hk _ _ _ _ _ x1
          dsimp only at *; omega
        · have := gP_m hk _ _ _ _ _ x1
          dsimp only at this
          split at h
          · rename_i e
            have := hk.lt e (by decide) (by decide) (by decide)
            rcases gFst_some h with ⟨a2, s2, x2, hx⟩ | ⟨a2, s2, x2, h⟩
            · cases hx
              have := gP_m hk _ _ _ _ _ x2
              dsimp only at *; omega
            · cases Option.some.inj h
              have := gP_m hk _ _ _ _ _ x2
              dsimp only at *; omega
          · cases Option.some.inj h; dsimp only; omega
      · cases Option.some.inj h; dsimp only; omega
    · cases Option.some.inj h; dsimp only; omega
  · cases Option.some.inj h; exact ⟨Nat.le_refl _, id, fun x => nomatch x⟩
theorem gRd_m {kf nm : Nat → Int32} {m0 : Nat} (hk : kfM kf m0) : ∀ (n a : Nat) (x : gRL), gRd kf nm n a = some x → a ≤ x.2.1 ∧ (a ≤ m0 → x.2.1 ≤ m0) := by
  intro n
  induction n with
  | zero => intro a x h; exact nomatch h
  | succ n ih =>
    intro a x h
    rw [gRd] at h
    split at h
    · cases Option.some.inj h; exact ⟨Nat.le_refl _, id⟩
    rcases gBL_some h with ⟨a1, s1, e, rfl⟩ | ⟨a1, s1, e, h⟩
    · have := gLn_m hk e; dsimp only at *; omega
    · have i1 := gLn_m hk e
      dsimp only at i1
      split at h
      · rename_i e2
        have := hk.lt e2 (by decide) (by decide) (by decide)
        rcases gBL_some h with ⟨a2, s2, e, rfl⟩ | ⟨a2, s2, e, h⟩
        · have := ih _ _ e; dsimp only at *; omega
        · have i2 := ih _ _ e
          cases Option.some.inj h
          dsimp only at *; omega
      · cases Option.some.inj h; dsimp only at *; omega
theorem tkR_len {tp : List Int32} : ∀ (m i p : Nat) (t : tK), (t.1.length = i ∧ t.2.1.length = i ∧ t.2.2.length = i) → (tkR tp m i p t).1.length ≤ i + m ∧ (tkR tp m i p t).2.1.length = (tkR tp m i p t).1.length ∧ (tkR tp m i p t).2.2.length = (tkR tp m i p t).1.length := by
  intro m
  induction m with
  | zero => intro i p t h; rw [tkR]; omega
  | succ m ih =>
    intro i p t h
    rw [tkR]
    split
    · simp; omega
    · have := ih (i + 1) (tkA tp p + lenI tp (tkA tp p)) (t.1 ++ [tkK tp i (tkA tp p)], t.2.1 ++ [nI (tkA tp p)], t.2.2 ++ [nI (lenI tp (tkA tp p))]) (by simp; omega)
      omega
/-- the tokens of a tape -/
def tkT (tp : List Int32) : tK := tkR tp 401 0 0 ([], [], [])
/-- what the last token is, and that the ones ahead of it are no ends; where a token starts -/
theorem tkR_fin {tp : List Int32} (h2 : tp.length ≤ 2000) : ∀ (m i p : Nat) (t : tK), 1 ≤ m → i + m = 401 → p ≤ tp.length → (t.1.length = i ∧ t.2.1.length = i ∧ t.2.2.length = i) → (∀ j, j < i → t.1.getD j (-1) ≠ 24 ∧ t.1.getD j (-1) ≠ 25) → (∀ x ∈ t.2.1, 0 ≤ x) →
    ∃ n, (tkR tp m i p t).1.length = n + 1 ∧ n ≤ 400 ∧ ((tkR tp m i p t).1.getD n (-1) = 24 ∨ (tkR tp m i p t).1.getD n (-1) = 25) ∧ (∀ j, j < n → (tkR tp m i p t).1.getD j (-1) ≠ 24 ∧ (tkR tp m i p t).1.getD j (-1) ≠ 25) ∧ (∀ x ∈ (tkR tp m i p t).2.1, 0 ≤ x) := by
  intro m
  induction m with
  | zero => intro i p t h1; omega
  | succ m ih =>
    intro i p t h1 hm hp hl hj hs
    have ha := tkA_le hp
    have hs2 : ∀ x ∈ t.2.1 ++ [nI (tkA tp p)], 0 ≤ x := by
      intro x hx
      rcases List.mem_append.mp hx with hx | hx
      · exact hs x hx
      · rw [List.mem_singleton.mp hx]; exact nI_pos' (by omega)
    have hg : (t.1 ++ [tkK tp i (tkA tp p)]).getD i (-1) = tkK tp i (tkA tp p) := by
      rw [List.getD_eq_getElem?_getD, List.getElem?_append_right (by omega), hl.1, Nat.sub_self]; rfl
    have hg2 : ∀ j, j < i → (t.1 ++ [tkK tp i (tkA tp p)]).getD j (-1) = t.1.getD j (-1) := fun j hj => by
      rw [List.getD_eq_getElem?_getD, List.getElem?_append_left (by omega), ← List.getD_eq_getElem?_getD]
    rw [tkR]
    split
    · rename_i hc
      refine ⟨i, by simp; omega, by omega, by rw [hg]; exact hc, fun j hj2 => by rw [hg2 j hj2]; exact hj j hj2, hs2⟩
    · rename_i hc
      have hi : i ≠ 400 := by
        intro z
        refine hc ?_
        unfold tkK
        rw [if_pos z]
        split
        · rename_i e; exact Or.inl e
        · exact Or.inr rfl
      have ea : tkA tp p < tp.length := by
        refine Nat.not_le.mp (fun z => hc (Or.inl ?_))
        have e := rat_out (l := tp) z (by omega)
        have ek : kindI tp (tkA tp p) (lenI tp (tkA tp p)) = 24 := by unfold kindI; rw [e, if_pos (by decide)]
        unfold tkK
        rw [ek, if_neg hi]
      refine ih (i + 1) _ _ (by omega) (by omega) (lenI_le h2 ea) (by simp; omega) (fun j hj2 => ?_) hs2
      by_cases e : j = i
      · rw [e, hg]; exact ⟨fun z => hc (Or.inl z), fun z => hc (Or.inr z)⟩
      · rw [hg2 j (by omega)]; exact hj j (by omega)
theorem tkT_fin {tp : List Int32} (h2 : tp.length ≤ 2000) : ∃ n, (tkT tp).1.length = n + 1 ∧ n ≤ 400 ∧ ((tkT tp).1.getD n (-1) = 24 ∨ (tkT tp).1.getD n (-1) = 25) ∧ (∀ j, j < n → (tkT tp).1.getD j (-1) ≠ 24 ∧ (tkT tp).1.getD j (-1) ≠ 25) ∧ (∀ x ∈ (tkT tp).2.1, 0 ≤ x) :=
  tkR_fin h2 401 0 0 ([], [], []) (by omega) rfl (by omega) ⟨rfl, rfl, rfl⟩ (fun j hj => absurd hj (by omega)) (fun x hx => absurd hx List.not_mem_nil)
