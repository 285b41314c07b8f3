/-! GRAMMAR -/
abbrev gR : Type := Bool × Nat × List (Int32 × Int32)
def gB (r : Option gR) (f : Nat → List (Int32 × Int32) → Option gR) : Option gR := match r with
  | none => none
  | some (false, a, _) => some (false, a, [])
  | some (true, a, s) => f a s
/-- what a reading of a kind of piece (0 test, 1 both, 2 single, 3 comparison, 4 sum, 5 product, 6 value, 7 to 10 what follows of 0, 1, 4, 5) gives: whether it is one, the token it ends at or that is wrong, the steps -/
def gP (kf nm : Nat → Int32) : Nat → Nat → Nat → Nat → Option gR
  | 0, _, _, _ => none
  | n + 1, 0, d, a => gB (gP kf nm n 1 d a) fun a1 s1 => gB (gP kf nm n 7 d a1) fun a2 s2 => some (true, a2, s1 ++ s2)
  | n + 1, 1, d, a => gB (gP kf nm n 2 d a) fun a1 s1 => gB (gP kf nm n 8 d a1) fun a2 s2 => some (true, a2, s1 ++ s2)
  | n + 1, 2, d, a =>
    if kf a = 12 ∨ kf a = 13 then (if kf (a + 1) = 20 then some (true, a + 2, [(kf a, nI (a + 1))]) else some (false, a + 1, []))
    else if kf a = 14 then (if d < 8 then gB (gP kf nm n 2 (d + 1) (a + 1)) fun a1 s1 => some (true, a1, s1 ++ [(14, 0)]) else some (false, a, []))
    else if kf a = 91 then (if d < 8 then gB (gP kf nm n 0 (d + 1) (a + 1)) fun a1 s1 => if kf a1 = 93 then some (true, a1 + 1, s1) else some (false, a1, []) else some (false, a, []))
    else gP kf nm n 3 d a
  | n + 1, 3, d, a => gB (gP kf nm n 4 d a) fun a1 s1 => if kf a1 = 60 ∨ kf a1 = 62 ∨ kf a1 = 61 ∨ kf a1 = 22 ∨ kf a1 = 23 then gB (gP kf nm n 4 d (a1 + 1)) fun a2 s2 => some (true, a2, s1 ++ (s2 ++ [(kf a1, 0)])) else some (false, a1, [])
  | n + 1, 4, d, a => gB (gP kf nm n 5 d a) fun a1 s1 => gB (gP kf nm n 9 d a1) fun a2 s2 => some (true, a2, s1 ++ s2)
  | n + 1, 5, d, a => gB (gP kf nm n 6 d a) fun a1 s1 => gB (gP kf nm n 10 d a1) fun a2 s2 => some (true, a2, s1 ++ s2)
  | n + 1, 6, d, a =>
    if kf a = 2 then (if kf (a + 1) = 20 then some (true, a + 2, [(kf a, nI (a + 1))]) else some (false, a + 1, []))
    else if kf a = 8 ∨ kf a = 9 ∨ kf a = 10 ∨ kf a = 11 then some (true, a + 1, [(kf a, 0)])
    else if kf a = 17 ∨ kf a = 18 then (if d < 8 ∧ kf (a + 1) = 40 then gB (gP kf nm n 4 (d + 1) (a + 2)) fun a1 s1 => if kf a1 = 44 then gB (gP kf nm n 4 (d + 1) (a1 + 1)) fun a2 s2 => if kf a2 = 41 then some (true, a2 + 1, s1 ++ (s2 ++ [(kf a, 0)])) else some (false, a2, []) else some (false, a1, []) else some (false, a + 1, []))
    else if kf a = 21 then some (true, a + 1, [(21, nm a)])
    else if kf a = 40 then (if d < 8 then gB (gP kf nm n 4 (d + 1) (a + 1)) fun a1 s1 => if kf a1 = 41 then some (true, a1 + 1, s1) else some (false, a1, []) else some (false, a, []))
    else if kf a = 45 then (if d < 8 then gB (gP kf nm n 6 (d + 1) (a + 1)) fun a1 s1 => some (true, a1, s1 ++ [(30, 0)]) else some (false, a, []))
    else some (false, a, [])
  | n + 1, 7, d, a => if kf a = 16 then gB (gP kf nm n 1 d (a + 1)) fun a1 s1 => gB (gP kf nm n 7 d a1) fun a2 s2 => some (true, a2, s1 ++ (16, 0) :: s2) else some (true, a, [])
  | n + 1, 8, d, a => if kf a = 15 then gB (gP kf nm n 2 d (a + 1)) fun a1 s1 => gB (gP kf nm n 8 d a1) fun a2 s2 => some (true, a2, s1 ++ (15, 0) :: s2) else some (true, a, [])
  | n + 1, 9, d, a => if kf a = 43 ∨ kf a = 45 then gB (gP kf nm n 5 d (a + 1)) fun a1 s1 => gB (gP kf nm n 9 d a1) fun a2 s2 => some (true, a2, s1 ++ (kf a, 0) :: s2) else some (true, a, [])
  | n + 1, 10, d, a => if kf a = 42 ∨ kf a = 47 then gB (gP kf nm n 6 d (a + 1)) fun a1 s1 => gB (gP kf nm n 10 d a1) fun a2 s2 => some (true, a2, s1 ++ (kf a, 0) :: s2) else some (true, a, [])
  | _ + 1, _, _, _ => none
/-- no token from the 400th on is one that a piece may hold -/
def kfE (kf : Nat → Int32) : Prop := ∀ a, 400 ≤ a → kf a = 24 ∨ kf a = 25 ∨ kf a = -1
theorem kfE.lt {kf : Nat → Int32} (h : kfE kf) {a : Nat} {k : Int32} (hk : kf a = k) (h1 : k ≠ 24) (h2 : k ≠ 25) (h3 : k ≠ -1) : a < 400 := by
  refine Nat.not_le.mp (fun z => ?_)
  rcases h a z with e | e | e
  · exact h1 (hk.symm.trans e)
  · exact h2 (hk.symm.trans e)
  · exact h3 (hk.symm.trans e)
theorem gB_some {r : Option gR} {f : Nat → List (Int32 × Int32) → Option gR} {x : gR} (h : gB r f = some x) : (∃ a s, r = some (false, a, s) ∧ x = (false, a, [])) ∨ (∃ a s, r = some (true, a, s) ∧ f a s = some x) := by
  unfold gB at h
  split at h
  · exact nomatch h
  · rename_i a s
    exact Or.inl ⟨a, s, rfl, (Option.some.inj h).symm⟩
  · rename_i a s
    exact Or.inr ⟨a, s, rfl, h⟩
def stB (b : bB) (s : List (Int32 × Int32)) : bB := s.foldl (fun b x => (b.1, b.2.1, b.2.2.1, b.2.2.2.1, pushL 400 b.2.2.2.2.1 x.1, pushL 400 b.2.2.2.2.2.1 x.2, b.2.2.2.2.2.2)) b
theorem stB_app {b : bB} {s t : List (Int32 × Int32)} : stB b (s ++ t) = stB (stB b s) t := List.foldl_append
theorem stB_one {b : bB} {x : Int32 × Int32} {s : List (Int32 × Int32)} : stB b (x :: s) = stB (b.1, b.2.1, b.2.2.1, b.2.2.2.1, pushL 400 b.2.2.2.2.1 x.1, pushL 400 b.2.2.2.2.2.1 x.2, b.2.2.2.2.2.2) s := rfl
/-- where the grammar and what it looks at stand -/
def gramE (B : pM) (g qt qp qb : Nat) : Prop := pK B g = (1, 2) ∧ (pP B g 0 = qt + 1 ∧ pP B g 1 = (qt + 43) + 1 ∧ pP B g 2 = qp + 1 ∧ pP B g 3 = qb + 1) ∧ toksS B qt ∧ rowS B qp 2000 ∧ boostsS B qb ∧ (qt + 51 ≤ qb ∨ qb + 417 ≤ qt) ∧ (qp + 2 ≤ qb ∨ qb + 417 ≤ qp) ∧ (qt + 51 ≤ g ∧ qp + 2 ≤ g ∧ qb + 417 ≤ g)
def gS (I : pIm) (g qt qp qb : Nat) (t : tK) (tp : List Int32) (a : Nat) (b : bB) : Prop := I g 4 = nI a ∧ Tk I qt t ∧ Rw I qp tp ∧ tp.length ≤ 2000 ∧ Bo I qb b ∧ a ≤ 400
/-- only the grammar's place and the boosts have changed -/
def Fr2 (g qb : Nat) (I J : pIm) : Prop := ∀ x, x ≠ g → (x < qb ∨ qb + 417 ≤ x) → J x = I x
theorem Fr2.rf {g qb : Nat} {I : pIm} : Fr2 g qb I I := fun _ _ _ => rfl
theorem Fr2.tr {g qb : Nat} {I J K : pIm} (h : Fr2 g qb I J) (h2 : Fr2 g qb J K) : Fr2 g qb I K := fun x h3 h4 => (h2 x h3 h4).trans (h x h3 h4)
def kfT (t : tK) (a : Nat) : Int32 := t.1.getD a (-1)
def nmT (tp : List Int32) (t : tK) (a : Nat) : Int32 := numO tp t (nI a)
theorem g_set {B : pM} {I : pIm} {g qt qp qb : Nat} {t : tK} {tp : List Int32} {a a' : Nat} {b : bB} (hg : gramE B g qt qp qb) (h : gS I g qt qp qb t tp a b) (ha : a' ≤ 400) : gS (u2 I g 4 (nI a')) g qt qp qb t tp a' b ∧ Fr2 g qb I (u2 I g 4 (nI a')) := by
  obtain ⟨g0, -, -, -, -, s1, s2, s3⟩ := hg
  obtain ⟨h1, h2, h3, h4, h5, h6⟩ := h
  have f : Fr g (g + 1) I (u2 I g 4 (nI a')) := Fr.u (by omega) (by omega)
  exact ⟨⟨u2_same, h2.f f (by omega), h3.f f (by omega), h4, h5.f f (by omega), ha⟩, fun x hx _ => u2_a hx⟩
theorem g_step {d : Nat} (hd : 2 ≤ d) {B : pM} {I : pIm} {g qt qp qb : Nat} {t : tK} {tp : List Int32} {a : Nat} {b : bB} {k v : Int32} {K : pM → Prop} (hg : gramE B g qt qp qb) (h : gS I g qt qp qb t tp a b) (hK : ∀ J, gS J g qt qp qb t tp a (stB b [(k, v)]) → Fr2 g qb I J → K (pset B J)) : pCall_v d mX1_addStep (0, 0) [.ref qb, .int k, .int v] (pset B I) K := by
  obtain ⟨g0, -, -, -, hb, s1, s2, s3⟩ := hg
  obtain ⟨h1, h2, h3, h4, h5, h6⟩ := h
  refine c_addStep hd hb h5 (fun J j1 f => hK J ⟨?_, h2.f f (by omega), h3.f f (by omega), h4, j1, h6⟩ (fun x _ hx => f x hx))
  rw [f g (by omega)]; exact h1
theorem g_at {d : Nat} (hd : 1 ≤ d) {B : pM} {I : pIm} {g qt qp qb : Nat} {t : tK} {tp : List Int32} {a : Nat} {b : bB} {K : Int32 → pM → Prop} (hg : gramE B g qt qp qb) (h : gS I g qt qp qb t tp a b) (hK : K (kfT t a) (pset B I)) : pCall_i d mX9_at (0, 0) [.ref (qt + 43), .int (pI (pset B I) g 4)] (pset B I) K := by
  have e : pI (pset B I) g 4 = nI a := h.1
  rw [e]
  refine c_at hd hg.2.2.1.2.2.2.1 h.2.1.2.2.2.1 h.2.1.1 ?_
  rw [rat_nI (by have := h.2.2.2.2.2; omega)]
  exact hK
theorem g_skip {d : Nat} (hd : 2 ≤ d) {B : pM} {I : pIm} {g qt qp qb : Nat} {t : tK} {tp : List Int32} {a : Nat} {b : bB} {k : Int32} {K : Int32 → pM → Prop} (hg : gramE B g qt qp qb) (h : gS I g qt qp qb t tp a b) (hk : kfT t a = k → a < 400)
    (h1 : kfT t a = k → ∀ J, gS J g qt qp qb t tp (a + 1) b → Fr2 g qb I J → K 1 (pset B J)) (h0 : kfT t a ≠ k → K 0 (pset B I)) : pCall_i d mX2_skip (0, 0) [.ref g, .int k] (pset B I) K := by
  refine CP_go (by omega) okX2_skip (Nat.le_of_ble_eq_true rfl) ?_
  refine bX2_skip_0 ⟨hg.1, _, hg.2.1.2.1, hg.1, hg.2.2.1.2.2.2.1.1, g_at (by omega) hg h ⟨fun e => ⟨hg.1, hg.1, _, rfl, ?_⟩, fun e => ⟨_, rfl, h0 e⟩⟩⟩
  have e2 : pI (pset B I) g 4 = nI a := h.1
  rw [psI_set, e2, nI_1]
  obtain ⟨x1, x2⟩ := g_set hg h (hk e)
  exact h1 e _ x1 x2
theorem g_is {d : Nat} (hd : 2 ≤ d) {B : pM} {I : pIm} {g qt qp qb : Nat} {t : tK} {tp : List Int32} {a : Nat} {b : bB} {k : Int32} {K : Int32 → pM → Prop} (hg : gramE B g qt qp qb) (h : gS I g qt qp qb t tp a b) (hK : K (if kfT t a = k then 1 else 0) (pset B I)) : pCall_i d mX2_is (0, 0) [.ref g, .int k] (pset B I) K := by
  refine CP_go (by omega) okX2_is (Nat.le_of_ble_eq_true rfl) ?_
  refine bX2_is_0 ⟨hg.1, _, hg.2.1.2.1, hg.1, hg.2.2.1.2.2.2.1.1, g_at (by omega) hg h ⟨fun e => ⟨_, rfl, ?_⟩, fun e => ⟨_, rfl, ?_⟩⟩⟩
  · rw [if_pos e] at hK; exact hK
  · rw [if_neg e] at hK; exact hK
theorem g_deep {d : Nat} (hd : 2 ≤ d) {B : pM} {I : pIm} {g qt qp qb : Nat} {t : tK} {tp : List Int32} {a dd : Nat} {b : bB} {k : Int32} {P0 : Prop} {Z0 Z1 : pM → Prop} (hg : gramE B g qt qp qb) (h : gS I g qt qp qb t tp a b) (hdd : dd ≤ 8) (hk : kfT t a = k → a < 400)
    (h1 : dd < 8 → kfT t a = k → ∀ J, gS J g qt qp qb t tp (a + 1) b → Fr2 g qb I J → Z1 (pset B J)) (h0 : ¬ (dd < 8 ∧ kfT t a = k) → P0) (h2 : ¬ (dd < 8 ∧ kfT t a = k) → Z0 (pset B I)) : (8 ≤ nI dd → P0) ∧ (¬ 8 ≤ nI dd → pK (pset B I) g = (1, 2) ∧ pCall_i d mX2_skip (0, 0) [.ref g, .int k] (pset B I) (fun v M => (v = 0 → Z0 M) ∧ (¬ v = 0 → Z1 M))) := by
  refine ⟨fun e => h0 (fun z => ?_), fun e => ⟨hg.1, g_skip hd hg h hk (fun e2 J j1 j2 => ⟨fun x => absurd x (by decide), fun _ => h1 ?_ e2 J j1 j2⟩) (fun e2 => ⟨fun _ => h2 (fun z => e2 z.2), fun x => absurd rfl x⟩)⟩⟩
  · have := (nI_leI (a := 8) (b := dd) (by omega) (by omega)).mp e; omega
  · exact Nat.not_le.mp (fun z => e (nI_le (a := 8) z (by omega)))
theorem gP_at {kf nm : Nat → Int32} (hk : kfE kf) : ∀ (n c d a : Nat) (x : gR), gP kf nm n c d a = some x → a ≤ x.2.1 ∧ (a ≤ 400 → x.2.1 ≤ 400) := by
  intro n
  induction n with
  | zero => intro c d a x h; exact nomatch h
  | succ n ih =>
    intro c d a x h
    have two : ∀ {c1 c2 a0 : Nat} {d1 d2 : Nat} {F : Nat → List (Int32 × Int32) → Nat → List (Int32 × Int32) → List (Int32 × Int32)}, a ≤ a0 → (a ≤ 400 → a0 ≤ 400) → (gB (gP kf nm n c1 d1 a0) fun a1 s1 => gB (gP kf nm n c2 d2 a1) fun a2 s2 => some (true, a2, F a1 s1 a2 s2)) = some x → a ≤ x.2.1 ∧ (a ≤ 400 → x.2.1 ≤ 400) := by
      intro c1 c2 a0 d1 d2 F h1 h2 h
      rcases gB_some h with ⟨a1, s1, e, rfl⟩ | ⟨a1, s1, e, h⟩
      · have := ih _ _ _ _ e; dsimp only at *; omega
      · have i1 := ih _ _ _ _ e
        rcases gB_some h with ⟨a2, s2, e, rfl⟩ | ⟨a2, s2, e, h⟩
        · have := ih _ _ _ _ e; dsimp only at *; omega
        · have i2 := ih _ _ _ _ e
          cases Option.some.inj h
          dsimp only at *; omega
    match c, h with
    | 0, h => exact two (Nat.le_refl _) id h
    | 1, h => exact two (Nat.le_refl _) id h
    | 4, h => exact two (Nat.le_refl _) id h
    | 5, h => exact two (Nat.le_refl _) id h
    | 7, h =>
      rw [gP] at h
      split at h
      · rename_i e
        have := hk.lt e (by decide) (by decide) (by decide)
        exact two (a0 := a + 1) (by omega) (by omega) h
      · cases Option.some.inj h; exact ⟨Nat.le_refl _, id⟩
    | 8, h =>
      rw [gP] at h
      split at h
      · rename_i e
        have := hk.lt e (by decide) (by decide) (by decide)
        exact two (a0 := a + 1) (by omega) (by omega) h
      · cases Option.some.inj h; exact ⟨Nat.le_refl _, id⟩
    | 9, h =>
      rw [gP] at h
      split at h
      · rename_i e
        have := e.elim (fun e => hk.lt e (by decide) (by decide) (by decide)) (fun e => hk.lt e (by decide) (by decide) (by decide))
        exact two (a0 := a + 1) (by omega) (by omega) h
      · cases Option.some.inj h; exact ⟨Nat.le_refl _, id⟩
    | 10, h =>
      rw [gP] at h
      split at h
      · rename_i e
        have := e.elim (fun e => hk.lt e (by decide) (by decide) (by decide)) (fun e => hk.lt e (by decide) (by decide) (by decide))
        exact two (a0 := a + 1) (by omega) (by omega) h
      · cases Option.some.inj h; exact ⟨Nat.le_refl _, id⟩
    | 3, h =>
      rw [gP] at h
      rcases gB_some h with ⟨a1, s1, e, rfl⟩ | ⟨a1, s1, e, h⟩
      · have := ih _ _ _ _ e; dsimp only at *; omega
      · have i1 := ih _ _ _ _ e
        split at h
        · rename_i e2
          have := e2.elim (fun e => hk.lt e (by decide) (by decide) (by decide)) (fun e2 => e2.elim (fun e => hk.lt e (by decide) (by decide) (by decide)) (fun e2 => e2.elim (fun e => hk.lt e (by decide) (by decide) (by decide)) (fun e2 => e2.elim (fun e => hk.lt e (by decide) (by decide) (by decide)) (fun e => hk.lt e (by decide) (by decide) (by decide)))))
          rcases gB_some h with ⟨a2, s2, e, rfl⟩ | ⟨a2, s2, e, h⟩
          · have := ih _ _ _ _ e; dsimp only at *; omega
          · have i2 := ih _ _ _ _ e
            cases Option.some.inj h
            dsimp only at *; omega
        · cases Option.some.inj h; dsimp only at *; omega
    | 2, h =>
      rw [gP] at h
      split at h
      · rename_i e
        have := e.elim (fun e => hk.lt e (by decide) (by decide) (by decide)) (fun e => hk.lt e (by decide) (by decide) (by decide))
        split at h
        · rename_i e
          have := hk.lt e (by decide) (by decide) (by decide)
          cases Option.some.inj h; dsimp only at *; omega
        · cases Option.some.inj h; dsimp only at *; omega
      split at h
      · rename_i e
        have := hk.lt e (by decide) (by decide) (by decide)
        split at h
        · rcases gB_some h with ⟨a1, s1, e, rfl⟩ | ⟨a1, s1, e, h⟩
          · have := ih _ _ _ _ e; dsimp only at *; omega
          · have i1 := ih _ _ _ _ e
            cases Option.some.inj h; dsimp only at *; omega
        · cases Option.some.inj h; dsimp only at *; omega
      split at h
      · rename_i e
        have := hk.lt e (by decide) (by decide) (by decide)
        split at h
        · rcases gB_some h with ⟨a1, s1, e, rfl⟩ | ⟨a1, s1, e, h⟩
          · have := ih _ _ _ _ e; dsimp only at *; omega
          · have i1 := ih _ _ _ _ e
            split at h
            · rename_i e
              have := hk.lt e (by decide) (by decide) (by decide)
              cases Option.some.inj h; dsimp only at *; omega
            · cases Option.some.inj h; dsimp only at *; omega
        · cases Option.some.inj h; dsimp only at *; omega
      exact ih _ _ _ _ h
    | 6, h =>
      rw [gP] at h
      split at h
      · rename_i e
        have := hk.lt e (by decide) (by decide) (by decide)
        split at h
        · rename_i e
          have := hk.lt e (by decide) (by decide) (by decide)
          cases Option.some.inj h; dsimp only at *; omega
        · cases Option.some.inj h; dsimp only at *; omega
      split at h
      · rename_i e2
        have := e2.elim (fun e => hk.lt e (by decide) (by decide) (by decide)) (fun e2 => e2.elim (fun e => hk.lt e (by decide) (by decide) (by decide)) (fun e2 => e2.elim (fun e => hk.lt e (by decide) (by decide) (by decide)) (fun e => hk.lt e (by decide) (by decide) (by decide))))
        cases Option.some.inj h; dsimp only at *; omega
      split at h
      · rename_i e
        have := e.elim (fun e => hk.lt e (by decide) (by decide) (by decide)) (fun e => hk.lt e (by decide) (by decide) (by decide))
        split at h
        · rename_i e
          have := hk.lt e.2 (by decide) (by decide) (by decide)
          rcases gB_some h with ⟨a1, s1, e, rfl⟩ | ⟨a1, s1, e, h⟩
          · have := ih _ _ _ _ e; dsimp only at *; omega
          · have i1 := ih _ _ _ _ e
            split at h
            · rename_i e
              have := hk.lt e (by decide) (by decide) (by decide)
              rcases gB_some h with ⟨a2, s2, e, rfl⟩ | ⟨a2, s2, e, h⟩
              · have := ih _ _ _ _ e; dsimp only at *; omega
              · have i2 := ih _ _ _ _ e
                split at h
                · rename_i e
                  have := hk.lt e (by decide) (by decide) (by decide)
                  cases Option.some.inj h; dsimp only at *; omega
                · cases Option.some.inj h; dsimp only at *; omega
            · cases Option.some.inj h; dsimp only at *; omega
        · cases Option.some.inj h; dsimp only at *; omega
      split at h
      · rename_i e
        have := hk.lt e (by decide) (by decide) (by decide)
        cases Option.some.inj h; dsimp only at *; omega
      split at h
      · rename_i e
        have := hk.lt e (by decide) (by decide) (by decide)
        split at h
        · rcases gB_some h with ⟨a1, s1, e, rfl⟩ | ⟨a1, s1, e, h⟩
          · have := ih _ _ _ _ e; dsimp only at *; omega
          · have i1 := ih _ _ _ _ e
            split at h
            · rename_i e
              have := hk.lt e (by decide) (by decide) (by decide)
              cases Option.some.inj h; dsimp only at *; omega
            · cases Option.some.inj h; dsimp only at *; omega
        · cases Option.some.inj h; dsimp only at *; omega
      split at h
      · rename_i e
        have := hk.lt e (by decide) (by decide) (by decide)
        split at h
        · rcases gB_some h with ⟨a1, s1, e, rfl⟩ | ⟨a1, s1, e, h⟩
          · have := ih _ _ _ _ e; dsimp only at *; omega
          · have i1 := ih _ _ _ _ e
            cases Option.some.inj h; dsimp only at *; omega
        · cases Option.some.inj h; dsimp only at *; omega
      cases Option.some.inj h; dsimp only at *; omega
    | (c + 11), h => exact nomatch h
