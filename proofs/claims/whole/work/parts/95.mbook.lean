/-! THE REFERENCE: what a reading's steps name -/
/-- steps read from token a to token b -/
def stP (kf : Nat → Int32) (a b : Nat) (s : List (Int32 × Int32)) : Prop := a ≤ b ∧ s.length + a ≤ b ∧ ∀ x ∈ s, (x.1 = 2 ∨ x.1 = 12 ∨ x.1 = 13) → ∃ i, a ≤ i ∧ i + 1 < b ∧ x.2 = nI (i + 1) ∧ kf i = x.1 ∧ kf (i + 1) = 20
theorem stP.nil {kf : Nat → Int32} {a b : Nat} (h : a ≤ b) : stP kf a b [] := ⟨h, by simpa using h, fun x hx => absurd hx (by simp)⟩
theorem stP.mono {kf : Nat → Int32} {a b a' b' : Nat} {s : List (Int32 × Int32)} (h : stP kf a b s) (h1 : a' ≤ a) (h2 : b ≤ b') : stP kf a' b' s := by
  obtain ⟨q1, q2, q3⟩ := h
  refine ⟨by omega, by omega, fun x hx hk => ?_⟩
  obtain ⟨i, e1, e2, e⟩ := q3 x hx hk
  exact ⟨i, by omega, by omega, e⟩
theorem stP.app {kf : Nat → Int32} {a b c : Nat} {s u : List (Int32 × Int32)} (h : stP kf a b s) (g : stP kf b c u) : stP kf a c (s ++ u) := by
  obtain ⟨q1, q2, q3⟩ := h
  obtain ⟨p1, p2, p3⟩ := g
  refine ⟨by omega, by rw [List.length_append]; omega, fun x hx hk => ?_⟩
  rcases List.mem_append.mp hx with y | y
  · obtain ⟨i, e1, e2, e⟩ := q3 x y hk
    exact ⟨i, by omega, by omega, e⟩
  · obtain ⟨i, e1, e2, e⟩ := p3 x y hk
    exact ⟨i, by omega, by omega, e⟩
theorem stP.one {kf : Nat → Int32} {a : Nat} {k v : Int32} (h : ¬ (k = 2 ∨ k = 12 ∨ k = 13)) : stP kf a (a + 1) [(k, v)] := by
  refine ⟨by omega, by simp; omega, fun x hx hk => ?_⟩
  rw [List.mem_singleton.mp hx] at hk
  exact absurd hk h
theorem stP.name {kf : Nat → Int32} {a : Nat} (h : kf (a + 1) = 20) : stP kf a (a + 2) [(kf a, nI (a + 1))] := by
  refine ⟨by omega, by simp; omega, fun x hx _ => ?_⟩
  rw [List.mem_singleton.mp hx]
  exact ⟨a, by omega, by omega, rfl, rfl, h⟩
/-- a step in the middle, its token in front -/
theorem stP.mid {kf : Nat → Int32} {a b c : Nat} {s u : List (Int32 × Int32)} {k v : Int32} (h : stP kf (a + 1) b s) (g : stP kf b c u) (hk : ¬ (k = 2 ∨ k = 12 ∨ k = 13)) : stP kf a c (s ++ (k, v) :: u) := by
  obtain ⟨q1, q2, q3⟩ := h
  obtain ⟨p1, p2, p3⟩ := g
  refine ⟨by omega, by rw [List.length_append, List.length_cons]; omega, fun x hx hx2 => ?_⟩
  rcases List.mem_append.mp hx with y | y
  · obtain ⟨i, e1, e2, e⟩ := q3 x y hx2
    exact ⟨i, by omega, by omega, e⟩
  · rcases List.mem_cons.mp y with y | y
    · rw [y] at hx2
      exact absurd hx2 hk
    · obtain ⟨i, e1, e2, e⟩ := p3 x y hx2
      exact ⟨i, by omega, by omega, e⟩
theorem gP_st {kf nm : Nat → Int32} : ∀ (n c d a b : Nat) (s : List (Int32 × Int32)), gP kf nm n c d a = some (true, b, s) → stP kf a b s := by
  intro n
  induction n with
  | zero => intro c d a b s h; exact nomatch h
  | succ n ih =>
    intro c d a b s h
    have two : ∀ {c1 c2 : Nat}, (gB (gP kf nm n c1 d a) fun a1 s1 => gB (gP kf nm n c2 d a1) fun a2 s2 => some (true, a2, s1 ++ s2)) = some (true, b, s) → stP kf a b s := by
      intro c1 c2 h
      rcases gB_some h with ⟨a1, s1, e, hx⟩ | ⟨a1, s1, e, h⟩
      · exact nomatch hx
      · rcases gB_some h with ⟨a2, s2, e2, hx⟩ | ⟨a2, s2, e2, h⟩
        · exact nomatch hx
        · cases Option.some.inj h
          exact (ih _ _ _ _ _ e).app (ih _ _ _ _ _ e2)
    have tail : ∀ {c1 c2 : Nat} {k : Int32}, ¬ (k = 2 ∨ k = 12 ∨ k = 13) → (gB (gP kf nm n c1 d (a + 1)) fun a1 s1 => gB (gP kf nm n c2 d a1) fun a2 s2 => some (true, a2, s1 ++ (k, 0) :: s2)) = some (true, b, s) → stP kf a b s := by
      intro c1 c2 k hk h
      rcases gB_some h with ⟨a1, s1, e, hx⟩ | ⟨a1, s1, e, h⟩
      · exact nomatch hx
      · rcases gB_some h with ⟨a2, s2, e2, hx⟩ | ⟨a2, s2, e2, h⟩
        · exact nomatch hx
        · cases Option.some.inj h
          exact (ih _ _ _ _ _ e).mid (ih _ _ _ _ _ e2) hk
    match c, h with
    | 0, h => exact two h
    | 1, h => exact two h
    | 4, h => exact two h
    | 5, h => exact two h
    | 7, h =>
      rw [gP] at h
      split at h
      · exact tail (by decide) h
      · cases Option.some.inj h; exact stP.nil (Nat.le_refl _)
    | 8, h =>
      rw [gP] at h
      split at h
      · exact tail (by decide) h
      · cases Option.some.inj h; exact stP.nil (Nat.le_refl _)
    | 9, h =>
      rw [gP] at h
      split at h
      · rename_i e
        exact tail (by rcases e with e | e <;> rw [e] <;> decide) h
      · cases Option.some.inj h; exact stP.nil (Nat.le_refl _)
    | 10, h =>
      rw [gP] at h
      split at h
      · rename_i e
        exact tail (by rcases e with e | e <;> rw [e] <;> decide) h
      · cases Option.some.inj h; exact stP.nil (Nat.le_refl _)
    | 3, h =>
      rw [gP] at h
      rcases gB_some h with ⟨a1, s1, e, hx⟩ | ⟨a1, s1, e, h⟩
      · exact nomatch hx
      · split at h
        · rename_i ek
          rcases gB_some h with ⟨a2, s2, e2, hx⟩ | ⟨a2, s2, e2, h⟩
          · exact nomatch hx
          · cases Option.some.inj h
            exact (ih _ _ _ _ _ e).app ((ih _ _ _ _ _ e2).mid (stP.nil (Nat.le_refl _)) (by rcases ek with e | e | e | e | e <;> rw [e] <;> decide))
        · exact nomatch h
    | 2, h =>
      rw [gP] at h
      split at h
      · split at h
        · rename_i e
          cases Option.some.inj h
          exact stP.name e
        · exact nomatch h
      split at h
      · split at h
        · rcases gB_some h with ⟨a1, s1, e, hx⟩ | ⟨a1, s1, e, h⟩
          · exact nomatch hx
          · cases Option.some.inj h
            exact (ih _ _ _ _ _ e).mid (stP.nil (Nat.le_refl _)) (by decide)
        · exact nomatch h
      split at h
      · split at h
        · rcases gB_some h with ⟨a1, s1, e, hx⟩ | ⟨a1, s1, e, h⟩
          · exact nomatch hx
          · split at h
            · cases Option.some.inj h
              exact (ih _ _ _ _ _ e).mono (by omega) (by omega)
            · exact nomatch h
        · exact nomatch h
      exact ih _ _ _ _ _ h
    | 6, h =>
      rw [gP] at h
      split at h
      · split at h
        · rename_i e
          cases Option.some.inj h
          exact stP.name e
        · exact nomatch h
      split at h
      · rename_i e
        cases Option.some.inj h
        exact stP.one (by rcases e with e | e | e | e <;> rw [e] <;> decide)
      split at h
      · rename_i ek
        split at h
        · rcases gB_some h with ⟨a1, s1, e, hx⟩ | ⟨a1, s1, e, h⟩
          · exact nomatch hx
          · split at h
            · rcases gB_some h with ⟨a2, s2, e2, hx⟩ | ⟨a2, s2, e2, h⟩
              · exact nomatch hx
              · split at h
                · cases Option.some.inj h
                  exact ((ih _ _ _ _ _ e).app ((ih _ _ _ _ _ e2).mid (stP.nil (Nat.le_refl _)) (by rcases ek with e | e <;> rw [e] <;> decide))).mono (by omega) (by omega)
                · exact nomatch h
            · exact nomatch h
        · exact nomatch h
      split at h
      · cases Option.some.inj h
        exact stP.one (by decide)
      split at h
      · split at h
        · rcases gB_some h with ⟨a1, s1, e, hx⟩ | ⟨a1, s1, e, h⟩
          · exact nomatch hx
          · split at h
            · cases Option.some.inj h
              exact (ih _ _ _ _ _ e).mono (by omega) (by omega)
            · exact nomatch h
        · exact nomatch h
      split at h
      · split at h
        · rcases gB_some h with ⟨a1, s1, e, hx⟩ | ⟨a1, s1, e, h⟩
          · exact nomatch hx
          · cases Option.some.inj h
            exact (ih _ _ _ _ _ e).mid (stP.nil (Nat.le_refl _)) (by decide)
        · exact nomatch h
      · exact nomatch h
    | c + 11, h => exact nomatch h
theorem flatL_one {x : List (Int32 × Int32) × List (Int32 × Int32)} : flatL [x] = x.1 ++ x.2 := by
  unfold flatL
  simp
theorem gRows_nil {kf : Nat → Int32} : ∀ (n a b : Nat) (l : List (List (Int32 × Int32) × List (Int32 × Int32))), gRows kf n a = some (true, b, l) → l = [] := by
  intro n
  induction n with
  | zero => intro a b l h; exact nomatch h
  | succ n ih =>
    intro a b l h
    rw [gRows] at h
    split at h
    · split at h
      · exact ih _ _ _ h
      · exact nomatch h
    · cases Option.some.inj h; rfl
theorem gLn_st {kf nm : Nat → Int32} {m0 : Nat} (hk : kfM kf m0) {n a b : Nat} {l : List (List (Int32 × Int32) × List (Int32 × Int32))} (h : gLn kf nm n a = some (true, b, l)) : stP kf a b (flatL l) := by
  have hm := (gLn_m hk h).1
  have nl : l = [] → stP kf a b (flatL l) := fun e => by rw [e]; exact stP.nil hm
  unfold gLn at h
  split at h
  · unfold gTag at h
    split at h
    · cases Option.some.inj h; exact nl rfl
    · exact nomatch h
  split at h
  · unfold gWord at h
    split at h
    · split at h
      · split at h
        · split at h
          · split at h
            · cases Option.some.inj h; exact nl rfl
            · exact nomatch h
          · cases Option.some.inj h; exact nl rfl
        · exact nomatch h
      · exact nomatch h
    · exact nomatch h
  split at h
  · unfold gKeys at h
    split at h
    · exact nl (gRows_nil _ _ _ _ h)
    · exact nomatch h
  · unfold gBoost at h
    split at h
    · split at h
      · split at h
        · rcases gFst_some h with ⟨a1, s1, e, hx⟩ | ⟨a1, s1, e, h⟩
          · exact nomatch hx
          · split at h
            · rcases gFst_some h with ⟨a2, s2, e2, hx⟩ | ⟨a2, s2, e2, h⟩
              · exact nomatch hx
              · cases Option.some.inj h
                rw [flatL_one]
                exact (((gP_st _ _ _ _ _ _ e).mono (show a ≤ a + 3 by omega) (show a1 ≤ a1 + 1 by omega)).app (gP_st _ _ _ _ _ _ e2))
            · exact nomatch h
        · exact nomatch h
      · exact nomatch h
    · exact nomatch h
theorem gRd_st {kf nm : Nat → Int32} {m0 : Nat} (hk : kfM kf m0) : ∀ (n a b : Nat) (l : List (List (Int32 × Int32) × List (Int32 × Int32))), gRd kf nm n a = some (true, b, l) → stP kf a b (flatL l) ∧ kf b = 24 := by
  intro n
  induction n with
  | zero => intro a b l h; exact nomatch h
  | succ n ih =>
    intro a b l h
    rw [gRd] at h
    split at h
    · rename_i e
      cases Option.some.inj h
      exact ⟨stP.nil (Nat.le_refl _), e⟩
    · rcases gBL_some h with ⟨a1, s1, e, hx⟩ | ⟨a1, s1, e, h⟩
      · exact nomatch hx
      · split at h
        · rcases gBL_some h with ⟨a2, s2, e2, hx⟩ | ⟨a2, s2, e2, h⟩
          · exact nomatch hx
          · cases Option.some.inj h
            have i2 := ih _ _ _ e2
            rw [flatL_app]
            exact ⟨((gLn_st hk e).mono (Nat.le_refl _) (Nat.le_succ _)).app i2.1, i2.2⟩
        · exact nomatch h
/-- steps into a book -/
theorem stB_eq : ∀ {s : List (Int32 × Int32)} {b : bB}, b.2.2.2.2.1.length + s.length ≤ 400 → b.2.2.2.2.2.1.length + s.length ≤ 400 → stB b s = (b.1, b.2.1, b.2.2.1, b.2.2.2.1, b.2.2.2.2.1 ++ s.map Prod.fst, b.2.2.2.2.2.1 ++ s.map Prod.snd, b.2.2.2.2.2.2) := by
  intro s
  induction s with
  | nil => intro b _ _; simp [stB]
  | cons x s ih =>
    intro b h1 h2
    rw [List.length_cons] at h1 h2
    rw [stB_one, pushL_lt (by omega), pushL_lt (by omega), ih (by simp; omega) (by simp; omega)]
    simp
theorem bBs_step {S P E K V : List Int32} {x : List (Int32 × Int32) × List (Int32 × Int32)} (hS : S.length < 12) (hP : P.length < 12) (hE : E.length < 12) (hK : K.length + x.1.length + x.2.length ≤ 400) (hV : V.length + x.1.length + x.2.length ≤ 400) : bSE (stB (bST (stB (bSS ([], S, P, E, K, V, [])) x.1)) x.2) = ([], S ++ [nI K.length], P ++ [nI (K.length + x.1.length)], E ++ [nI (K.length + x.1.length + x.2.length)], K ++ x.1.map Prod.fst ++ x.2.map Prod.fst, V ++ x.1.map Prod.snd ++ x.2.map Prod.snd, []) := by
  have e1 : stB (bSS ([], S, P, E, K, V, [])) x.1 = ([], S ++ [nI K.length], P, E, K ++ x.1.map Prod.fst, V ++ x.1.map Prod.snd, []) := by
    have e : bSS ([], S, P, E, K, V, []) = ([], S ++ [nI K.length], P, E, K, V, []) := by
      unfold bSS
      simp only [pushL_lt hS]
    rw [e, stB_eq (show K.length + x.1.length ≤ 400 by omega) (show V.length + x.1.length ≤ 400 by omega)]
  have l1 : (K ++ x.1.map Prod.fst).length = K.length + x.1.length := by rw [List.length_append, List.length_map]
  have l2 : (V ++ x.1.map Prod.snd).length = V.length + x.1.length := by rw [List.length_append, List.length_map]
  have e2 : stB (bST (stB (bSS ([], S, P, E, K, V, [])) x.1)) x.2 = ([], S ++ [nI K.length], P ++ [nI (K.length + x.1.length)], E, K ++ x.1.map Prod.fst ++ x.2.map Prod.fst, V ++ x.1.map Prod.snd ++ x.2.map Prod.snd, []) := by
    have e : bST (stB (bSS ([], S, P, E, K, V, [])) x.1) = ([], S ++ [nI K.length], P ++ [nI (K.length + x.1.length)], E, K ++ x.1.map Prod.fst, V ++ x.1.map Prod.snd, []) := by
      rw [e1]
      unfold bST
      simp only [pushL_lt hP, l1]
    rw [e, stB_eq (show (K ++ x.1.map Prod.fst).length + x.2.length ≤ 400 by omega) (show (V ++ x.1.map Prod.snd).length + x.2.length ≤ 400 by omega)]
  have l3 : (K ++ x.1.map Prod.fst ++ x.2.map Prod.fst).length = K.length + x.1.length + x.2.length := by rw [List.length_append, l1, List.length_map]
  rw [e2]
  unfold bSE
  simp only [pushL_lt hE, l3]
theorem bBs_eq {l : List (List (Int32 × Int32) × List (Int32 × Int32))} (h12 : l.length ≤ 12) (h400 : (flatL l).length ≤ 400) : ∀ i, i ≤ l.length → bBs ([], [], [], [], [], [], []) (l.take i) = ([], (List.range i).map (fun j => nI (flatL (l.take j)).length), (List.range i).map (fun j => nI ((flatL (l.take j)).length + (l.getD j ([], [])).1.length)), (List.range i).map (fun j => nI ((flatL (l.take j)).length + (l.getD j ([], [])).1.length + (l.getD j ([], [])).2.length)), (flatL (l.take i)).map Prod.fst, (flatL (l.take i)).map Prod.snd, []) := by
  intro i
  induction i with
  | zero => intro _; simp [bBs, flatL]
  | succ i ih =>
    intro hi
    have hlt : i < l.length := by omega
    have et : l.take (i + 1) = l.take i ++ [l[i]] := by rw [List.take_succ, List.getElem?_eq_getElem hlt]; rfl
    have eg : l.getD i ([], []) = l[i] := by rw [List.getD_eq_getElem?_getD, List.getElem?_eq_getElem hlt]; rfl
    have hfl : (flatL (l.take (i + 1))).length ≤ 400 := by
      have e : flatL l = flatL (l.take (i + 1)) ++ flatL (l.drop (i + 1)) := by rw [← flatL_app, List.take_append_drop]
      rw [e, List.length_append] at h400
      omega
    rw [et, flatL_app, flatL_one, List.length_append, List.length_append] at hfl
    have ef : flatL (l.take (i + 1)) = flatL (l.take i) ++ (l[i].1 ++ l[i].2) := by rw [et, flatL_app, flatL_one]
    have e1 : bBs ([], [], [], [], [], [], []) (l.take (i + 1)) = bSE (stB (bST (stB (bSS (bBs ([], [], [], [], [], [], []) (l.take i))) l[i].1)) l[i].2) := by rw [et, bBs_app]; rfl
    rw [e1, ih (by omega), bBs_step (by rw [List.length_map, List.length_range]; omega) (by rw [List.length_map, List.length_range]; omega) (by rw [List.length_map, List.length_range]; omega) (by rw [List.length_map]; omega) (by rw [List.length_map]; omega), ef, List.range_succ, List.length_map]
    simp only [List.map_append, List.map_cons, List.map_nil, eg, List.append_assoc]
