/-! THE REFERENCE'S CALLS: feed, trim, errorAt, type, back, setLimit -/
theorem modD.tape {I J : pIm} {r td : Nat} {s : wS} {tp : List Int32} (h : modD I r td s) (ht : Tp J r tp) (f : FrT r I J) (hy : td ≠ r ∧ (td < r → td + 11 ≤ r) ∧ (td < r + 1 ∨ r + 1 < td)) : modD J r td (tp, s.2) ∧ Fr r (r + 36) I J := by
  obtain ⟨h1, h2, h3, h4⟩ := h
  obtain ⟨f1, f2⟩ := f
  exact ⟨⟨ht, by rw [f2 3 (by omega)]; exact h2, h3.cg (fun x x1 x2 => f1 x (by omega) (by omega)), h4.cg (fun x hx => f2 x (by omega)) (f1 _ (by omega) (by omega))⟩, fun x hx => f1 x (by omega) (by omega)⟩
theorem m_feed {d : Nat} (hd : 2 ≤ d) {B : pM} {I : pIm} {r td dr : Nat} {cd : String → Int32} {s : wS} {a b c e f : Int32} {K : Int32 → pM → Prop} (hc : cd xISE = 1) (hq : mdS B r td dr) (hl : modD I r td s) (h : modO B I r cd (feedO s a b c e f) K) : pCall_i d mX13_feed (0, 0) [.ref r, .int a, .int b, .int c, .int e, .int f] (pset B I) K := by
  refine CP_go (by omega) okX13_feed (Nat.le_of_ble_eq_true rfl) ?_
  obtain ⟨g1, g2, g3⟩ := hl.th hq (n := 0)
  have hy := hq.lay
  have k0 := g1.1
  have hlen := k0.2.1
  have e0 : pI (psI (pset B I) r 0 0) r 2 = nI s.1.length := k0.1
  have d1 : 1 ≤ d - 1 := by omega
  unfold feedO at h
  refine bX13_feed_0 ⟨hq.1, hq.1, fun g => ⟨hq.1, ?_⟩, fun g => ⟨hq.1, ?_⟩⟩
  · rw [e0] at g
    have hg : s.1.length ≤ 1980 := by
      have g' : nI (s.1.length + 20) ≤ nI 2000 := by rw [← nI_add]; exact g
      have := (nI_leI (by omega) (by omega)).mp g'
      omega
    rw [if_pos hg] at h
    rw [psI_set]
    refine c_mappend d1 hq k0 (by omega) (fun J1 k1 f1 => ⟨hq.1, c_mappend d1 hq k1 (by simp [bt4_len]; omega) (fun J2 k2 f2 => ⟨hq.1, c_mappend d1 hq k2 (by simp [bt4_len]; omega) (fun J3 k3 f3 => ⟨hq.1, c_mappend d1 hq k3 (by simp [bt4_len]; omega) (fun J4 k4 f4 => ⟨hq.1, c_mappend d1 hq k4 (by simp [bt4_len]; omega) (fun J5 k5 f5 => ⟨hq.1, _, rfl, ?_⟩)⟩)⟩)⟩)⟩)
    have F := (((f1.tr f2).tr f3).tr f4).tr f5
    obtain ⟨x1, x2⟩ := g1.tape k5 F (by omega)
    have e5 : (s.1 ++ bt4 a ++ bt4 b ++ bt4 c ++ bt4 e ++ bt4 f).length = s.1.length + 20 := by simp [bt4_len]
    have e6 : pI (pset B J5) r 2 = nI (s.1.length + 20) := by rw [← e5]; exact k5.1
    rw [e6]
    refine mod_stay (B := B) hq x1 (g2.tr x2) ?_ h
    rw [F.2 0 (by omega)]
    exact u2_same
  · rw [e0] at g
    have hg : ¬ s.1.length ≤ 1980 := fun z => g (by
      show nI s.1.length + nI 20 ≤ nI 2000
      rw [nI_add]; exact nI_le (by omega) (by omega))
    rw [if_neg hg] at h
    exact (m_no d1 hq g1 g2 hc.symm h).mono (fun v M1 q => ⟨v, rfl, q⟩)
theorem isInI_t {v a b : Int32} (h1 : ¬ v < a) (h2 : ¬ b < v) : isInI v a b = 1 := by unfold isInI; rw [if_neg h1, if_neg h2]
theorem isInI_f {v a b : Int32} (h : v < a ∨ b < v) : isInI v a b = 0 := by
  unfold isInI
  split
  · rfl
  · rw [if_pos (h.resolve_left ‹_›)]
theorem m_trim {d : Nat} (hd : 2 ≤ d) {B : pM} {I : pIm} {r td dr : Nat} {cd : String → Int32} {s : wS} {n : Int32} {K : Int32 → pM → Prop} (hc : cd xIAE = 1) (hq : mdS B r td dr) (hl : modD I r td s) (h : modO B I r cd (trimO s n) K) : pCall_i d mX13_trim (0, 0) [.ref r, .int n] (pset B I) K := by
  refine CP_go (by omega) okX13_trim (Nat.le_of_ble_eq_true rfl) ?_
  obtain ⟨g1, g2, g3⟩ := hl.th hq (n := 0)
  have hy := hq.lay
  have k0 := g1.1
  have hlen := k0.2.1
  have e0 : pI (psI (pset B I) r 0 0) r 2 = nI s.1.length := k0.1
  have d1 : 1 ≤ d - 1 := by omega
  have no : ∀ {x : wS}, modO B I r cd (.inr xIAE, x) K → x = s → pCall_i (d - 1) mX13_no (0, 0) [.ref r, .int 1] (pset B (u2 I r 0 0)) (fun v M1 => ∃ w, (Sum.inl (some (.int v)) : pR) = .inl (some (.int w)) ∧ K w M1) := fun hx ex => by
    subst ex
    exact (m_no d1 hq g1 g2 hc.symm hx).mono (fun v M1 q => ⟨v, rfl, q⟩)
  unfold trimO at h
  refine bX13_trim_0 ⟨hq.1, hq.1, c_misIn d1 ?_⟩
  rw [e0]
  by_cases c1 : n < 0
  · rw [if_pos c1] at h
    rw [isInI_f (Or.inl c1)]
    exact ⟨fun _ => ⟨hq.1, no h rfl⟩, fun z => absurd rfl z⟩
  rw [if_neg c1] at h
  by_cases c2 : n ≤ nI s.1.length
  · rw [if_pos c2] at h
    rw [isInI_t c1 (Int32.not_lt.mpr c2)]
    refine ⟨fun z => absurd z (by decide), fun _ => ⟨hq.1, _, rfl, ?_⟩⟩
    obtain ⟨k, hk, rfl⟩ := nI_of c1
    rw [nI_clamp hk] at h
    have hk2 : k ≤ s.1.length := (nI_leI hk (by omega)).mp c2
    have e1 : (s.1.take k).length = k := by rw [List.length_take]; omega
    rw [psI_set, psI_set]
    have F : FrT r (u2 I r 0 0) (u2 (u2 I r 0 0) r 2 (nI k)) := ⟨fun y h1 h2 => u2_a h1, fun f hf => u2_j hf⟩
    obtain ⟨x1, x2⟩ := g1.tape (tp := s.1.take k) ⟨by rw [e1]; exact u2_same, by omega, fun j x hx => by
      rw [u2_a (by omega)]
      refine k0.2.2 j x ?_
      rw [List.getElem?_take] at hx
      split at hx
      · exact hx
      · exact nomatch hx⟩ F (by omega)
    refine mod_stay (B := B) hq x1 (g2.tr x2) ?_ h
    rw [u2_j (by decide)]
    exact u2_same
  · rw [if_neg c2] at h
    rw [isInI_f (Or.inr (Int32.not_le.mp c2))]
    exact ⟨fun _ => ⟨hq.1, no h rfl⟩, fun z => absurd rfl z⟩
theorem m_errorAt {d : Nat} (hd : 1 ≤ d) {B : pM} {I : pIm} {r td dr : Nat} {cd : String → Int32} {s : wS} {K : Int32 → pM → Prop} (hq : mdS B r td dr) (hl : modD I r td s) (h : modO B I r cd (rI s.2.1, s) K) : pCall_i d mX13_errorAt (0, 0) [.ref r] (pset B I) K := by
  refine CP_go (by omega) okX13_errorAt (Nat.le_of_ble_eq_true rfl) ?_
  obtain ⟨g1, g2, g3⟩ := hl.th hq (n := 0)
  have e : pI (psI (pset B I) r 0 0) r 3 = s.2.1 := g1.2.1
  exact bX13_errorAt_0 ⟨hq.1, hq.1, _, rfl, by rw [e]; exact mod_stay (B := B) hq g1 g2 u2_same h⟩
/-- the hand alone has changed -/
theorem modD.hand {I J : pIm} {r td : Nat} {s : wS} {x : List Int32 × Int32 × Int32 × Int32} (h : modD I r td s) (hy : (td = r + 6 ∨ td = r + 17)) (f : ∀ y, y ≠ r → y ≠ r + 30 → J y = I y) (f2 : J r 2 = I r 2) (f3 : J r 3 = I r 3) (k : mhD J r x) : modD J r td (s.1, s.2.1, s.2.2.1, x) ∧ Fr r (r + 36) I J := by
  obtain ⟨h1, h2, h3, h4⟩ := h
  exact ⟨⟨h1.cg f2 (f _ (by omega) (by omega)), f3.trans h2, h3.cg (fun y y1 y2 => f y (by omega) (by omega)), k⟩, fun y hy => f y (by omega) (by omega)⟩
theorem Ar.push {f : Nat → Int32} {l : List Int32} {v : Int32} (h : Ar f l) (g : Nat → Int32) (hg : ∀ j, j < l.length → g j = f j) (hv : g l.length = v) : Ar g (l ++ [v]) := fun j x hx => by
  by_cases e : j < l.length
  · rw [List.getElem?_append_left e] at hx
    rw [hg j e]
    exact h j x hx
  · have hj : j = l.length := by
      have := (List.getElem?_eq_some_iff.mp hx).1
      simp at this
      omega
    subst hj
    rw [List.getElem?_append_right (Nat.le_refl _), Nat.sub_self] at hx
    rw [hv]
    exact Option.some.inj hx
theorem m_type {d : Nat} (hd : 2 ≤ d) {B : pM} {I : pIm} {r td dr : Nat} {cd : String → Int32} {s : wS} {n : Int32} {K : Int32 → pM → Prop} (hc : cd xIAE = 1) (hc2 : cd xISE = 2) (hq : mdS B r td dr) (hl : modD I r td s) (h : modO B I r cd (typeO s n) K) : pCall_i d mX13_type (0, 0) [.ref r, .int n] (pset B I) K := by
  refine CP_go (by omega) okX13_type (Nat.le_of_ble_eq_true rfl) ?_
  obtain ⟨g1, g2, g3⟩ := hl.th hq (n := 0)
  have hy := hq.lay
  obtain ⟨k1, k2, k3, k4, k5, k6⟩ := id g1.2.2.2
  have e0 : pI (psI (pset B I) r 0 0) r 18 = nI s.2.2.2.1.length := k1
  have d1 : 1 ≤ d - 1 := by omega
  have p17 := hq.2.2.1.2.2.1
  have K30 := hq.2.2.2.1.2.2.2.2.2.2.2.1
  unfold typeO at h
  have el : isInI n 97 122 = isLt n := rfl
  refine bX13_type_0 ⟨hq.1, c_misIn d1 ?_⟩
  rw [el]
  refine ⟨fun g => ⟨hq.1, ?_⟩, fun g => ⟨hq.1, fun g2' => ⟨hq.1, ?_⟩, fun g2' => ?_⟩⟩
  · rw [if_pos g] at h
    exact (m_no d1 hq g1 g2 hc.symm h).mono (fun v M1 q => ⟨v, rfl, q⟩)
  · rw [e0] at g2'
    have := (nI_eq (b := 20) (by omega) (by omega)).mp g2'
    rw [if_neg g, if_neg (by omega)] at h
    exact (m_no d1 hq g1 g2 hc2.symm h).mono (fun v M1 q => ⟨v, rfl, q⟩)
  · rw [e0] at g2'
    have hlt : s.2.2.2.1.length < 20 := by
      have : s.2.2.2.1.length ≠ 20 := fun z => g2' (by rw [z]; rfl)
      have k2' : s.2.2.2.1.length ≤ 20 := k2
      omega
    rw [if_neg g, if_pos hlt] at h
    refine ⟨hq.1, r + 30, p17, hq.1, 20, K30, by rw [e0]; exact vp_in_nI hlt (by omega), hq.1, hq.1, hq.1, ?_⟩
    rw [e0, nI_clamp (by omega)]
    have e1 : pI (psI (psI (pset B I) r 0 0) (r + 30) s.2.2.2.1.length n) r 18 = nI s.2.2.2.1.length := by
      show u2 (u2 I r 0 0) (r + 30) _ n r 18 = _
      rw [u2_a (by omega)]; exact k1
    rw [e1, nI_1, psI_set, psI_set, psI_set]
    have e2 : pI (pset B (u2 (u2 (u2 I r 0 0) (r + 30) s.2.2.2.1.length n) r 18 (nI (s.2.2.2.1.length + 1)))) r 18 = nI (s.2.2.2.1.length + 1) := u2_same
    rw [e2]
    have kA : Ar (u2 (u2 (u2 I r 0 0) (r + 30) s.2.2.2.1.length n) r 18 (nI (s.2.2.2.1.length + 1)) (r + 30)) (s.2.2.2.1 ++ [n]) := by
      rw [u2_a (by omega)]
      exact k3.push _ (fun j hj => u2_j (by omega)) u2_same
    obtain ⟨x1, x2⟩ := g1.hand (J := u2 (u2 (u2 I r 0 0) (r + 30) s.2.2.2.1.length n) r 18 (nI (s.2.2.2.1.length + 1))) (x := (s.2.2.2.1 ++ [n], s.2.2.2.2)) (by omega) (fun y y1 y2 => by rw [u2_a y1, u2_a y2]) (by rw [u2_j (by decide), u2_a (by omega)]) (by rw [u2_j (by decide), u2_a (by omega)]) ⟨by rw [List.length_append]; exact u2_same, by rw [List.length_append]; exact hlt, kA, by rw [u2_j (by decide), u2_a (by omega)]; exact k4, by rw [u2_j (by decide), u2_a (by omega)]; exact k5, by rw [u2_j (by decide), u2_a (by omega)]; exact k6⟩
    refine ⟨_, rfl, mod_stay (B := B) hq x1 (g2.tr x2) ?_ h⟩
    rw [u2_j (by decide), u2_a (by omega)]
    exact u2_same
theorem m_back {d : Nat} (hd : 2 ≤ d) {B : pM} {I : pIm} {r td dr : Nat} {cd : String → Int32} {s : wS} {K : Int32 → pM → Prop} (hc : cd xISE = 1) (hq : mdS B r td dr) (hl : modD I r td s) (h : modO B I r cd (backO s) K) : pCall_i d mX13_back (0, 0) [.ref r] (pset B I) K := by
  refine CP_go (by omega) okX13_back (Nat.le_of_ble_eq_true rfl) ?_
  obtain ⟨g1, g2, g3⟩ := hl.th hq (n := 0)
  have hy := hq.lay
  obtain ⟨k1, k2, k3, k4, k5, k6⟩ := id g1.2.2.2
  have k2' : s.2.2.2.1.length ≤ 20 := k2
  have e0 : pI (psI (pset B I) r 0 0) r 18 = nI s.2.2.2.1.length := k1
  have d1 : 1 ≤ d - 1 := by omega
  have p17 := hq.2.2.1.2.2.1
  have K30 := hq.2.2.2.1.2.2.2.2.2.2.2.1
  unfold backO at h
  refine bX13_back_0 ⟨hq.1, hq.1, fun g => ⟨hq.1, ?_⟩, fun g => ?_⟩
  · rw [e0] at g
    rw [if_pos ((nI_eq (b := 0) (by omega) (by omega)).mp g)] at h
    exact (m_no d1 hq g1 g2 hc.symm h).mono (fun v M1 q => ⟨v, rfl, q⟩)
  · rw [e0] at g
    have hne : s.2.2.2.1.length ≠ 0 := fun z => g (by rw [z]; rfl)
    rw [if_neg hne] at h
    rw [e0]
    have en : nI s.2.2.2.1.length - 1 = nI (s.2.2.2.1.length - 1) := nI_sub (b := 1) (by omega)
    rw [en, psI_set, psI_set]
    have e2 : pI (pset B (u2 (u2 I r 0 0) r 18 (nI (s.2.2.2.1.length - 1)))) r 18 = nI (s.2.2.2.1.length - 1) := u2_same
    rw [e2]
    refine ⟨hq.1, hq.1, hq.1, r + 30, p17, hq.1, 20, K30, vp_in_nI (by omega) (by omega), ?_⟩
    rw [nI_clamp (by omega)]
    have el : (s.2.2.2.1.dropLast).length = s.2.2.2.1.length - 1 := List.length_dropLast
    have e3 : pI (pset B (u2 (u2 I r 0 0) r 18 (nI (s.2.2.2.1.length - 1)))) (r + 30) (s.2.2.2.1.length - 1) = s.2.2.2.1.getLastD 0 := by
      show u2 (u2 I r 0 0) r 18 _ (r + 30) _ = _
      rw [u2_a (by omega)]
      refine k3 _ _ ?_
      have hn : s.2.2.2.1 ≠ [] := fun z => hne (by rw [z]; rfl)
      rw [List.getLastD_eq_getLast?, List.getLast?_eq_getElem?, List.getElem?_eq_getElem (by omega)]
      rfl
    rw [e3]
    have kA : Ar (u2 (u2 I r 0 0) r 18 (nI (s.2.2.2.1.length - 1)) (r + 30)) s.2.2.2.1.dropLast := by
      rw [u2_a (by omega)]
      intro j x hx
      refine k3 j x ?_
      rw [List.getElem?_dropLast] at hx
      split at hx
      · exact hx
      · exact nomatch hx
    obtain ⟨x1, x2⟩ := g1.hand (J := u2 (u2 I r 0 0) r 18 (nI (s.2.2.2.1.length - 1))) (x := (s.2.2.2.1.dropLast, s.2.2.2.2)) (by omega) (fun y y1 y2 => by rw [u2_a y1]) (by rw [u2_j (by decide)]) (by rw [u2_j (by decide)]) ⟨by rw [el]; exact u2_same, by rw [el]; omega, kA, by rw [u2_j (by decide)]; exact k4, by rw [u2_j (by decide)]; exact k5, by rw [u2_j (by decide)]; exact k6⟩
    refine ⟨_, rfl, mod_stay (B := B) hq x1 (g2.tr x2) ?_ h⟩
    rw [u2_j (by decide)]
    exact u2_same
theorem m_setLimit {d : Nat} (hd : 2 ≤ d) {B : pM} {I : pIm} {r td dr : Nat} {cd : String → Int32} {s : wS} {n : Int32} {K : Int32 → pM → Prop} (hc : cd xIAE = 1) (hq : mdS B r td dr) (hl : modD I r td s) (h : modO B I r cd (limO s n) K) : pCall_i d mX13_setLimit (0, 0) [.ref r, .int n] (pset B I) K := by
  refine CP_go (by omega) okX13_setLimit (Nat.le_of_ble_eq_true rfl) ?_
  obtain ⟨g1, g2, g3⟩ := hl.th hq (n := 0)
  have hy := hq.lay
  obtain ⟨k1, k2, k3, k4, k5, k6⟩ := id g1.2.2.2
  have d1 : 1 ≤ d - 1 := by omega
  unfold limO at h
  refine bX13_setLimit_0 ⟨hq.1, c_misIn d1 ?_⟩
  by_cases c1 : n < 0
  · rw [if_pos c1] at h
    rw [isInI_f (Or.inl c1)]
    exact ⟨fun _ => ⟨hq.1, (m_no d1 hq g1 g2 hc.symm h).mono (fun v M1 q => ⟨v, rfl, q⟩)⟩, fun z => absurd rfl z⟩
  rw [if_neg c1] at h
  by_cases c2 : n ≤ 9
  · rw [if_pos c2] at h
    rw [isInI_t c1 (Int32.not_lt.mpr c2)]
    have e : pI (psI (pset B I) r 0 0) r 21 = s.2.2.2.2.2.2 := k6
    refine ⟨fun z => absurd z (by decide), fun _ => ⟨hq.1, hq.1, _, rfl, ?_⟩⟩
    rw [e, psI_set, psI_set]
    obtain ⟨x1, x2⟩ := g1.hand (J := u2 (u2 I r 0 0) r 21 n) (x := (s.2.2.2.1, s.2.2.2.2.1, s.2.2.2.2.2.1, n)) (by omega) (fun y y1 y2 => by rw [u2_a y1]) (by rw [u2_j (by decide)]) (by rw [u2_j (by decide)]) ⟨by rw [u2_j (by decide)]; exact k1, k2, by rw [u2_a (by omega)]; exact k3, by rw [u2_j (by decide)]; exact k4, by rw [u2_j (by decide)]; exact k5, u2_same⟩
    refine mod_stay (B := B) hq x1 (g2.tr x2) ?_ h
    rw [u2_j (by decide)]
    exact u2_same
  · rw [if_neg c2] at h
    rw [isInI_f (Or.inr (Int32.not_le.mp c2))]
    exact ⟨fun _ => ⟨hq.1, (m_no d1 hq g1 g2 hc.symm h).mono (fun v M1 q => ⟨v, rfl, q⟩)⟩, fun z => absurd rfl z⟩
