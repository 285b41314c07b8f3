/-! WHAT THE LAW ASKS, ANSWERED -/
abbrev rkB (sc : Nat → Int32) (n : Nat) (wt ty : List Int32) (tk la : Int32) (l : Nat) : rK := rkO (BKs sc n wt) ty tk la (nI l)
/-- distances f, places p, the row O of the near words -/
def fgA (sc : Nat → Int32) (n : Nat) (wt ty : List Int32) (tk la : Int32) (l : Nat) (f p : Nat → Nat) (O : List Nat) : Prop :=
  (∀ k, k < 6 → rat (rkB sc n wt ty tk la l).1 (nI k) = nI (f k) ∧ f k ≤ 3 * ty.length ∧ (f k = 0 ↔ ty <+: namL sc n k)) ∧
  (∀ k, k < 6 → rat (rkB sc n wt ty tk la l).2.2.1 (nI k) = if f k ≤ l then nI (p k) else -1) ∧
  (∀ k, k < 6 → f k ≤ l → O[p k]? = some k) ∧
  (∀ q, q < 5 → rat (rkB sc n wt ty tk la l).2.2.2.1 (nI q) = match O[q]? with | some x => nI x | none => -1) ∧
  ((rkB sc n wt ty tk la l).2.2.2.2 = nI O.length ∧ O.length = cntN (fun k => decide (f k ≤ l)) 6) ∧
  (∀ x, x ∈ O → x < 6) ∧
  (∀ q x y, O[q]? = some x → O[q + 1]? = some y → rat (rkB sc n wt ty tk la l).2.1 (nI y) ≤ rat (rkB sc n wt ty tk la l).2.1 (nI x))
theorem near_cnt {fa : List Int32} {f : Nat → Nat} {l : Nat} (hl : l ≤ 9) (hf : ∀ k, k < 6 → rat fa (nI k) = nI (f k) ∧ f k ≤ 1000) : ∀ m, m ≤ 6 → (nearL fa (nI l) m).length = cntN (fun k => decide (f k ≤ l)) m := by
  intro m
  induction m with
  | zero => intro _; rfl
  | succ m ih =>
    intro hm
    obtain ⟨h1, h2⟩ := hf m (by omega)
    rw [nearL_succ, h1]
    show _ = cntN (fun k => decide (f k ≤ l)) m + (if decide (f m ≤ l) = true then 1 else 0)
    by_cases c : f m ≤ l
    · rw [if_pos (nI_le c (by omega)), if_pos (decide_eq_true c), List.length_append, ih (by omega)]
      rfl
    · rw [if_neg (fun z => c ((nI_leI (by omega) (by omega)).mp z)), if_neg (fun z => c (of_decide_eq_true z)), ih (by omega)]
      rfl
theorem fg_core {ws : List (List Int32)} {fa sc : List Int32} {l : Nat} (h10 : ∀ w ∈ ws, w.length ≤ 10) (h6 : ws.length = 6) (hl : l ≤ 9) {f : Nat → Nat} (hf : ∀ k, k < 6 → rat fa (nI k) = nI (f k) ∧ f k ≤ 1000) : ∃ (p : Nat → Nat) (O : List Nat),
    (∀ k, k < 6 → rat (plW ws fa sc (nI l) ws.length).1 (nI k) = if f k ≤ l then nI (p k) else -1) ∧
    (∀ k, k < 6 → f k ≤ l → O[p k]? = some k) ∧
    (∀ q, q < 5 → rat (plW ws fa sc (nI l) ws.length).2.1 (nI q) = match O[q]? with | some x => nI x | none => -1) ∧
    ((plW ws fa sc (nI l) ws.length).2.2 = nI O.length ∧ O.length = cntN (fun k => decide (f k ≤ l)) 6) ∧
    (∀ x, x ∈ O → x < 6) ∧
    (∀ q x y, O[q]? = some x → O[q + 1]? = some y → rat sc (nI y) ≤ rat sc (nI x)) := by
  obtain ⟨O, o1, o2⟩ := srt (R := Ah ws sc) (fun _ _ h => Ah.tot h) (fun _ _ _ h g => Ah.trans h g) (nearL fa (nI l) ws.length) (List.nodup_range.filter _)
  have o6 : ∀ x, x ∈ O → x < 6 := fun x hx => by
    have := (nearL_mem.mp (o1.mem_iff.mp hx)).1
    omega
  have P : ∀ k : Nat, ∃ p : Nat, k < 6 → f k ≤ l → O[p]? = some k := by
    intro k
    by_cases c : k < 6 ∧ f k ≤ l
    · obtain ⟨c1, c2⟩ := c
      have hm : k ∈ O := by
        refine o1.mem_iff.mpr (nearL_mem.mpr ⟨by omega, ?_⟩)
        rw [(hf k c1).1]
        exact nI_le c2 (by omega)
      obtain ⟨p, hp⟩ := List.getElem?_of_mem hm
      exact ⟨p, fun _ _ => hp⟩
    · exact ⟨0, fun h1 h2 => absurd ⟨h1, h2⟩ c⟩
  obtain ⟨p, hp⟩ := Classical.axiomOfChoice P
  refine ⟨p, O, fun k hk => ?_, hp, fun q hq => ?_, ⟨?_, ?_⟩, o6, fun q x y h1 h2 => ?_⟩
  · rw [pl_1, rat_in (map_a (by omega)) (by simp; omega)]
    obtain ⟨h1, h2⟩ := hf k hk
    by_cases c : f k ≤ l
    · rw [if_pos c, if_pos (by rw [h1]; exact nI_le c (by omega))]
      exact wa_pos h10 (by omega) o1 o2 (hp k hk c)
    · rw [if_neg c, if_neg (fun z => c ?_)]
      rw [h1] at z
      exact (nI_leI (by omega) (by omega)).mp z
  · have e := pl_2 (ws := ws) (fa := fa) (sc := sc) (li := nI l) h10 (by omega) o1 o2 ws.length (Nat.le_refl _) q hq
    have e2 : rat (plW ws fa sc (nI l) ws.length).2.1 (nI q) = atO O ws.length q := rat_in e (by
      have := (plW_len (ws := ws) (fa := fa) (sc := sc) (li := nI l) (k := ws.length)).2
      rw [this]; decide)
    rw [e2]
    unfold atO
    cases hO : O[q]? with
    | none => rfl
    | some x =>
      have := o6 x (List.mem_of_getElem? hO)
      show (if x < ws.length then nI x else -1) = nI x
      rw [if_pos (by omega)]
  · rw [pl_3, o1.length_eq]
  · rw [o1.length_eq, h6]
    exact near_cnt hl hf 6 (Nat.le_refl _)
  · have hpw := List.pairwise_iff_getElem.mp o2
    obtain ⟨a1, a2⟩ := List.getElem?_eq_some_iff.mp h1
    obtain ⟨b1, b2⟩ := List.getElem?_eq_some_iff.mp h2
    have := hpw q (q + 1) a1 b1 (by omega)
    rw [a2, b2] at this
    rcases this with h | h
    · exact Int32.le_of_lt h
    · exact Int32.le_of_eq h.1.symm
theorem fg_all {sc : Nat → Int32} {n l : Nat} {wt ty : List Int32} {tk la : Int32} (ht : ty.length ≤ 20) (hl : l ≤ 9) : ∃ f p O, fgA sc n wt ty tk la l f p O := by
  have F : ∀ k : Nat, ∃ f, k < 6 → rat ((List.range (wsL sc n).length).map (faO (BKs sc n wt) ty)) (nI k) = nI f ∧ f ≤ 3 * ty.length ∧ (f = 0 ↔ ty <+: namL sc n k) := by
    intro k
    by_cases hk : k < 6
    · obtain ⟨f, f1, f2, f3⟩ := far_in (sc := sc) (n := n) (wt := wt) hk ht
      refine ⟨f, fun _ => ⟨?_, f1, f3⟩⟩
      have e := map_a (f := faO (BKs sc n wt) ty) (n := (wsL sc n).length) (k := k) hk
      exact (rat_in e (by rw [List.length_map, List.length_range]; exact (show (6 : Nat) < 2 ^ 31 by decide))).trans f2
    · exact ⟨0, fun h => absurd h hk⟩
  obtain ⟨f, hf⟩ := Classical.axiomOfChoice F
  obtain ⟨p, O, h1, h2, h3, h4, h5, h6⟩ := fg_core (ws := wsL sc n) (fa := (List.range (wsL sc n).length).map (faO (BKs sc n wt) ty)) (sc := (List.range (wsL sc n).length).map (scO (BKs sc n wt) ty tk la (nI l))) (l := l) (f := f) wsL_10 rfl hl (fun k hk => ⟨(hf k hk).1, by have := (hf k hk).2.1; omega⟩)
  exact ⟨f, p, O, hf, h1, h2, h3, h4, h5, h6⟩
theorem fg_len {sc : Nat → Int32} {n l : Nat} {wt ty : List Int32} {tk la : Int32} {f p : Nat → Nat} {O : List Nat} (h : fgA sc n wt ty tk la l f p O) : O.length ≤ 6 := by
  rw [h.2.2.2.2.1.2]
  exact cntN_le 6
theorem fg_p {sc : Nat → Int32} {n l : Nat} {wt ty : List Int32} {tk la : Int32} {f p : Nat → Nat} {O : List Nat} (h : fgA sc n wt ty tk la l f p O) {k : Nat} (hk : k < 6) (hf : f k ≤ l) : p k < 6 := by
  have := (List.getElem?_eq_some_iff.mp (h.2.2.1 k hk hf)).1
  have := fg_len h
  omega
/-- needs: below 0 just where the word isn't near -/
theorem need_in {sc : Nat → Int32} {n l m : Nat} {wt ty : List Int32} {tp : List Int32} {er tk la : Int32} {f p : Nat → Nat} {O : List Nat} (h : fgA sc n wt ty tk la l f p O) (hw : wOK m wt) (hm : m ≤ 18) (ht : ty.length ≤ 20) {k : Nat} (hk : k < 6) (hf : f k ≤ l) : ∃ x, x ≤ 9999 ∧ needI (tp, er, BKs sc n wt, ty, tk, la, nI l) (nI k) = nI x := by
  have hpl := h.2.1 k hk
  have hp := fg_p h hk hf
  rw [if_pos hf] at hpl
  have score : ∀ o, o < 6 → ∃ base : Int32, rat (rkB sc n wt ty tk la l).2.1 (nI o) = rat wt (nI o) + base ∧ -700 ≤ base.toInt ∧ base.toInt ≤ 200 := by
    intro o ho
    obtain ⟨b, b1, b2, b3⟩ := score_in (sc := sc) (n := n) (wt := wt) (tk := tk) (la := la) (li := nI l) ho ht
    refine ⟨b, ?_, b2, b3⟩
    have e : (rkB sc n wt ty tk la l).2.1[o]? = some (scO (BKs sc n wt) ty tk la (nI l) o) := map_a (n := 6) ho
    rw [rat_in e (by
      have : (rkB sc n wt ty tk la l).2.1.length = 6 := by
        show ((List.range 6).map _).length = 6
        simp
      rw [this]; decide)]
    exact b1
  obtain ⟨base, s1, s2, s3⟩ := score k hk
  obtain ⟨z1, z2, z3⟩ := least_z (ws := wsL sc n) (sc := (rkB sc n wt ty tk la l).2.1) (pl := (rkB sc n wt ty tk la l).2.2.1) (x := nI k) 6
  have hz : lzI (wsL sc n) (rkB sc n wt ty tk la l).2.1 (rkB sc n wt ty tk la l).2.2.1 (nI k) 6 ≤ 2000 := by
    refine lz_le (by omega) 6 (fun o ho _ _ => ?_)
    obtain ⟨b, b1, b2, b3⟩ := score o ho
    obtain ⟨u, u1, u2⟩ := wOK_at hw ho
    have e : (rat (rkB sc n wt ty tk la l).2.1 (nI o)).toInt = (u : Int) + b.toInt := by
      rw [b1, u2]
      exact i32_a (nI_toInt (by omega)) rfl (by omega) (by omega)
    rw [e]
    split <;> omega
  have eb : rat (rkB sc n wt ty tk la l).2.1 (nI k) - rat wt (nI k) = base := by
    rw [s1, Int32.add_comm, Int32.add_sub_cancel]
  have hv : needI (tp, er, BKs sc n wt, ty, tk, la, nI l) (nI k) = if lg_cmp (leastL (wsL sc n) (rkB sc n wt ty tk la l).2.1 (rkB sc n wt ty tk la l).2.2.1 (nI k) 6) 2147483647 ≤ 0 then (if lg_cmp (if leastL (wsL sc n) (rkB sc n wt ty tk la l).2.1 (rkB sc n wt ty tk la l).2.2.1 (nI k) 6 - base.toInt64 < 0 then 0 else leastL (wsL sc n) (rkB sc n wt ty tk la l).2.1 (rkB sc n wt ty tk la l).2.2.1 (nI k) 6 - base.toInt64) 9999 ≤ 0 then Int64.toInt32 (if leastL (wsL sc n) (rkB sc n wt ty tk la l).2.1 (rkB sc n wt ty tk la l).2.2.1 (nI k) 6 - base.toInt64 < 0 then 0 else leastL (wsL sc n) (rkB sc n wt ty tk la l).2.1 (rkB sc n wt ty tk la l).2.2.1 (nI k) 6 - base.toInt64) else -1) else -1 := by
    have e0 : needI (tp, er, BKs sc n wt, ty, tk, la, nI l) (nI k) = if rat (rkB sc n wt ty tk la l).2.2.1 (nI k) < 0 then -1 else if lg_cmp (needL (tp, er, BKs sc n wt, ty, tk, la, nI l) (nI k)) 2147483647 ≤ 0 then (if lg_cmp (needX (tp, er, BKs sc n wt, ty, tk, la, nI l) (nI k) (needL (tp, er, BKs sc n wt, ty, tk, la, nI l) (nI k))) 9999 ≤ 0 then Int64.toInt32 (needX (tp, er, BKs sc n wt, ty, tk, la, nI l) (nI k) (needL (tp, er, BKs sc n wt, ty, tk, la, nI l) (nI k))) else -1) else -1 := rfl
    have e1 : ∀ L : Int64, needX (tp, er, BKs sc n wt, ty, tk, la, nI l) (nI k) L = if L - Int32.toInt64 (rat (rkB sc n wt ty tk la l).2.1 (nI k) - rat wt (nI k)) < 0 then 0 else L - Int32.toInt64 (rat (rkB sc n wt ty tk la l).2.1 (nI k) - rat wt (nI k)) := fun L => rfl
    have e2 : needL (tp, er, BKs sc n wt, ty, tk, la, nI l) (nI k) = leastL (wsL sc n) (rkB sc n wt ty tk la l).2.1 (rkB sc n wt ty tk la l).2.2.1 (nI k) 6 := rfl
    rw [e0, hpl, if_neg (nI_pos (by omega)), e1, e2, eb]
  rcases need_spec z1 z2 z3 hv with ⟨x, x1, x2, -⟩ | ⟨-, hno⟩
  · exact ⟨x, x1, x2⟩
  · exfalso
    refine hno 9999 (Nat.le_refl _) ?_
    rw [i32_add (by omega) (by omega)]
    omega
theorem need_out {sc : Nat → Int32} {n l : Nat} {wt ty : List Int32} {tp : List Int32} {er tk la : Int32} {f p : Nat → Nat} {O : List Nat} (h : fgA sc n wt ty tk la l f p O) {k : Nat} (hk : k < 6) (hf : ¬ f k ≤ l) : needI (tp, er, BKs sc n wt, ty, tk, la, nI l) (nI k) = -1 := by
  have hpl := h.2.1 k hk
  rw [if_neg hf] at hpl
  have e0 : needI (tp, er, BKs sc n wt, ty, tk, la, nI l) (nI k) = if rat (rkB sc n wt ty tk la l).2.2.1 (nI k) < 0 then -1 else if lg_cmp (needL (tp, er, BKs sc n wt, ty, tk, la, nI l) (nI k)) 2147483647 ≤ 0 then (if lg_cmp (needX (tp, er, BKs sc n wt, ty, tk, la, nI l) (nI k) (needL (tp, er, BKs sc n wt, ty, tk, la, nI l) (nI k))) 9999 ≤ 0 then Int64.toInt32 (needX (tp, er, BKs sc n wt, ty, tk, la, nI l) (nI k) (needL (tp, er, BKs sc n wt, ty, tk, la, nI l) (nI k))) else -1) else -1 := rfl
  rw [e0, hpl, if_pos (by decide)]
/-- strokes: at most one more than the word has bytes -/
theorem st_in {b : bK} {tk la li w : Int32} {l : List Int32} : ∀ m i, i + m ≤ 100 → stI b tk la li w l m i = -1 ∨ ∃ r, r ≤ i + m + 1 ∧ stI b tk la li w l m i = nI r := by
  intro m
  induction m with
  | zero => intro i hi; exact Or.inr ⟨i + 1, by omega, nI_1 i⟩
  | succ m ih =>
    intro i hi
    unfold stI
    split
    · split
      · exact Or.inl rfl
      · rcases ih (i + 1) (by omega) with h | ⟨r, r1, r2⟩
        · exact Or.inl h
        · exact Or.inr ⟨r, by omega, r2⟩
    · exact Or.inr ⟨i + 1, by omega, nI_1 i⟩
/-- closest: a whole number -/
theorem cl_in {sc : Nat → Int32} {n k : Nat} {wt : List Int32} (hk : k < 6) : ∀ o, o ≤ 6 → (clI (BKs sc n wt) (nI k) o = -1 ∧ (o = 0 ∨ (o = 1 ∧ k = 0))) ∨ ∃ r, r ≤ 100 ∧ clI (BKs sc n wt) (nI k) o = nI r := by
  intro o
  induction o with
  | zero => intro _; exact Or.inl ⟨rfl, Or.inl rfl⟩
  | succ o ih =>
    intro ho
    have i1 := ih (by omega)
    obtain ⟨r, r1, r2, -⟩ := dist_in (ro := kk2.1) (po := kk2.2) (ty := namL sc n k) (w := namL sc n o) (by have := (nam_len (sc := sc) (n := n) (w := k)).2; omega) (by have := (nam_len (sc := sc) (n := n) (w := o)).2; omega)
    have rb : r ≤ 100 := by have := (nam_len (sc := sc) (n := n) (w := k)).2; omega
    have ed : distI (BKs sc n wt).2.2.2.2.1.1 (BKs sc n wt).2.2.2.2.1.2.1 (lat (BKs sc n wt).2.1 (nI k)) (lat (BKs sc n wt).2.1 (nI o)) = nI r := by
      show distI kk2.1 kk2.2 (lat (wsL sc n) (nI k)) (lat (wsL sc n) (nI o)) = nI r
      rw [wsL_lat hk, wsL_lat (by omega)]
      exact r2
    unfold clI
    rw [ed]
    by_cases c : nI o = nI k
    · rw [if_pos c]
      have eo := (nI_eq (by omega) (by omega)).mp c
      rcases i1 with ⟨h1, h2⟩ | h
      · refine Or.inl ⟨h1, ?_⟩
        omega
      · exact Or.inr h
    · rw [if_neg c]
      refine Or.inr ?_
      split
      · split
        · exact ⟨r, rb, rfl⟩
        · rename_i g _
          rcases i1 with ⟨h1, h2⟩ | h
          · rw [h1] at g; exact absurd g (by decide)
          · exact h
      · exact ⟨r, rb, rfl⟩
/-- best: no byte beyond z -/
theorem best_in {s : wS} : ∀ k, k ≤ 26 → (bestI s k).1 = -1 ∨ ∃ j, j < k ∧ (bestI s k).1 = nI (97 + j) := by
  intro k
  induction k with
  | zero => intro _; exact Or.inl rfl
  | succ k ih =>
    intro hk
    unfold bestI
    split
    · rcases ih (by omega) with h | ⟨j, j1, j2⟩
      · exact Or.inl h
      · exact Or.inr ⟨j, by omega, j2⟩
    · exact Or.inr ⟨k, by omega, rfl⟩
theorem best_le {s : wS} : ¬ 122 < (bestI s 26).1 := by
  rcases best_in (s := s) 26 (Nat.le_refl _) with h | ⟨j, j1, j2⟩
  · rw [h]; decide
  · rw [j2]
    exact nI_nlt (a := 122) (b := 97 + j) (by omega) (by decide)
/-- how many words begin with all that is typed -/
theorem beg_cnt {sc : Nat → Int32} {n : Nat} {ty : List Int32} {f : Nat → Nat} (h : ∀ k, k < 6 → (f k = 0 ↔ ty <+: namL sc n k)) : begN ty (wsL sc n) = cntN (fun k => decide (f k = 0)) 6 := by
  have e : ∀ k, k < 6 → (if ty <+: namL sc n k then 1 else 0) = (if decide (f k = 0) = true then 1 else 0) := by
    intro k hk
    by_cases c : f k = 0
    · rw [if_pos ((h k hk).mp c), if_pos (decide_eq_true c)]
    · rw [if_neg (fun z => c ((h k hk).mpr z)), if_neg (fun z => c (of_decide_eq_true z))]
  show (if ty <+: namL sc n 0 then 1 else 0) + ((if ty <+: namL sc n 1 then 1 else 0) + ((if ty <+: namL sc n 2 then 1 else 0) + ((if ty <+: namL sc n 3 then 1 else 0) + ((if ty <+: namL sc n 4 then 1 else 0) + ((if ty <+: namL sc n 5 then 1 else 0) + 0))))) = _
  rw [e 0 (by decide), e 1 (by decide), e 2 (by decide), e 3 (by decide), e 4 (by decide), e 5 (by decide)]
  show _ = (((((0 + (if decide (f 0 = 0) = true then 1 else 0)) + (if decide (f 1 = 0) = true then 1 else 0)) + (if decide (f 2 = 0) = true then 1 else 0)) + (if decide (f 3 = 0) = true then 1 else 0)) + (if decide (f 4 = 0) = true then 1 else 0)) + (if decide (f 5 = 0) = true then 1 else 0)
  omega
/-- weights behind a word that is taken -/
theorem take_w {m k : Nat} {wt : List Int32} {tk : Int32} (h : wOK m wt) (hm : m ≤ 18) (hk : k < 6) : wOK (m + 1) (if (tk + 1) - (tk + 1) / 8 * 8 = 0 then fadeL (rput wt (nI k) (if rat wt (nI k) + 5 < 9999 then rat wt (nI k) + 5 else 9999)) else rput wt (nI k) (if rat wt (nI k) + 5 < 9999 then rat wt (nI k) + 5 else 9999)) := by
  obtain ⟨u, u1, u2⟩ := wOK_at h hk
  have e5 : nI u + 5 = nI (u + 5) := nI_add u 5
  have ev : (if rat wt (nI k) + 5 < 9999 then rat wt (nI k) + 5 else 9999) = nI (u + 5) := by
    have e6 : nI (u + 5) < 9999 := nI_lt (b := 9999) (by omega) (by decide)
    rw [u2, e5, if_pos e6]
  rw [ev, rput_nI (by omega)]
  have h1 : wOK (m + 1) (wt.set k (nI (u + 5))) := by
    refine ⟨by rw [List.length_set]; exact h.1, fun j hj => ?_⟩
    rw [set_at (by rw [h.1]; exact hk)]
    by_cases c : j = k
    · rw [if_pos c]
      exact ⟨u + 5, by omega, rfl⟩
    · rw [if_neg c]
      obtain ⟨v, v1, v2⟩ := h.2 j hj
      exact ⟨v, by omega, v2⟩
  split
  · refine ⟨by unfold fadeL; rw [List.length_map]; exact h1.1, fun j hj => ?_⟩
    obtain ⟨v, v1, v2⟩ := h1.2 j hj
    unfold fadeL
    rw [List.getElem?_map, v2]
    refine ⟨v - v / 8, by omega, ?_⟩
    show some (nI v - nI v / 8) = _
    have e8 : nI v / 8 = nI (v / 8) := nI_div (b := 8) (by omega) (by decide)
    have e9 : nI (v - v / 8) + nI (v / 8) = nI v := by rw [nI_add]; congr 1; omega
    rw [e8, ← e9, Int32.add_sub_cancel]
  · exact h1
