/-! THE REFERENCE: the order of the near words -/
/-- the word y is ahead of the word x -/
def Ah (ws : List (List Int32)) (sc : List Int32) (y x : Nat) : Prop := rat sc (nI x) < rat sc (nI y) ∨ (rat sc (nI y) = rat sc (nI x) ∧ ((lat ws (nI y)).length < (lat ws (nI x)).length ∨ ((lat ws (nI y)).length = (lat ws (nI x)).length ∧ y < x)))
theorem Ah.asym {ws : List (List Int32)} {sc : List Int32} {x y : Nat} (h : Ah ws sc x y) : ¬ Ah ws sc y x := by
  unfold Ah at *
  simp only [Int32.lt_iff_toInt_lt, ← Int32.toInt_inj] at *
  omega
theorem Ah.trans {ws : List (List Int32)} {sc : List Int32} {x y z : Nat} (h : Ah ws sc x y) (g : Ah ws sc y z) : Ah ws sc x z := by
  unfold Ah at *
  simp only [Int32.lt_iff_toInt_lt, ← Int32.toInt_inj] at *
  omega
theorem Ah.tot {ws : List (List Int32)} {sc : List Int32} {x y : Nat} (h : x ≠ y) : Ah ws sc x y ∨ Ah ws sc y x := by
  unfold Ah
  simp only [Int32.lt_iff_toInt_lt, ← Int32.toInt_inj]
  omega
theorem lat_len10 {ws : List (List Int32)} (h : ∀ l ∈ ws, l.length ≤ 10) (i : Int32) : (lat ws i).length ≤ 10 := by
  unfold lat
  split
  · simp
  · rw [List.getD_eq_getElem?_getD]
    cases hx : ws[i.toNatClampNeg]? with
    | none => simp
    | some x => exact h x (List.mem_of_getElem? hx)
theorem leads_iff {ws : List (List Int32)} {x y : Nat} (h : ∀ l ∈ ws, l.length ≤ 10) (hx : x < 2 ^ 31) (hy : y < 2 ^ 31) : leadsI ws (nI y) (nI x) ≠ 0 ↔ ((lat ws (nI y)).length < (lat ws (nI x)).length ∨ ((lat ws (nI y)).length = (lat ws (nI x)).length ∧ y < x)) := by
  have h1 := lat_len10 h (nI x)
  have h2 := lat_len10 h (nI y)
  unfold leadsI
  by_cases c : (lat ws (nI y)).length < (lat ws (nI x)).length
  · rw [if_pos (nI_lt c (by omega))]
    exact ⟨fun _ => Or.inl c, fun _ => by decide⟩
  · rw [if_neg (nI_nlt (by omega) (by omega))]
    by_cases c2 : (lat ws (nI y)).length = (lat ws (nI x)).length
    · rw [if_pos (by rw [c2])]
      by_cases c3 : y < x
      · rw [if_neg (fun z => by have := (nI_leI hx hy).mp z; omega)]
        exact ⟨fun _ => Or.inr ⟨c2, c3⟩, fun _ => by decide⟩
      · rw [if_pos (nI_le (by omega) hy)]
        exact ⟨fun z => absurd rfl z, fun z => by omega⟩
    · rw [if_neg (fun z => c2 ((nI_eq (by omega) (by omega)).mp z))]
      exact ⟨fun z => absurd rfl z, fun z => by omega⟩
theorem ahd_iff {ws : List (List Int32)} {fa sc : List Int32} {li : Int32} {x y : Nat} (h : ∀ l ∈ ws, l.length ≤ 10) (hx : x < 2 ^ 31) (hy : y < 2 ^ 31) : ahd ws fa sc li (nI x) (nI y) ↔ (rat fa (nI y) ≤ li ∧ Ah ws sc y x) := by
  unfold ahd
  rw [leads_iff h hx hy]
  constructor
  · intro ⟨_, h2, h3⟩
    exact ⟨Int32.not_lt.mp h2, h3⟩
  · intro ⟨h2, h3⟩
    refine ⟨fun z => ?_, Int32.not_lt.mpr h2, h3⟩
    have := (nI_eq hy hx).mp z
    subst this
    exact Ah.asym h3 h3
def nearL (fa : List Int32) (li : Int32) (n : Nat) : List Nat := (List.range n).filter (fun k => decide (rat fa (nI k) ≤ li))
theorem nearL_succ {fa : List Int32} {li : Int32} {n : Nat} : nearL fa li (n + 1) = if rat fa (nI n) ≤ li then nearL fa li n ++ [n] else nearL fa li n := by
  unfold nearL
  rw [List.range_succ, List.filter_append]
  by_cases c : rat fa (nI n) ≤ li
  · rw [if_pos c]; simp [c]
  · rw [if_neg c]; simp [c]
theorem nearL_mem {fa : List Int32} {li : Int32} {n x : Nat} : x ∈ nearL fa li n ↔ x < n ∧ rat fa (nI x) ≤ li := by
  unfold nearL
  rw [List.mem_filter, List.mem_range, decide_eq_true_iff]
theorem wa_cnt {ws : List (List Int32)} {fa sc : List Int32} {li : Int32} {x : Nat} (h : ∀ l ∈ ws, l.length ≤ 10) (hx : x < 2 ^ 31) : ∀ n, n < 2 ^ 31 → waI ws fa sc li (nI x) n = nI ((nearL fa li n).countP (fun y => @decide (Ah ws sc y x) (Classical.propDecidable _))) := by
  intro n
  induction n with
  | zero => intro _; rfl
  | succ n ih =>
    intro hn
    rw [waI, ih (by omega), nearL_succ]
    by_cases c : rat fa (nI n) ≤ li
    · rw [if_pos c, List.countP_append, List.countP_singleton]
      by_cases c2 : Ah ws sc n x
      · rw [if_pos ((ahd_iff h hx (by omega)).mpr ⟨c, c2⟩), if_pos (by simp [c2]), nI_1]
      · rw [if_neg (fun z => c2 ((ahd_iff h hx (by omega)).mp z).2), if_neg (by simp [c2]), Nat.add_zero]
    · rw [if_neg c, if_neg (fun z => c ((ahd_iff h hx (by omega)).mp z).1)]
theorem pos_cnt {ws : List (List Int32)} {sc : List Int32} {O N : List Nat} (hp : O.Perm N) (hs : O.Pairwise (Ah ws sc)) {p x : Nat} (hx : O[p]? = some x) : N.countP (fun y => @decide (Ah ws sc y x) (Classical.propDecidable _)) = p := by
  rw [← hp.countP_eq]
  obtain ⟨hi, rfl⟩ := List.getElem?_eq_some_iff.mp hx
  have e : O = O.take p ++ (O[p] :: O.drop (p + 1)) := by rw [← List.drop_eq_getElem_cons hi, List.take_append_drop]
  have hs2 := hs
  rw [e, List.pairwise_append] at hs2
  obtain ⟨-, s2, s3⟩ := hs2
  rw [List.pairwise_cons] at s2
  have gen : ∀ q : Nat → Bool, (∀ a ∈ O.take p, q a = true) → (∀ a ∈ O[p] :: O.drop (p + 1), ¬ q a = true) → O.countP q = p := by
    intro q h1 h2
    have e2 : O.countP q = (O.take p ++ (O[p] :: O.drop (p + 1))).countP q := congrArg (List.countP q) e
    rw [e2, List.countP_append, List.countP_eq_length.mpr h1, List.countP_eq_zero.mpr h2, List.length_take]
    omega
  refine gen _ (fun a ha => ?_) (fun a ha => ?_)
  · have := s3 a ha _ (List.mem_cons_self)
    simp [this]
  · rcases List.mem_cons.mp ha with rfl | ha
    · have : ¬ Ah ws sc O[p] O[p] := fun z => z.asym z
      simp [this]
    · have := (s2.1 a ha).asym
      simp [this]
/-- where a near word stands -/
theorem wa_pos {ws : List (List Int32)} {fa sc : List Int32} {li : Int32} {O : List Nat} (h : ∀ l ∈ ws, l.length ≤ 10) (h40 : ws.length ≤ 40) (hp : O.Perm (nearL fa li ws.length)) (hs : O.Pairwise (Ah ws sc)) {p x : Nat} (hx : O[p]? = some x) : waI ws fa sc li (nI x) ws.length = nI p := by
  have hm := nearL_mem.mp (hp.mem_iff.mp (List.mem_of_getElem? hx))
  rw [wa_cnt h (by omega) _ (by omega), pos_cnt hp hs hx]
theorem nearL_len {fa : List Int32} {li : Int32} {n : Nat} : (nearL fa li n).length ≤ n := by
  unfold nearL
  have := List.length_filter_le (fun k => decide (rat fa (nI k) ≤ li)) (List.range n)
  rw [List.length_range] at this
  exact this
theorem pl_1 {ws : List (List Int32)} {fa sc : List Int32} {li : Int32} {k : Nat} : (plW ws fa sc li k).1 = (List.range k).map (fun x => if rat fa (nI x) ≤ li then waI ws fa sc li (nI x) ws.length else -1) := by
  induction k with
  | zero => rfl
  | succ k ih =>
    rw [plW, List.range_succ, List.map_append]
    by_cases c : rat fa (nI k) ≤ li
    · rw [if_pos c, ih, List.map_singleton, if_pos c]
    · rw [if_neg c, ih, List.map_singleton, if_neg c]
theorem pl_3 {ws : List (List Int32)} {fa sc : List Int32} {li : Int32} {k : Nat} : (plW ws fa sc li k).2.2 = nI (nearL fa li k).length := by
  induction k with
  | zero => rfl
  | succ k ih =>
    rw [plW, nearL_succ]
    by_cases c : rat fa (nI k) ≤ li
    · rw [if_pos c, if_pos c, ih, List.length_append]
      exact nI_1 _
    · rw [if_neg c, if_neg c, ih]
/-- the word at a place, where there is one so far -/
def atO (O : List Nat) (k p : Nat) : Int32 := match O[p]? with
  | some x => if x < k then nI x else -1
  | none => -1
theorem pl_2 {ws : List (List Int32)} {fa sc : List Int32} {li : Int32} {O : List Nat} (h : ∀ l ∈ ws, l.length ≤ 10) (h40 : ws.length ≤ 40) (hp : O.Perm (nearL fa li ws.length)) (hs : O.Pairwise (Ah ws sc)) : ∀ k, k ≤ ws.length → ∀ p, p < 5 → (plW ws fa sc li k).2.1[p]? = some (atO O k p) := by
  intro k
  induction k with
  | zero =>
    intro _ p hp5
    rw [plW]
    show (List.replicate 5 (-1 : Int32))[p]? = _
    rw [List.getElem?_replicate, if_pos hp5]
    unfold atO
    split
    · rw [if_neg (by omega)]
    · rfl
  | succ k ih =>
    intro hk p hp5
    have hl5 : (plW ws fa sc li k).2.1.length = 5 := plW_len.2
    have keep : O[p]? ≠ some k → atO O (k + 1) p = atO O k p := by
      intro hne
      unfold atO
      split
      · rename_i x hx
        have : x ≠ k := fun z => hne (by rw [hx, z])
        by_cases c : x < k
        · rw [if_pos c, if_pos (by omega)]
        · rw [if_neg c, if_neg (by omega)]
      · rfl
    rw [plW]
    by_cases c : rat fa (nI k) ≤ li
    · rw [if_pos c]
      have hk2 : k ∈ O := hp.mem_iff.mpr (nearL_mem.mpr ⟨by omega, c⟩)
      obtain ⟨i, hi⟩ := List.getElem?_of_mem hk2
      have ew := wa_pos h h40 hp hs hi
      have hi40 : i < 40 := by
        have h1 := (List.getElem?_eq_some_iff.mp hi).1
        have h2 := hp.length_eq
        have h3 := nearL_len (fa := fa) (li := li) (n := ws.length)
        omega
      rw [ew]
      show (rput (plW ws fa sc li k).2.1 (nI i) (nI k))[p]? = _
      rw [rput_nI (by omega)]
      by_cases e : p = i
      · subst e
        rw [List.getElem?_set_self (by omega)]
        unfold atO
        rw [hi]
        show _ = some (if k < k + 1 then nI k else -1)
        rw [if_pos (by omega)]
      · rw [List.getElem?_set_ne (fun z => e z.symm), ih (by omega) p hp5, keep (fun z => ?_)]
        have h1 := (List.getElem?_eq_some_iff.mp z).1
        have h2 := (List.getElem?_eq_some_iff.mp hi).1
        have a1 := (List.getElem?_eq_some_iff.mp z).2
        have a2 := (List.getElem?_eq_some_iff.mp hi).2
        rcases (show p < i ∨ i < p by omega) with c2 | c2
        · have := List.pairwise_iff_getElem.mp hs p i h1 h2 c2
          rw [a1, a2] at this
          exact this.asym this
        · have := List.pairwise_iff_getElem.mp hs i p h2 h1 c2
          rw [a1, a2] at this
          exact this.asym this
    · rw [if_neg c, ih (by omega) p hp5, keep (fun z => ?_)]
      exact c (nearL_mem.mp (hp.mem_iff.mp (List.mem_of_getElem? z))).2
theorem min_nI {a b : Nat} (ha : a < 2 ^ 31) (hb : b < 2 ^ 31) : (if nI a < nI b then nI a else nI b) = nI (min a b) := by
  by_cases c : a < b
  · rw [if_pos (nI_lt c hb), Nat.min_eq_left (by omega)]
  · rw [if_neg (nI_nlt (by omega) ha), Nat.min_eq_right (by omega)]
def tomN (ro po : List Int32) (le key : Int32) (s a b : Nat) : Nat := if key = le then min s (min a b + 3) else if nbr ro po key le = 0 then min a b + 3 else min (s + 2) (min a b + 3)
theorem tomC_nI {ro po : List Int32} {le key : Int32} {s a b : Nat} (hs : s ≤ 900) (ha : a ≤ 900) (hb : b ≤ 900) : tomC ro po le key (nI s) (nI a) (nI b) = nI (tomN ro po le key s a b) := by
  unfold tomC tomN
  rw [min_nI (by omega) (by omega), show nI (min a b) + 3 = nI (min a b + 3) from nI_add _ 3, show nI s + 2 = nI (s + 2) from nI_add _ 2, min_nI (by omega) (by omega), min_nI (by omega) (by omega)]
  split
  · rfl
  · split <;> rfl
def lzI (ws : List (List Int32)) (sc pl : List Int32) (x : Int32) : Nat → Int
  | 0 => -2147483648
  | o + 1 => if nI o = x then lzI ws sc pl x o else if rat pl (nI o) < 0 then lzI ws sc pl x o else max (lzI ws sc pl x o) ((rat sc (nI o)).toInt + (if leadsI ws x (nI o) = 0 then 1 else 0))
theorem i64_add {a b : Int64} {x y : Int} (ha : a.toInt = x) (hb : b.toInt = y) (h1 : -9000000000 ≤ x + y) (h2 : x + y ≤ 9000000000) : (a + b).toInt = x + y := by
  rw [Int64.toInt_add, ha, hb]
  exact Int.bmod_eq_of_le (by simp at *; omega) (by simp at *; omega)
theorem i64_sub {a b : Int64} {x y : Int} (ha : a.toInt = x) (hb : b.toInt = y) (h1 : -9000000000 ≤ x - y) (h2 : x - y ≤ 9000000000) : (a - b).toInt = x - y := by
  rw [Int64.toInt_sub, ha, hb]
  exact Int.bmod_eq_of_le (by simp at *; omega) (by simp at *; omega)
theorem i32_b (a : Int32) : -2147483648 ≤ a.toInt ∧ a.toInt ≤ 2147483647 := by
  have h1 := Int32.le_toInt a
  have h2 := Int32.toInt_lt a
  simp at *
  omega
theorem least_z {ws : List (List Int32)} {sc pl : List Int32} {x : Int32} : ∀ n, (leastL ws sc pl x n).toInt = lzI ws sc pl x n ∧ -2147483648 ≤ lzI ws sc pl x n ∧ lzI ws sc pl x n ≤ 2147483648 := by
  intro n
  induction n with
  | zero => exact ⟨rfl, by rw [lzI]; omega, by rw [lzI]; omega⟩
  | succ n ih =>
    obtain ⟨i1, i2, i3⟩ := ih
    have hb := i32_b (rat sc (nI n))
    have es : (rat sc (nI n)).toInt64.toInt = (rat sc (nI n)).toInt := Int32.toInt_toInt64 _
    have es1 : ((rat sc (nI n)).toInt64 + 1).toInt = (rat sc (nI n)).toInt + 1 := i64_add es (show (1 : Int64).toInt = 1 by decide) (by omega) (by omega)
    rw [leastL, lzI]
    split
    · exact ⟨i1, i2, i3⟩
    · split
      · exact ⟨i1, i2, i3⟩
      · split
        · rename_i h3
          refine ⟨?_, by omega, by omega⟩
          by_cases c : (rat sc (nI n)).toInt64 + 1 < leastL ws sc pl x n
          · rw [if_pos c, i1]
            have := Int64.lt_iff_toInt_lt.mp c
            rw [es1, i1] at this
            omega
          · rw [if_neg c, es1]
            have c2 : ¬ ((rat sc (nI n)).toInt64 + 1).toInt < (leastL ws sc pl x n).toInt := fun z => c (Int64.lt_iff_toInt_lt.mpr z)
            rw [es1, i1] at c2
            omega
        · refine ⟨?_, by omega, by omega⟩
          by_cases c : (rat sc (nI n)).toInt64 < leastL ws sc pl x n
          · rw [if_pos c, i1]
            have := Int64.lt_iff_toInt_lt.mp c
            rw [es, i1] at this
            omega
          · rw [if_neg c, es]
            have c2 : ¬ (rat sc (nI n)).toInt64.toInt < (leastL ws sc pl x n).toInt := fun z => c (Int64.lt_iff_toInt_lt.mpr z)
            rw [es, i1] at c2
            omega
theorem lz_ge {ws : List (List Int32)} {sc pl : List Int32} {x : Int32} {o : Nat} (ho : nI o ≠ x) (hp : ¬ rat pl (nI o) < 0) : ∀ n, o < n → (rat sc (nI o)).toInt + (if leadsI ws x (nI o) = 0 then 1 else 0) ≤ lzI ws sc pl x n := by
  intro n
  induction n with
  | zero => intro h; exact absurd h (by omega)
  | succ n ih =>
    intro h
    rw [lzI]
    by_cases e : o = n
    · subst e
      rw [if_neg ho, if_neg hp]
      omega
    · have := ih (by omega)
      by_cases c1 : nI n = x
      · rw [if_pos c1]; exact this
      · rw [if_neg c1]
        by_cases c2 : rat pl (nI n) < 0
        · rw [if_pos c2]; exact this
        · rw [if_neg c2]; exact Int.le_trans this (Int.le_max_left _ _)
theorem lz_le {ws : List (List Int32)} {sc pl : List Int32} {x : Int32} {L : Int} (h0 : -2147483648 ≤ L) : ∀ n, (∀ o, o < n → nI o ≠ x → ¬ rat pl (nI o) < 0 → (rat sc (nI o)).toInt + (if leadsI ws x (nI o) = 0 then 1 else 0) ≤ L) → lzI ws sc pl x n ≤ L := by
  intro n
  induction n with
  | zero => intro _; exact h0
  | succ n ih =>
    intro h
    have := ih (fun o ho => h o (by omega))
    rw [lzI]
    by_cases c1 : nI n = x
    · rw [if_pos c1]; exact this
    · rw [if_neg c1]
      by_cases c2 : rat pl (nI n) < 0
      · rw [if_pos c2]; exact this
      · rw [if_neg c2]
        exact Int.max_le.mpr ⟨this, h n (by omega) c1 c2⟩
theorem i32_add {a : Int32} {k : Nat} (hk : k ≤ 10000) (h : a.toInt + k ≤ 2147483647) : (a + nI k).toInt = a.toInt + k := by
  have hb := i32_b a
  rw [Int32.toInt_add, nI_toInt (by omega)]
  exact Int.bmod_eq_of_le (by simp at *; omega) (by simp at *; omega)
theorem need_spec {L : Int64} {base : Int32} {z : Int} (hL : L.toInt = z) (h1 : -2147483648 ≤ z) (h2 : z ≤ 2147483648) {v : Int32} (hv : v = if lg_cmp L 2147483647 ≤ 0 then (if lg_cmp (if L - base.toInt64 < 0 then 0 else L - base.toInt64) 9999 ≤ 0 then Int64.toInt32 (if L - base.toInt64 < 0 then 0 else L - base.toInt64) else -1) else -1) : (∃ x, x ≤ 9999 ∧ v = nI x ∧ z ≤ (base + nI x).toInt ∧ ∀ k, k < x → ¬ z ≤ (base + nI k).toInt) ∨ (v = -1 ∧ ∀ k, k ≤ 9999 → ¬ z ≤ (base + nI k).toInt) := by
  have hb := i32_b base
  have eb : base.toInt64.toInt = base.toInt := Int32.toInt_toInt64 _
  have ed : (L - base.toInt64).toInt = z - base.toInt := i64_sub hL eb (by omega) (by omega)
  have e1 : lg_cmp L 2147483647 ≤ 0 ↔ z ≤ 2147483647 := by
    rw [lg_cmp_le, Int64.le_iff_toInt_le, hL, show (2147483647 : Int64).toInt = 2147483647 from by decide]
  by_cases c1 : z ≤ 2147483647
  · rw [if_pos (e1.mpr c1)] at hv
    -- the weight that is wanted
    have hx : ∃ x : Nat, (if L - base.toInt64 < 0 then 0 else L - base.toInt64).toInt = (x : Int) ∧ (x : Int) = max 0 (z - base.toInt) := by
      by_cases c2 : L - base.toInt64 < 0
      · rw [if_pos c2]
        have := Int64.lt_iff_toInt_lt.mp c2
        rw [ed, show (0 : Int64).toInt = 0 from by decide] at this
        exact ⟨0, by decide, by omega⟩
      · rw [if_neg c2, ed]
        have c3 : ¬ (L - base.toInt64).toInt < (0 : Int64).toInt := fun y => c2 (Int64.lt_iff_toInt_lt.mpr y)
        rw [ed, show (0 : Int64).toInt = 0 from by decide] at c3
        exact ⟨(z - base.toInt).toNat, by omega, by omega⟩
    obtain ⟨x, ex, ex2⟩ := hx
    generalize (if L - base.toInt64 < 0 then 0 else L - base.toInt64) = X at hv ex
    have e2 : lg_cmp X 9999 ≤ 0 ↔ x ≤ 9999 := by
      rw [lg_cmp_le, Int64.le_iff_toInt_le, ex, show (9999 : Int64).toInt = 9999 from by decide]
      omega
    have small : ∀ k : Nat, k < x → k ≤ 9999 → ¬ z ≤ (base + nI k).toInt := by
      intro k hk hk2
      rw [i32_add (by omega) (by omega)]
      omega
    by_cases c2 : x ≤ 9999
    · rw [if_pos (e2.mpr c2)] at hv
      refine Or.inl ⟨x, c2, ?_, ?_, fun k hk => small k hk (by omega)⟩
      · have eX : X = lN x := by
          apply Int64.toInt_inj.mp
          rw [ex, lN_toInt (by omega)]
        rw [hv, eX, lN_i]
      · rw [i32_add (by omega) (by omega)]
        omega
    · rw [if_neg (fun y => c2 (e2.mp y))] at hv
      exact Or.inr ⟨hv, fun k hk => small k (by omega) hk⟩
  · rw [if_neg (fun y => c1 (e1.mp y))] at hv
    refine Or.inr ⟨hv, fun k hk => ?_⟩
    have := i32_b (base + nI k)
    omega
theorem inW_of {n : Nat} {w : Int32} (h : ¬ inW n w = 0) (hn : n < 1000) : ∃ k, k < n ∧ w = nI k := by
  unfold inW at h
  by_cases c : w < 0
  · rw [if_pos c] at h; exact absurd rfl h
  · rw [if_neg c] at h
    obtain ⟨k, hk, rfl⟩ := nI_of c
    refine ⟨k, Nat.not_le.mp (fun z => h ?_), rfl⟩
    rw [if_pos (nI_le z hk)]
