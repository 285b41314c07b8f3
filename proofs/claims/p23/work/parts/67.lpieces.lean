/-! THE PIECES OF THE LAW'S TAPE -/
theorem fidx_no {ls : List (List Int32)} {l : List Int32} : ∀ {k : Nat}, (∀ a ∈ ls, a ≠ l) → fidx ls l k = -1 := by
  induction ls with
  | nil => intro k _; rfl
  | cons a r ih =>
    intro k h
    unfold fidx
    rw [if_neg (h a List.mem_cons_self)]
    exact ih (fun b hb => h b (List.mem_cons_of_mem _ hb))
theorem nam_split {sc : Nat → Int32} {n w : Nat} : namL sc n w = (List.range (sizN sc n w)).map (letC sc n w) ++ [nI (48 + w)] := by
  obtain ⟨z1, z2, z3⟩ := sizN_in (sc := sc) (n := n) (w := w)
  unfold namL
  rw [List.range_succ, List.map_append]
  congr 1
  show [letC sc n w (sizN sc n w)] = _
  unfold letC
  rw [if_pos z3.symm]
  exact congrArg (fun x => [x]) (nI_add 48 w)
theorem nam_let {sc : Nat → Int32} {n w i : Nat} (h : i < sizN sc n w) : ∃ k, 97 ≤ k ∧ k ≤ 101 ∧ letC sc n w i = nI k := by
  obtain ⟨z1, z2, z3⟩ := sizN_in (sc := sc) (n := n) (w := w)
  refine let_in (fun z => ?_)
  rw [z3] at z
  have := (nI_eq (by omega) (by omega)).mp z
  omega
theorem nam_hd {sc : Nat → Int32} {n w : Nat} : ∃ c r, namL sc n w = c :: r ∧ 97 ≤ c ∧ c ≤ 122 := by
  obtain ⟨z1, z2, z3⟩ := sizN_in (sc := sc) (n := n) (w := w)
  obtain ⟨k, k1, k2, k3⟩ := nam_let (sc := sc) (n := n) (w := w) (i := 0) (by omega)
  have e : (namL sc n w)[0]? = some (letC sc n w 0) := by
    unfold namL
    rw [List.getElem?_map, List.getElem?_range (by omega)]
    rfl
  cases h : namL sc n w with
  | nil => rw [h] at e; simp at e
  | cons c r =>
    rw [h] at e
    simp only [List.getElem?_cons_zero, Option.some.injEq] at e
    refine ⟨c, r, rfl, ?_, ?_⟩
    · rw [e, k3]; exact nI_le (a := 97) k1 (by omega)
    · rw [e, k3]; exact nI_le (b := 122) (by omega) (by decide)
theorem dg6 : ∀ w, w < 6 → isDg (nI (48 + w)) ≠ 0 ∧ ¬ (97 : Int32) ≤ nI (48 + w) := by decide +kernel
theorem nam_mem {sc : Nat → Int32} {n w : Nat} (hw : w < 6) : ∀ x ∈ namL sc n w, isLt x ≠ 0 ∨ isDg x ≠ 0 := by
  intro x hx
  rw [nam_split] at hx
  rcases List.mem_append.mp hx with hx | hx
  · obtain ⟨i, hi, rfl⟩ := List.mem_map.mp hx
    obtain ⟨k, k1, k2, k3⟩ := nam_let (sc := sc) (n := n) (w := w) (i := i) (List.mem_range.mp hi)
    refine Or.inl ?_
    rw [isLt_t (by rw [k3]; exact nI_le (a := 97) k1 (by omega)) (by rw [k3]; exact nI_le (b := 122) (by omega) (by decide))]
    decide
  · rw [List.mem_singleton.mp hx]
    exact Or.inr (dg6 w hw).1
theorem nam_len {sc : Nat → Int32} {n w : Nat} : 2 ≤ (namL sc n w).length ∧ (namL sc n w).length ≤ 6 := by
  obtain ⟨z1, z2, z3⟩ := sizN_in (sc := sc) (n := n) (w := w)
  rw [namL_len]
  omega
theorem nam_key {sc : Nat → Int32} {n w : Nat} (hw : w < 6) : (if 0 ≤ fidx keyw (namL sc n w) 0 then fidx keyw (namL sc n w) 0 else 20) = 20 := by
  have hk : (keyw.all fun l => l.all fun x => decide ((97 : Int32) ≤ x)) = true := by decide +kernel
  have e : fidx keyw (namL sc n w) 0 = -1 := by
    refine fidx_no (fun a ha z => ?_)
    rw [List.all_eq_true] at hk
    have k2 := hk a ha
    rw [List.all_eq_true] at k2
    have hm : nI (48 + w) ∈ a := by rw [z, nam_split]; exact List.mem_append_right _ List.mem_cons_self
    have k3 := k2 _ hm
    rw [decide_eq_true_eq] at k3
    exact (dg6 w hw).2 k3
  rw [e]
  rfl
theorem nam_ne {sc : Nat → Int32} {n w v : Nat} (hw : w < 6) (hv : v < 6) (h : w ≠ v) : namL sc n w ≠ namL sc n v := by
  intro z
  have e1 : (namL sc n w).getLast? = some (nI (48 + w)) := by rw [nam_split]; simp
  have e2 : (namL sc n v).getLast? = some (nI (48 + v)) := by rw [nam_split]; simp
  rw [z, e2] at e1
  have := (nI_eq (by omega) (by omega)).mp (Option.some.inj e1)
  omega
theorem dig_all : ∀ v, v < 90 → ((digL v).all fun x => decide (isDg x ≠ 0)) = true := by decide +kernel
theorem dig_mem {v : Nat} (hv : v < 90) : ∀ x ∈ digL v, isDg x ≠ 0 := by
  intro x hx
  have := List.all_eq_true.mp (dig_all v hv) x hx
  rw [decide_eq_true_eq] at this
  exact this
theorem dg_in {c : Int32} (h : isDg c ≠ 0) : 48 ≤ c ∧ c ≤ 57 := by
  unfold isDg at h
  refine ⟨Int32.not_lt.mp (fun z => ?_), Int32.not_lt.mp (fun z => ?_)⟩
  · rw [if_pos z] at h; exact h rfl
  · by_cases g : c < 48
    · rw [if_pos g] at h; exact h rfl
    · rw [if_neg g, if_pos z] at h; exact h rfl
theorem dig_hd {v : Nat} (hv : v < 90) : ∃ c r, digL v = c :: r ∧ 48 ≤ c ∧ c ≤ 57 := by
  cases h : digL v with
  | nil => unfold digL at h; split at h <;> simp at h
  | cons c r =>
    obtain ⟨h1, h2⟩ := dg_in (dig_mem hv c (by rw [h]; exact List.mem_cons_self))
    exact ⟨c, r, rfl, h1, h2⟩
theorem dig_v1 : ∀ v, v < 10 → nI (48 + v) - 48 = nI v := by decide +kernel
theorem dig_v2 : ∀ v, v < 90 → 10 ≤ v → (nI (48 + v / 10) - 48) * 10 + nI (48 + v % 10) - 48 = nI v := by decide +kernel
theorem pcO_N {sc : Nat → Int32} {n w bl : Nat} {R : List Int32} (hw : w < 6) (hR : stpH R = true) : pcO (bl, namL sc n w, 20) R := by
  obtain ⟨c, r, h1, h2, h3⟩ := nam_hd (sc := sc) (n := n) (w := w)
  have hl := (nam_len (sc := sc) (n := n) (w := w)).2
  exact pcO_w h1 h2 h3 (nam_mem hw) (by omega) (nam_key hw) (by decide) (by decide) hR
theorem pcO_V {sc : Nat → Int32} {n w bl : Nat} {R : List Int32} (hR : stpH R = true) : pcO (bl, digL (weiN sc n w), 21) R := by
  have hv := (weiN_in (sc := sc) (n := n) (w := w)).1
  obtain ⟨c, r, h1, h2, h3⟩ := dig_hd hv
  have hl := digL_len (w := weiN sc n w)
  exact pcO_n h1 h2 h3 (dig_mem hv) (by omega) hR
theorem pcO_k {bl : Nat} {c : Int32} {r R : List Int32} {k : Int32} (h : (decide (97 ≤ c) && decide (c ≤ 122) && ((c :: r).all fun x => decide (isLt x ≠ 0)) && decide ((c :: r).length ≤ 10) && decide ((if 0 ≤ fidx keyw (c :: r) 0 then fidx keyw (c :: r) 0 else 20) = k) && decide (k ≠ 24) && decide (k ≠ 25)) = true) (hR : stpH R = true) : pcO (bl, c :: r, k) R := by
  simp only [Bool.and_eq_true, decide_eq_true_eq] at h
  obtain ⟨⟨⟨⟨⟨⟨a1, a2⟩, a3⟩, a4⟩, a5⟩, a6⟩, a7⟩ := h
  exact pcO_w rfl a1 a2 (fun x hx => Or.inl (of_decide_eq_true (List.all_eq_true.mp a3 x hx))) a4 a5 a6 a7 hR
theorem pcO_d {bl : Nat} {c : Int32} {R : List Int32} (h : (decide (isDg c ≠ 0)) = true) (hR : stpH R = true) : pcO (bl, [c], 21) R := by
  rw [decide_eq_true_eq] at h
  obtain ⟨h1, h2⟩ := dg_in h
  exact pcO_n rfl h1 h2 (fun x hx => by rw [List.mem_singleton.mp hx]; exact h) (show (1 : Nat) ≤ 6 by decide) hR
def pcs (sc : Nat → Int32) (n : Nat) : List pcT := [(0, [107, 101, 121, 115], 4), (1, [97, 98, 99], 20), (0, [44], 44), (1, [100, 101], 20), (0, [59], 59), (1, [116, 97, 103], 0), (1, [116], 20), (0, [59], 59), (1, [116, 97, 103], 0), (1, [117], 20), (0, [59], 59), (0, [119, 111, 114, 100], 1), (1, namL sc n 0, 20), (1, [119, 101, 105, 103, 104, 116], 2), (1, digL (weiN sc n 0), 21), (1, [111, 102], 3), (1, [116], 20), (0, [59], 59), (0, [119, 111, 114, 100], 1), (1, namL sc n 1, 20), (1, [119, 101, 105, 103, 104, 116], 2), (1, digL (weiN sc n 1), 21), (1, [111, 102], 3), (1, [117], 20), (0, [59], 59), (0, [119, 111, 114, 100], 1), (1, namL sc n 2, 20), (1, [119, 101, 105, 103, 104, 116], 2), (1, digL (weiN sc n 2), 21), (0, [59], 59), (0, [119, 111, 114, 100], 1), (1, namL sc n 3, 20), (1, [119, 101, 105, 103, 104, 116], 2), (1, digL (weiN sc n 3), 21), (1, [111, 102], 3), (1, [116], 20), (0, [59], 59), (0, [119, 111, 114, 100], 1), (1, namL sc n 4, 20), (1, [119, 101, 105, 103, 104, 116], 2), (1, digL (weiN sc n 4), 21), (1, [111, 102], 3), (1, [117], 20), (0, [59], 59), (0, [119, 111, 114, 100], 1), (1, namL sc n 5, 20), (1, [119, 101, 105, 103, 104, 116], 2), (1, digL (weiN sc n 5), 21), (0, [59], 59), (0, [98, 111, 111, 115, 116], 5), (1, [116], 20), (1, [98, 121], 6), (1, [53], 21), (1, [42], 42), (1, [116, 121, 112, 101, 100], 8), (1, [45], 45), (1, [102, 97, 114], 11), (1, [119, 104, 101, 110], 7), (1, [98, 101, 103, 105, 110, 115], 13), (1, [97], 20), (1, [111, 114], 16), (1, [102, 97, 114], 11), (1, [62], 62), (1, [50], 21), (0, [59], 59)]
def kdL : List Int32 := [4, 20, 44, 20, 59, 0, 20, 59, 0, 20, 59, 1, 20, 2, 21, 3, 20, 59, 1, 20, 2, 21, 3, 20, 59, 1, 20, 2, 21, 59, 1, 20, 2, 21, 3, 20, 59, 1, 20, 2, 21, 3, 20, 59, 1, 20, 2, 21, 59, 5, 20, 6, 21, 42, 8, 45, 11, 7, 13, 20, 16, 11, 62, 21, 59]
theorem pcs_kd {sc : Nat → Int32} {n : Nat} : (pcs sc n).map (fun x => x.2.2) = kdL := rfl
theorem pcs_n {sc : Nat → Int32} {n : Nat} : (pcs sc n).length = 65 := rfl
theorem pcs_ok {sc : Nat → Int32} {n : Nat} : allO [] (pcs sc n) := ⟨pcO_k (by decide +kernel) rfl, pcO_k (by decide +kernel) rfl, pcO_s (by decide +kernel) (fun z => absurd z.1 (by decide)), pcO_k (by decide +kernel) rfl, pcO_s (by decide +kernel) (fun z => absurd z.1 (by decide)), pcO_k (by decide +kernel) rfl, pcO_k (by decide +kernel) rfl, pcO_s (by decide +kernel) (fun z => absurd z.1 (by decide)), pcO_k (by decide +kernel) rfl, pcO_k (by decide +kernel) rfl, pcO_s (by decide +kernel) (fun z => absurd z.1 (by decide)), pcO_k (by decide +kernel) rfl, pcO_N (by decide) rfl, pcO_k (by decide +kernel) rfl, pcO_V rfl, pcO_k (by decide +kernel) rfl, pcO_k (by decide +kernel) rfl, pcO_s (by decide +kernel) (fun z => absurd z.1 (by decide)), pcO_k (by decide +kernel) rfl, pcO_N (by decide) rfl, pcO_k (by decide +kernel) rfl, pcO_V rfl, pcO_k (by decide +kernel) rfl, pcO_k (by decide +kernel) rfl, pcO_s (by decide +kernel) (fun z => absurd z.1 (by decide)), pcO_k (by decide +kernel) rfl, pcO_N (by decide) rfl, pcO_k (by decide +kernel) rfl, pcO_V rfl, pcO_s (by decide +kernel) (fun z => absurd z.1 (by decide)), pcO_k (by decide +kernel) rfl, pcO_N (by decide) rfl, pcO_k (by decide +kernel) rfl, pcO_V rfl, pcO_k (by decide +kernel) rfl, pcO_k (by decide +kernel) rfl, pcO_s (by decide +kernel) (fun z => absurd z.1 (by decide)), pcO_k (by decide +kernel) rfl, pcO_N (by decide) rfl, pcO_k (by decide +kernel) rfl, pcO_V rfl, pcO_k (by decide +kernel) rfl, pcO_k (by decide +kernel) rfl, pcO_s (by decide +kernel) (fun z => absurd z.1 (by decide)), pcO_k (by decide +kernel) rfl, pcO_N (by decide) rfl, pcO_k (by decide +kernel) rfl, pcO_V rfl, pcO_s (by decide +kernel) (fun z => absurd z.1 (by decide)), pcO_k (by decide +kernel) rfl, pcO_k (by decide +kernel) rfl, pcO_k (by decide +kernel) rfl, pcO_d (by decide +kernel) rfl, pcO_s (by decide +kernel) (fun z => absurd z.1 (by decide)), pcO_k (by decide +kernel) rfl, pcO_s (by decide +kernel) (fun z => absurd z.1 (by decide)), pcO_k (by decide +kernel) rfl, pcO_k (by decide +kernel) rfl, pcO_k (by decide +kernel) rfl, pcO_k (by decide +kernel) rfl, pcO_k (by decide +kernel) rfl, pcO_k (by decide +kernel) rfl, pcO_s (by decide +kernel) (fun z => absurd z.2 (by decide)), pcO_d (by decide +kernel) rfl, pcO_s (by decide +kernel) (fun z => absurd z.1 (by decide)), trivial⟩
theorem sB_13 : sB 13 = [32] := rfl
theorem sB_14 : sB 14 = [107, 101, 121, 115, 32, 97, 98, 99, 44, 32, 100, 101, 59, 32, 116, 97, 103, 32, 116, 59, 32, 116, 97, 103, 32, 117, 59] := rfl
theorem sB_15 : sB 15 = [119, 111, 114, 100, 32] := rfl
theorem sB_16 : sB 16 = [32, 119, 101, 105, 103, 104, 116] := rfl
theorem sB_17 : sB 17 = [59] := rfl
theorem sB_18 : sB 18 = [32, 111, 102, 32, 116, 59] := rfl
theorem sB_19 : sB 19 = [32, 111, 102, 32, 117, 59] := rfl
theorem sB_20 : sB 20 = [98, 111, 111, 115, 116, 32, 116, 32, 98, 121, 32, 53, 32, 42, 32, 116, 121, 112, 101, 100, 32, 45, 32, 102, 97, 114, 32, 119, 104, 101, 110, 32, 98, 101, 103, 105, 110, 115, 32, 97, 32, 111, 114, 32, 102, 97, 114, 32, 62, 32, 50, 59] := rfl
theorem ren_pcs {sc : Nat → Int32} {n : Nat} : ren (pcs sc n) = taped sc n := by
  simp only [pcs, ren, taped, tapL, entL, endI, sB_13, sB_14, sB_15, sB_16, sB_20, List.replicate_zero, List.replicate_succ, List.append_assoc, List.cons_append, List.nil_append, List.append_nil, Nat.reduceMod, Nat.reduceEqDiff, if_true, if_false, reduceIte]
  rfl
