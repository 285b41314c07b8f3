/-! NAMES, KEYS, HAND -/
def namesS (B : pM) (q n : Nat) : Prop := pK B q = (1, 5) ∧ pP B q 0 = (q + 3) + 1 ∧ pP B q 1 = (q + 1) + 1 ∧ rowS B (q + 1) 0 ∧ pK B (q + 3) = (4, n) ∧ n < 1000 ∧ ∀ i, i < n → pP B (q + 3) i = (q + 4 + 2 * i) + 1 ∧ rowS B (q + 4 + 2 * i) 10
def Nm (I : pIm) (q n : Nat) (ls : List (List Int32)) : Prop := I q 2 = nI ls.length ∧ ls.length ≤ n ∧ Rw I (q + 1) [] ∧ ∀ i l, ls[i]? = some l → Rw I (q + 4 + 2 * i) l ∧ l.length ≤ 10
theorem Nm.f {I J : pIm} {q n lo hi : Nat} {ls : List (List Int32)} (h : Nm I q n ls) (hf : Fr lo hi I J) (hq : hi ≤ q ∨ q + 4 + 2 * n ≤ lo) : Nm J q n ls := by
  obtain ⟨h1, h2, h3, h4⟩ := h
  refine ⟨by rw [hf q (by omega)]; exact h1, h2, h3.f hf (by omega), fun i l hi => ?_⟩
  have hlt := (List.getElem?_eq_some_iff.mp hi).1
  exact ⟨(h4 i l hi).1.f hf (by omega), (h4 i l hi).2⟩
theorem Nm.len {I : pIm} {q n : Nat} {ls : List (List Int32)} (h : Nm I q n ls) : ∀ l ∈ ls, l.length ≤ 10 := fun l hl => by
  obtain ⟨i, hi⟩ := List.getElem?_of_mem hl
  exact (h.2.2.2 i l hi).2
def lat (ls : List (List Int32)) (i : Int32) : List Int32 := if i < 0 then [] else ls.getD i.toNatClampNeg []
theorem lat_nI {ls : List (List Int32)} {j : Nat} (h : j < 2 ^ 31) : lat ls (nI j) = ls.getD j [] := by unfold lat; rw [if_neg (nI_pos h), nI_clamp h]
theorem lat_in {ls : List (List Int32)} {j : Nat} {l : List Int32} (h : ls[j]? = some l) (hl : j < 2 ^ 31) : lat ls (nI j) = l := by
  rw [lat_nI hl, List.getD_eq_getElem?_getD, h]; rfl
theorem lat_out {ls : List (List Int32)} {j : Nat} (h : ls.length ≤ j) (hj : j < 2 ^ 31) : lat ls (nI j) = [] := by
  rw [lat_nI hj, List.getD_eq_getElem?_getD, List.getElem?_eq_none h]; rfl
theorem c_nsize {d : Nat} (hd : 1 ≤ d) {B : pM} {I : pIm} {q n : Nat} {ls : List (List Int32)} {K : Int32 → pM → Prop} (hq : namesS B q n) (hl : Nm I q n ls) (h : K (nI ls.length) (pset B I)) : pCall_i d mX5_size (0, 0) [.ref q] (pset B I) K := by
  refine CP_go hd okX5_size (Nat.le_of_ble_eq_true rfl) ?_
  refine bX5_size_0 ⟨hq.1, _, rfl, ?_⟩
  rw [show pI (pset B I) q 2 = nI ls.length from hl.1]
  exact h
/-- at(i): some row of theirs that holds it -/
theorem c_nat {d : Nat} (hd : 1 ≤ d) {B : pM} {I : pIm} {q n : Nat} {ls : List (List Int32)} {i : Int32} {K : Nat → pM → Prop} (hq : namesS B q n) (hl : Nm I q n ls) (h : ∀ a m, rowS B a m → (lat ls i).length ≤ m → Rw I a (lat ls i) → q < a → a + 1 < q + 4 + 2 * n → K a (pset B I)) : pCall_r d mX5_at (0, 0) [.ref q, .int i] (pset B I) K := by
  refine CP_go hd okX5_at (Nat.le_of_ble_eq_true rfl) ?_
  obtain ⟨q1, q2, q3, q4, q5, q6, q7⟩ := hq
  obtain ⟨l1, l2, l3, l4⟩ := hl
  have e1 : pI (pset B I) q 2 = nI ls.length := l1
  refine bX5_at_0 ⟨fun g => ⟨q1, q + 1, q3, _, rfl, ?_⟩, fun g => ⟨q1, fun g2 => ⟨q1, q + 1, q3, _, rfl, ?_⟩, fun g2 => ?_⟩⟩
  · have e : lat ls i = [] := by unfold lat; rw [if_pos g]
    rw [e] at h
    exact h (q + 1) 0 q4 (Nat.le_refl _) l3 (by omega) (by omega)
  · rw [e1] at g2
    obtain ⟨j, hj, rfl⟩ := nI_of g
    have := (nI_leI (by omega) hj).mp g2
    rw [lat_out this hj] at h
    exact h (q + 1) 0 q4 (Nat.le_refl _) l3 (by omega) (by omega)
  · rw [e1] at g2
    obtain ⟨j, hj, rfl⟩ := nI_of g
    have hlt : j < ls.length := Nat.not_le.mp (fun z => g2 ((nI_leI (by omega) hj).mpr z))
    obtain ⟨r1, r2⟩ := q7 j (by omega)
    obtain ⟨s1, s2⟩ := l4 j _ (List.getElem?_eq_getElem hlt)
    refine ⟨q1, q + 3, q2, n, q + 4 + 2 * j, q5, vp_inN (by omega) (by omega), ?_, _, rfl, ?_⟩
    · rw [nI_clamp hj]; exact r1
    · rw [lat_in (List.getElem?_eq_getElem hlt) hj] at h
      exact h _ 10 r2 s2 s1 (by omega) (by omega)
def fidx : List (List Int32) → List Int32 → Nat → Int32
  | [], _, _ => -1
  | a :: r, l, k => if a = l then nI k else fidx r l (k + 1)
/-- find(name) -/
theorem c_nfind {d : Nat} (hd : 3 ≤ d) {B : pM} {I : pIm} {q n q' n' : Nat} {ls : List (List Int32)} {l : List Int32} {K : Int32 → pM → Prop} (hq : namesS B q n) (hl : Nm I q n ls) (hq' : rowS B q' n') (hn' : l.length ≤ n') (hl' : Rw I q' l) (h : K (fidx ls l 0) (pset B I)) : pCall_i d mX5_find (0, 0) [.ref q, .ref q'] (pset B I) K := by
  refine CP_go (by omega) okX5_find (Nat.le_of_ble_eq_true rfl) ?_
  obtain ⟨q1, q2, q3, q4, q5, q6, q7⟩ := hq
  obtain ⟨l1, l2, l3, l4⟩ := hl
  have e1 : pI (pset B I) q 2 = nI ls.length := l1
  have key : ∀ (m k : Nat), ls.length - k = m → k ≤ ls.length → fidx ls l 0 = fidx (ls.drop k) l k → Go (d - 1) mX5_find (fun r M1 => ∃ v, r = .inl (some (.int v)) ∧ K v M1) 2 ([some (.ref q), some (.ref q'), some (.int (nI k))], [], 0, 0) (pset B I) := by
    intro m
    induction m with
    | zero =>
      intro k hm hk hc
      refine bX5_find_2 ⟨q1, fun g => ⟨_, rfl, ?_⟩, fun g => ?_⟩
      · rw [List.drop_of_length_le (by omega)] at hc
        rw [hc] at h; exact h
      · rw [e1] at g
        exact absurd (nI_le (show ls.length ≤ k by omega) (by omega)) g
    | succ m ih =>
      intro k hm hk hc
      have hlt : k < ls.length := by omega
      obtain ⟨r1, r2⟩ := q7 k (by omega)
      obtain ⟨s1, s2⟩ := l4 k _ (List.getElem?_eq_getElem hlt)
      rw [List.drop_eq_getElem_cons hlt, fidx] at hc
      refine bX5_find_2 ⟨q1, fun g => ?_, fun g => ⟨q1, q + 3, q2, n, q + 4 + 2 * k, q5, vp_inN (by omega) (by omega), ?_, r2.1, ?_⟩⟩
      · rw [e1] at g
        exact absurd ((nI_leI (by omega) (by omega)).mp g) (by omega)
      · rw [nI_clamp (by omega)]; exact r1
      · refine c_isSame (by omega) r2 hq' s2 hn' s1 hl' ⟨fun g2 => ?_, fun g2 => ⟨_, rfl, ?_⟩⟩
        · rw [bI_eq0] at g2
          rw [if_neg g2] at hc
          rw [nI_1]
          exact ih (k + 1) (by omega) (by omega) hc
        · rw [bI_eq0] at g2
          rw [if_pos (Classical.not_not.mp g2)] at hc
          rw [hc] at h
          exact h
  exact bX5_find_0 (key _ 0 rfl (by omega) (by simp))
theorem copyl_self {l : List Int32} (h : l.length < 2 ^ 31) : copyl l 0 l.length = l := by
  refine List.ext_getElem? (fun i => ?_)
  unfold copyl
  rw [List.getElem?_map]
  by_cases hi : i < l.length
  · rw [List.getElem?_range hi, List.getElem?_eq_getElem hi, Option.map_some, Int32.zero_add, rat_in (List.getElem?_eq_getElem hi) h]
  · rw [List.getElem?_eq_none (by simpa using hi), List.getElem?_eq_none (by omega)]; rfl
/-- add(name) -/
theorem c_nadd {d : Nat} (hd : 3 ≤ d) {B : pM} {I : pIm} {q n q' n' : Nat} {ls : List (List Int32)} {l : List Int32} {K : Int32 → pM → Prop} (hq : namesS B q n) (hl : Nm I q n ls) (hq' : rowS B q' n') (hn' : l.length ≤ n') (h10 : l.length ≤ 10) (hne : q' + 1 < q ∨ q + 4 + 2 * n ≤ q') (hl' : Rw I q' l) (h1 : ls.length < n → ∀ J, Nm J q n (ls ++ [l]) → Fr q (q + 4 + 2 * n) I J → K (nI ls.length) (pset B J)) (h2 : ls.length = n → K (-1) (pset B I)) : pCall_i d mX5_add (0, 0) [.ref q, .ref q'] (pset B I) K := by
  refine CP_go (by omega) okX5_add (Nat.le_of_ble_eq_true rfl) ?_
  obtain ⟨q1, q2, q3, q4, q5, q6, q7⟩ := hq
  obtain ⟨l1, l2, l3, l4⟩ := hl
  have e1 : pI (pset B I) q 2 = nI ls.length := l1
  refine bX5_add_0 ⟨q1, q1, q + 3, q2, n, q5, fun g => ?_, fun g => ⟨_, rfl, ?_⟩⟩
  · rw [e1] at g ⊢
    have hlt : ls.length < n := (nI_ltI (by omega) (by omega)).mp g
    obtain ⟨r1, r2⟩ := q7 ls.length hlt
    refine ⟨q1, q + 3, q2, q1, n, q + 4 + 2 * ls.length, q5, vp_inN hlt (by omega), ?_, hq'.1, ?_⟩
    · rw [nI_clamp (by omega)]; exact r1
    · have e0 : nI 0 = 0 := nI_0
      refine c_size (by omega) hq' hl' ⟨r2.1, ?_⟩
      refine c_copy (by omega) r2 hq' (by omega) hn' hl' (fun J hJ hf => ⟨q1, q1, q1, _, rfl, ?_⟩)
      have e2 : pI (pset B J) q 2 = nI ls.length := by show J q 2 = _; rw [hf q (by omega)]; exact l1
      have e3 : psI (pset B J) q 2 (pI (pset B J) q 2 + 1) = pset B (u2 J q 2 (nI (ls.length + 1))) := by rw [e2, nI_1]; rfl
      rw [e3]
      have e4 : pI (pset B (u2 J q 2 (nI (ls.length + 1)))) q 2 - 1 = nI ls.length := by
        show u2 J q 2 _ q 2 - 1 = _
        rw [u2_same, nI_pred]
      rw [e4]
      refine h1 hlt _ ⟨by rw [u2_same]; simp, by simp; omega, ?_, fun i l2 hi => ?_⟩ (Fr.tr (hf.mono (by omega) (by omega)) (Fr.u (by omega) (by omega)))
      · exact (l3.f hf (by omega)).fr (u2_a (by omega)) (u2_a (by omega))
      · by_cases e : i < ls.length
        · rw [List.getElem?_append_left e] at hi
          obtain ⟨s1, s2⟩ := l4 i l2 hi
          exact ⟨(s1.f hf (by omega)).fr (u2_a (by omega)) (u2_a (by omega)), s2⟩
        · rw [List.getElem?_append_right (by omega)] at hi
          have hk : i - ls.length < 1 := (List.getElem?_eq_some_iff.mp hi).1
          have e9 : i = ls.length := by omega
          subst e9
          have e8 : l = l2 := by simpa using hi
          subst e8
          have e7 : min (nI l.length).toNatClampNeg 10 = l.length := by rw [nI_clamp (by omega)]; omega
          rw [e7, copyl_self (by omega)] at hJ
          exact ⟨hJ.fr (u2_a (by omega)) (u2_a (by omega)), h10⟩
  · rw [e1] at g
    have : ¬ ls.length < n := fun z => g ((nI_ltI (by omega) (by omega)).mpr z)
    exact h2 (by omega)
theorem c_nclear {d : Nat} (hd : 1 ≤ d) {B : pM} {I : pIm} {q n : Nat} {K : pM → Prop} (hq : namesS B q n) (hl : Rw I (q + 1) []) (h : ∀ J : pIm, Nm J q n [] → Fr q (q + 1) I J → K (pset B J)) : pCall_v d mX5_clear (0, 0) [.ref q] (pset B I) K := by
  refine CP_go hd okX5_clear (Nat.le_of_ble_eq_true rfl) ?_
  refine bX5_clear_0 ⟨hq.1, rfl, h _ ⟨u2_same, Nat.zero_le _, hl.fr (u2_a (by omega)) (u2_a (by omega)), fun i l hi => by simp at hi⟩ (Fr.u (by omega) (by omega))⟩
/-! keys -/
def keysS (B : pM) (q : Nat) : Prop := pK B q = (1, 4) ∧ pP B q 0 = (q + 1) + 1 ∧ pP B q 1 = (q + 3) + 1 ∧ rowS B (q + 1) 128 ∧ rowS B (q + 3) 128
def Kv (I : pIm) (q : Nat) (ro po : List Int32) (nr : Int32) : Prop := Rw I (q + 1) ro ∧ Rw I (q + 3) po ∧ ro.length = 128 ∧ po.length = 128 ∧ I q 2 = nr
theorem Kv.f {I J : pIm} {q lo hi : Nat} {ro po : List Int32} {nr : Int32} (h : Kv I q ro po nr) (hf : Fr lo hi I J) (hq : hi ≤ q ∨ q + 5 ≤ lo) : Kv J q ro po nr := by
  obtain ⟨h1, h2, h3, h4, h5⟩ := h
  exact ⟨h1.f hf (by omega), h2.f hf (by omega), h3, h4, by rw [hf q (by omega)]; exact h5⟩
theorem c_kclear {d : Nat} (hd : 3 ≤ d) {B : pM} {I : pIm} {q : Nat} {K : pM → Prop} (hq : keysS B q) (h : ∀ J : pIm, Kv J q (List.replicate 128 (-1)) (List.replicate 128 (-1)) 0 → Fr q (q + 5) I J → K (pset B J)) : pCall_v d mX4_clear (0, 0) [.ref q] (pset B I) K := by
  refine CP_go (by omega) okX4_clear (Nat.le_of_ble_eq_true rfl) ?_
  obtain ⟨q1, q2, q3, q4, q5⟩ := hq
  refine bX4_clear_0 ⟨q1, q + 1, q2, q4.1, ?_⟩
  refine c_fill (by omega) q4 (fun J h1 f1 => ⟨q1, q + 3, q3, q5.1, ?_⟩)
  refine c_fill (by omega) q5 (fun J2 h2 f2 => ⟨q1, rfl, ?_⟩)
  refine h _ ⟨(h1.f f2 (by omega)).fr (u2_a (by omega)) (u2_a (by omega)), h2.fr (u2_a (by omega)) (u2_a (by omega)), by simp, by simp, u2_same⟩ ?_
  exact ((f1.mono (by omega) (by omega)).tr (f2.mono (by omega) (by omega))).tr (Fr.u (by omega) (by omega))
theorem c_krows {d : Nat} (hd : 1 ≤ d) {B : pM} {I : pIm} {q : Nat} {ro po : List Int32} {nr : Int32} {K : Int32 → pM → Prop} (hq : keysS B q) (hl : Kv I q ro po nr) (h : K nr (pset B I)) : pCall_i d mX4_rows (0, 0) [.ref q] (pset B I) K := by
  refine CP_go hd okX4_rows (Nat.le_of_ble_eq_true rfl) ?_
  refine bX4_rows_0 ⟨hq.1, _, rfl, ?_⟩
  rw [show pI (pset B I) q 2 = nr from hl.2.2.2.2]
  exact h
/-- whether two bytes are neighbours: 0 or 1 -/
def nbr (ro po : List Int32) (a b : Int32) : Int32 :=
  if rat ro a < 0 then 0 else if 0 ≤ rat ro b then
    (if rat ro a = rat ro b then (if rat po b - rat po a = 1 then 1 else if rat po b - rat po a = -1 then 1 else 0)
     else if rat ro a = rat ro b + 1 then (if rat po b - rat po a = 0 then 1 else if rat po b - rat po a = 1 then 1 else 0)
     else if rat ro b = rat ro a + 1 then (if rat po b - rat po a = 0 then 1 else if rat po b - rat po a = -1 then 1 else 0) else 0) else 0
theorem c_areNeighbours {d : Nat} (hd : 2 ≤ d) {B : pM} {I : pIm} {q : Nat} {ro po : List Int32} {nr a b : Int32} {K : Int32 → pM → Prop} (hq : keysS B q) (hl : Kv I q ro po nr) (h : K (nbr ro po a b) (pset B I)) : pCall_i d mX4_areNeighbours (0, 0) [.ref q, .int a, .int b] (pset B I) K := by
  refine CP_go (by omega) okX4_areNeighbours (Nat.le_of_ble_eq_true rfl) ?_
  obtain ⟨q1, q2, q3, q4, q5⟩ := hq
  obtain ⟨h1, h2, h3, h4, h5⟩ := hl
  unfold nbr at h
  refine bX4_areNeighbours_0 ⟨q1, q + 1, q2, q4.1, ?_⟩
  refine c_at (by omega) q4 (by omega) h1 ⟨q1, q + 1, q2, q4.1, ?_⟩
  refine c_at (by omega) q4 (by omega) h1 ⟨fun g => ⟨_, rfl, by rw [if_pos g] at h; exact h⟩, fun g => ?_⟩
  rw [if_neg g] at h
  refine ⟨fun g2 => ?_, fun g2 => ⟨_, rfl, by rw [if_neg g2] at h; exact h⟩⟩
  rw [if_pos g2] at h
  refine ⟨q1, q + 3, q3, q5.1, ?_⟩
  refine c_at (by omega) q5 (by omega) h2 ⟨q1, q + 3, q3, q5.1, ?_⟩
  refine c_at (by omega) q5 (by omega) h2 ⟨fun g3 => ?_, fun g3 => ?_⟩
  · rw [if_pos g3] at h
    refine ⟨fun g4 => ⟨_, rfl, by rw [if_pos g4] at h; exact h⟩, fun g4 => ?_⟩
    rw [if_neg g4] at h
    exact ⟨fun g5 => ⟨_, rfl, by rw [if_pos g5] at h; exact h⟩, fun g5 => ⟨_, rfl, by rw [if_neg g5] at h; exact h⟩⟩
  · rw [if_neg g3] at h
    refine ⟨fun g4 => ?_, fun g4 => ?_⟩
    · rw [if_pos g4] at h
      refine ⟨fun g5 => ⟨_, rfl, by rw [if_pos g5] at h; exact h⟩, fun g5 => ?_⟩
      rw [if_neg g5] at h
      exact ⟨fun g6 => ⟨_, rfl, by rw [if_pos g6] at h; exact h⟩, fun g6 => ⟨_, rfl, by rw [if_neg g6] at h; exact h⟩⟩
    · rw [if_neg g4] at h
      refine ⟨fun g5 => ?_, fun g5 => ⟨_, rfl, by rw [if_neg g5] at h; exact h⟩⟩
      rw [if_pos g5] at h
      refine ⟨fun g6 => ⟨_, rfl, by rw [if_pos g6] at h; exact h⟩, fun g6 => ?_⟩
      rw [if_neg g6] at h
      exact ⟨fun g7 => ⟨_, rfl, by rw [if_pos g7] at h; exact h⟩, fun g7 => ⟨_, rfl, by rw [if_neg g7] at h; exact h⟩⟩
/-- a row of keys, byte by byte; none if a byte stands there already -/
def addK (nr : Int32) : List Int32 → Nat → List Int32 × List Int32 → Option (List Int32 × List Int32)
  | [], _, r => some r
  | c :: l, k, r => if rat r.1 c < 0 then addK nr l (k + 1) (rput r.1 c nr, rput r.2 c (nI k)) else none
theorem c_addRow {d : Nat} (hd : 2 ≤ d) {B : pM} {I : pIm} {q q' n' : Nat} {ro po l : List Int32} {nr : Int32} {K : Int32 → pM → Prop} (hq : keysS B q) (hl : Kv I q ro po nr) (hq' : rowS B q' n') (hn' : l.length ≤ n') (hne : q' + 1 < q ∨ q + 5 ≤ q') (hl' : Rw I q' l)
    (h1 : ∀ J r, addK nr l 0 (ro, po) = some r → Kv J q r.1 r.2 (nr + 1) → Fr q (q + 5) I J → K 1 (pset B J)) (h2 : ∀ J ro2 po2, addK nr l 0 (ro, po) = none → Kv J q ro2 po2 nr → Fr q (q + 5) I J → K 0 (pset B J)) : pCall_i d mX4_addRow (0, 0) [.ref q, .ref q'] (pset B I) K := by
  refine CP_go (by omega) okX4_addRow (Nat.le_of_ble_eq_true rfl) ?_
  obtain ⟨q1, q2, q3, q4, q5⟩ := id hq
  have r4 := hq'.2.2.2
  have key : ∀ (m k : Nat) (J : pIm) (r2 p2 : List Int32), l.length - k = m → k ≤ l.length → addK nr l 0 (ro, po) = addK nr (l.drop k) k (r2, p2) → Kv J q r2 p2 nr → Fr q (q + 5) I J → Go (d - 1) mX4_addRow (fun r M1 => ∃ v, r = .inl (some (.int v)) ∧ K v M1) 2 ([some (.ref q), some (.ref q'), some (.int (nI k)), none], [], 0, 0) (pset B J) := by
    intro m
    induction m with
    | zero =>
      intro k J r2 p2 hm hk hc hJ hf
      obtain ⟨j1, j2, j3, j4, j5⟩ := hJ
      refine bX4_addRow_2 ⟨hq'.1, c_size (by omega) hq' (hl'.f hf (by omega)) ⟨fun g => ⟨q1, q1, _, rfl, ?_⟩, fun g => absurd (nI_le (show l.length ≤ k by omega) (by omega)) g⟩⟩
      rw [List.drop_of_length_le (by omega)] at hc
      have e : pI (pset B J) q 2 = nr := j5
      rw [e]
      exact h1 _ (r2, p2) hc ⟨j1.fr (u2_a (by omega)) (u2_a (by omega)), j2.fr (u2_a (by omega)) (u2_a (by omega)), j3, j4, u2_same⟩ (hf.tr (Fr.u (by omega) (by omega)))
    | succ m ih =>
      intro k J r2 p2 hm hk hc hJ hf
      obtain ⟨j1, j2, j3, j4, j5⟩ := id hJ
      have hlt : k < l.length := by omega
      have hrl := hl'.f hf (by omega)
      refine bX4_addRow_2 ⟨hq'.1, c_size (by omega) hq' hrl ⟨fun g => absurd ((nI_leI (by omega) (by omega)).mp g) (by omega), fun g => ⟨hq'.1, ?_⟩⟩⟩
      refine c_at (by omega) hq' hn' hrl ⟨q1, q + 1, q2, q4.1, ?_⟩
      rw [rat_in (List.getElem?_eq_getElem hlt) (by omega)]
      rw [List.drop_eq_getElem_cons hlt, addK] at hc
      refine c_at (by omega) q4 (by omega) j1 ⟨fun g2 => ⟨q1, q + 1, q2, q1, q4.1, ?_⟩, fun g2 => ⟨_, rfl, ?_⟩⟩
      · rw [if_pos g2] at hc
        have e : pI (pset B J) q 2 = nr := j5
        rw [e]
        refine c_put (by omega) q4 (by omega) j1 (fun J2 k1 f2 => ⟨q1, q + 3, q3, q5.1, ?_⟩)
        refine c_put (by omega) q5 (by omega) (j2.f f2 (by omega)) (fun J3 k2 f3 => ?_)
        rw [nI_1]
        refine ih (k + 1) J3 _ _ (by omega) (by omega) hc ⟨k1.f f3 (by omega), k2, by rw [rput_len]; exact j3, by rw [rput_len]; exact j4, ?_⟩ ((hf.tr (f2.mono (by omega) (by omega))).tr (f3.mono (by omega) (by omega)))
        rw [f3 q (by omega), f2 q (by omega)]
        exact j5
      · rw [if_neg g2] at hc
        exact h2 J r2 p2 hc hJ hf
  exact bX4_addRow_0 (key _ 0 I ro po rfl (by omega) (by simp) hl Fr.rf)
/-! hand -/
def handS (B : pM) (q : Nat) : Prop := pK B q = (1, 3) ∧ pP B q 0 = (q + 1) + 1 ∧ rowS B (q + 1) 20
def Hd (I : pIm) (q : Nat) (ty : List Int32) (tk la li : Int32) : Prop := Rw I (q + 1) ty ∧ ty.length ≤ 20 ∧ I q 1 = tk ∧ I q 2 = la ∧ I q 3 = li
theorem Hd.f {I J : pIm} {q lo hi : Nat} {ty : List Int32} {tk la li : Int32} (h : Hd I q ty tk la li) (hf : Fr lo hi I J) (hq : hi ≤ q ∨ q + 3 ≤ lo) : Hd J q ty tk la li := by
  obtain ⟨h1, h2, h3, h4, h5⟩ := h
  have e := hf q (by omega)
  exact ⟨h1.f hf (by omega), h2, by rw [e]; exact h3, by rw [e]; exact h4, by rw [e]; exact h5⟩
theorem c_forget {d : Nat} (hd : 2 ≤ d) {B : pM} {I : pIm} {q : Nat} {ty : List Int32} {tk la li : Int32} {K : pM → Prop} (hq : handS B q) (hl : Hd I q ty tk la li) (h : ∀ J : pIm, Hd J q [] 0 (-1) li → Fr q (q + 3) I J → K (pset B J)) : pCall_v d mX3_forget (0, 0) [.ref q] (pset B I) K := by
  refine CP_go (by omega) okX3_forget (Nat.le_of_ble_eq_true rfl) ?_
  obtain ⟨q1, q2, q3⟩ := hq
  obtain ⟨l1, l2, l3, l4, l5⟩ := hl
  refine bX3_forget_0 ⟨q1, q + 1, q2, q3.1, ?_⟩
  refine c_clear (by omega) q3 (fun J h1 f1 => ⟨q1, q1, rfl, ?_⟩)
  refine h (u2 (u2 J q 1 0) q 2 (-1)) ⟨(h1.fr (u2_a (by omega)) (u2_a (by omega))).fr (u2_a (by omega)) (u2_a (by omega)), by simp, ?_, u2_same, ?_⟩ (((f1.mono (by omega) (by omega)).tr (Fr.u (by omega) (by omega))).tr (Fr.u (by omega) (by omega)))
  · rw [u2_j (by decide), u2_same]
  · rw [u2_j (by decide), u2_j (by decide), f1 q (by omega)]; exact l5
theorem c_suppose {d : Nat} (hd : 2 ≤ d) {B : pM} {I : pIm} {q q' : Nat} {ty : List Int32} {tk la li : Int32} {K : pM → Prop} (hq : handS B q) (hq' : handS B q') (hne : q' + 3 ≤ q ∨ q + 3 ≤ q') (hl : Hd I q' ty tk la li) (h : ∀ J : pIm, Hd J q [] tk la li → Fr q (q + 3) I J → K (pset B J)) : pCall_v d mX3_supposeNothingTyped (0, 0) [.ref q, .ref q'] (pset B I) K := by
  refine CP_go (by omega) okX3_supposeNothingTyped (Nat.le_of_ble_eq_true rfl) ?_
  obtain ⟨q1, q2, q3⟩ := hq
  obtain ⟨l1, l2, l3, l4, l5⟩ := hl
  refine bX3_supposeNothingTyped_0 ⟨q1, q + 1, q2, q3.1, ?_⟩
  refine c_clear (by omega) q3 (fun J h1 f1 => ⟨hq'.1, q1, hq'.1, q1, hq'.1, q1, rfl, ?_⟩)
  have e0 := f1 q' (by omega)
  have e1 : pI (pset B J) q' 1 = tk := by show J q' 1 = _; rw [e0]; exact l3
  rw [e1]
  have e2 : pI (psI (pset B J) q 1 tk) q' 2 = la := by show u2 J q 1 tk q' 2 = _; rw [u2_a (by omega), e0]; exact l4
  rw [e2]
  have e3 : pI (psI (psI (pset B J) q 1 tk) q 2 la) q' 3 = li := by show u2 (u2 J q 1 tk) q 2 la q' 3 = _; rw [u2_a (by omega), u2_a (by omega), e0]; exact l5
  rw [e3]
  refine h (u2 (u2 (u2 J q 1 tk) q 2 la) q 3 li) ⟨((h1.fr (u2_a (by omega)) (u2_a (by omega))).fr (u2_a (by omega)) (u2_a (by omega))).fr (u2_a (by omega)) (u2_a (by omega)), by simp, ?_, ?_, u2_same⟩ ((((f1.mono (by omega) (by omega)).tr (Fr.u (by omega) (by omega))).tr (Fr.u (by omega) (by omega))).tr (Fr.u (by omega) (by omega)))
  · rw [u2_j (by decide), u2_j (by decide), u2_same]
  · rw [u2_j (by decide), u2_same]
