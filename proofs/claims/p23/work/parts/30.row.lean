/-! ROWS OF INTS (WordPad$Row): a row at q holds a list; its cells are at q + 1 -/
abbrev pIm : Type := Nat → Nat → Int32
def pset (B : pM) (I : pIm) : pM := (B.1, I, B.2.2)
theorem psI_set {B : pM} {I : pIm} {a j : Nat} {v : Int32} : psI (pset B I) a j v = pset B (u2 I a j v) := rfl
theorem pset_self (M : pM) : pset M (pI M) = M := rfl
/-- the ints outside [lo, hi) are the same -/
def Fr (lo hi : Nat) (I J : pIm) : Prop := ∀ a, (a < lo ∨ hi ≤ a) → J a = I a
theorem Fr.rf {lo hi : Nat} {I : pIm} : Fr lo hi I I := fun _ _ => rfl
theorem Fr.tr {lo hi : Nat} {I J K : pIm} (h : Fr lo hi I J) (g : Fr lo hi J K) : Fr lo hi I K := fun a ha => (g a ha).trans (h a ha)
theorem Fr.mono {lo hi lo' hi' : Nat} {I J : pIm} (h : Fr lo hi I J) (h1 : lo' ≤ lo) (h2 : hi ≤ hi') : Fr lo' hi' I J := fun a ha => h a (by omega)
theorem Fr.u {lo hi a j : Nat} {I : pIm} {v : Int32} (h1 : lo ≤ a) (h2 : a < hi) : Fr lo hi I (u2 I a j v) := fun b hb => by
  funext x
  unfold u2
  rw [if_neg (by omega)]
theorem u2_same {I : pIm} {a j : Nat} {v : Int32} : u2 I a j v a j = v := by unfold u2; rw [if_pos ⟨rfl, rfl⟩]
theorem u2_j {I : pIm} {a j k : Nat} {v : Int32} (h : k ≠ j) : u2 I a j v a k = I a k := by unfold u2; rw [if_neg (fun q => h q.2)]
theorem u2_a {I : pIm} {a b j : Nat} {v : Int32} (h : b ≠ a) : u2 I a j v b = I b := by funext x; unfold u2; rw [if_neg (fun q => h q.1)]
def rowS (B : pM) (q n : Nat) : Prop := pK B q = (1, 9) ∧ pP B q 0 = (q + 1) + 1 ∧ pK B (q + 1) = (2, n) ∧ n < 1000000
def Rw (I : pIm) (q : Nat) (l : List Int32) : Prop := I q 1 = nI l.length ∧ ∀ j x, l[j]? = some x → I (q + 1) j = x
theorem Rw.fr {I J : pIm} {q : Nat} {l : List Int32} (h : Rw I q l) (h1 : J q = I q) (h2 : J (q + 1) = I (q + 1)) : Rw J q l := ⟨by rw [h1]; exact h.1, fun j x hx => by rw [h2]; exact h.2 j x hx⟩
theorem Rw.f {I J : pIm} {q lo hi : Nat} {l : List Int32} (h : Rw I q l) (hf : Fr lo hi I J) (hq : q + 1 < lo ∨ hi ≤ q) : Rw J q l := h.fr (hf q (by omega)) (hf (q + 1) (by omega))
def rat (l : List Int32) (i : Int32) : Int32 := if i < 0 then -1 else l.getD i.toNatClampNeg (-1)
theorem rat_nI {l : List Int32} {j : Nat} (h : j < 2 ^ 31) : rat l (nI j) = l.getD j (-1) := by unfold rat; rw [if_neg (nI_pos h), nI_clamp h]
theorem rat_in {l : List Int32} {j : Nat} {x : Int32} (h : l[j]? = some x) (hl : l.length < 2 ^ 31) : rat l (nI j) = x := by
  have hj := (List.getElem?_eq_some_iff.mp h).1
  rw [rat_nI (by omega), List.getD_eq_getElem?_getD, h]; rfl
theorem rat_out {l : List Int32} {j : Nat} (h : l.length ≤ j) (hj : j < 2 ^ 31) : rat l (nI j) = -1 := by
  rw [rat_nI hj, List.getD_eq_getElem?_getD, List.getElem?_eq_none h]; rfl
theorem vp_inN {j n : Nat} (h : j < n) (hn : n < 1000000) : vp_in (nI j) n := vp_in_nI h (by omega)
theorem i32_lt_ge {i j : Int32} (h : ¬ i < j) : j ≤ i := Int32.not_lt.mp h
/-- size() -/
theorem c_size {d : Nat} (hd : 1 ≤ d) {B : pM} {I : pIm} {q n : Nat} {l : List Int32} {K : Int32 → pM → Prop} (hq : rowS B q n) (hl : Rw I q l) (h : K (nI l.length) (pset B I)) : pCall_i d mX9_size (0, 0) [.ref q] (pset B I) K := by
  refine CP_go hd okX9_size (Nat.le_of_ble_eq_true rfl) ?_
  refine bX9_size_0 ⟨hq.1, _, rfl, ?_⟩
  rw [show pI (pset B I) q 1 = nI l.length from hl.1]
  exact h
theorem c_isFull {d : Nat} (hd : 1 ≤ d) {B : pM} {I : pIm} {q n : Nat} {l : List Int32} {K : Int32 → pM → Prop} (hq : rowS B q n) (hn : l.length ≤ n) (hl : Rw I q l) (h : K (if l.length < n then 0 else 1) (pset B I)) : pCall_i d mX9_isFull (0, 0) [.ref q] (pset B I) K := by
  refine CP_go hd okX9_isFull (Nat.le_of_ble_eq_true rfl) ?_
  obtain ⟨q1, q2, q3, q4⟩ := hq
  refine bX9_isFull_0 ⟨q1, q1, q + 1, q2, n, q3, fun g => ⟨_, rfl, ?_⟩, fun g => ⟨_, rfl, ?_⟩⟩
  · rw [show pI (pset B I) q 1 = nI l.length from hl.1] at g
    have : l.length < n := (nI_ltI (by omega) (by omega)).mp g
    rw [if_pos this] at h
    exact h
  · rw [show pI (pset B I) q 1 = nI l.length from hl.1] at g
    have : ¬ l.length < n := fun z => g ((nI_ltI (by omega) (by omega)).mpr z)
    rw [if_neg this] at h
    exact h
/-- at(i) -/
theorem c_at {d : Nat} (hd : 1 ≤ d) {B : pM} {I : pIm} {q n : Nat} {l : List Int32} {i : Int32} {K : Int32 → pM → Prop} (hq : rowS B q n) (hn : l.length ≤ n) (hl : Rw I q l) (h : K (rat l i) (pset B I)) : pCall_i d mX9_at (0, 0) [.ref q, .int i] (pset B I) K := by
  refine CP_go hd okX9_at (Nat.le_of_ble_eq_true rfl) ?_
  obtain ⟨q1, q2, q3, q4⟩ := hq
  refine bX9_at_0 ⟨fun g => ⟨_, rfl, ?_⟩, fun g => ⟨q1, fun g2 => ⟨_, rfl, ?_⟩, fun g2 => ⟨q1, q + 1, q2, n, q3, ?_⟩⟩⟩
  · unfold rat at h
    rw [if_pos g] at h
    exact h
  · rw [show pI (pset B I) q 1 = nI l.length from hl.1] at g2
    obtain ⟨j, hj, rfl⟩ := nI_of g
    have := (nI_leI (by omega) hj).mp g2
    rw [rat_out this hj] at h
    exact h
  · rw [show pI (pset B I) q 1 = nI l.length from hl.1] at g2
    obtain ⟨j, hj, rfl⟩ := nI_of g
    have hlt : j < l.length := Nat.not_le.mp (fun z => g2 ((nI_leI (by omega) hj).mpr z))
    refine ⟨vp_inN (by omega) q4, _, rfl, ?_⟩
    rw [nI_clamp hj, show pI (pset B I) (q + 1) j = l[j] from hl.2 j _ (List.getElem?_eq_getElem hlt)]
    rw [rat_in (List.getElem?_eq_getElem hlt) (by omega)] at h
    exact h
def rput (l : List Int32) (i v : Int32) : List Int32 := if i < 0 then l else l.set i.toNatClampNeg v
theorem rput_len {l : List Int32} {i v : Int32} : (rput l i v).length = l.length := by unfold rput; split <;> simp
theorem rput_nI {l : List Int32} {j : Nat} {v : Int32} (h : j < 2 ^ 31) : rput l (nI j) v = l.set j v := by unfold rput; rw [if_neg (nI_pos h), nI_clamp h]
theorem Rw.put {I : pIm} {q j : Nat} {l : List Int32} {v : Int32} (h : Rw I q l) : Rw (u2 I (q + 1) j v) q (l.set j v) := by
  refine ⟨?_, fun k x hx => ?_⟩
  · rw [u2_a (by omega), List.length_set]; exact h.1
  · rw [List.getElem?_set] at hx
    by_cases e : j = k
    · subst e
      rw [if_pos rfl] at hx
      rw [u2_same]
      split at hx
      · exact Option.some.inj hx
      · cases hx
    · rw [if_neg e] at hx
      rw [u2_j (Ne.symm e)]
      exact h.2 k x hx
/-- put(i, v) -/
theorem c_put {d : Nat} (hd : 1 ≤ d) {B : pM} {I : pIm} {q n : Nat} {l : List Int32} {i v : Int32} {K : pM → Prop} (hq : rowS B q n) (hn : l.length ≤ n) (hl : Rw I q l) (h : ∀ J : pIm, Rw J q (rput l i v) → Fr (q + 1) (q + 2) I J → K (pset B J)) : pCall_v d mX9_put (0, 0) [.ref q, .int i, .int v] (pset B I) K := by
  refine CP_go hd okX9_put (Nat.le_of_ble_eq_true rfl) ?_
  obtain ⟨q1, q2, q3, q4⟩ := hq
  refine bX9_put_0 ⟨fun g => ⟨rfl, ?_⟩, fun g => ⟨q1, fun g2 => ⟨rfl, ?_⟩, fun g2 => ⟨q1, q + 1, q2, n, q3, ?_⟩⟩⟩
  · refine h I ?_ Fr.rf
    unfold rput; rw [if_pos g]; exact hl
  · rw [show pI (pset B I) q 1 = nI l.length from hl.1] at g2
    obtain ⟨j, hj, rfl⟩ := nI_of g
    have := (nI_leI (by omega) hj).mp g2
    refine h I ?_ Fr.rf
    rw [rput_nI hj, List.set_eq_of_length_le this]; exact hl
  · rw [show pI (pset B I) q 1 = nI l.length from hl.1] at g2
    obtain ⟨j, hj, rfl⟩ := nI_of g
    have hlt : j < l.length := Nat.not_le.mp (fun z => g2 ((nI_leI (by omega) hj).mpr z))
    refine ⟨vp_inN (by omega) q4, rfl, ?_⟩
    rw [nI_clamp hj]
    refine h _ ?_ (Fr.u (by omega) (by omega))
    rw [rput_nI hj]
    exact hl.put
theorem Rw.add {I : pIm} {q : Nat} {l : List Int32} {v : Int32} (h : Rw I q l) : Rw (u2 (u2 I (q + 1) l.length v) q 1 (nI (l.length + 1))) q (l ++ [v]) := by
  refine ⟨by rw [u2_same]; simp, fun k x hx => ?_⟩
  rw [u2_a (by omega)]
  by_cases e : k < l.length
  · rw [List.getElem?_append_left e] at hx
    rw [u2_j (by omega)]
    exact h.2 k x hx
  · rw [List.getElem?_append_right (by omega)] at hx
    have hk : k - l.length < 1 := (List.getElem?_eq_some_iff.mp hx).1
    have e2 : k = l.length := by omega
    subst e2
    rw [u2_same]
    simpa using hx
/-- add(v) -/
theorem c_add {d : Nat} (hd : 1 ≤ d) {B : pM} {I : pIm} {q n : Nat} {l : List Int32} {v : Int32} {K : pM → Prop} (hq : rowS B q n) (hn : l.length ≤ n) (hl : Rw I q l) (h : ∀ J : pIm, Rw J q (if l.length < n then l ++ [v] else l) → Fr q (q + 2) I J → K (pset B J)) : pCall_v d mX9_add (0, 0) [.ref q, .int v] (pset B I) K := by
  refine CP_go hd okX9_add (Nat.le_of_ble_eq_true rfl) ?_
  obtain ⟨q1, q2, q3, q4⟩ := hq
  refine bX9_add_0 ⟨q1, q1, q + 1, q2, n, q3, fun g => ⟨rfl, ?_⟩, fun g => ⟨q1, q + 1, q2, q1, n, q3, ?_⟩⟩
  · rw [show pI (pset B I) q 1 = nI l.length from hl.1] at g
    have : n ≤ l.length := (nI_leI (by omega) (by omega)).mp g
    refine h I ?_ Fr.rf
    rw [if_neg (by omega)]; exact hl
  · rw [show pI (pset B I) q 1 = nI l.length from hl.1] at g
    have hlt : l.length < n := Nat.not_le.mp (fun z => g ((nI_leI (by omega) (by omega)).mpr z))
    rw [show pI (pset B I) q 1 = nI l.length from hl.1, nI_clamp (by omega)]
    refine ⟨vp_inN hlt q4, q1, q1, rfl, ?_⟩
    have e : pI (psI (pset B I) (q + 1) l.length v) q 1 = nI l.length := by
      show u2 I (q + 1) l.length v q 1 = _
      rw [u2_a (by omega)]; exact hl.1
    rw [e, nI_1]
    refine h _ ?_ (Fr.tr (Fr.u (I := I) (a := q + 1) (by omega) (by omega)) (Fr.u (by omega) (by omega)))
    rw [if_pos hlt]
    exact hl.add
theorem c_add' {d : Nat} (hd : 1 ≤ d) {B : pM} {I : pIm} {q n : Nat} {l : List Int32} {v : Int32} {K : pM → Prop} (hq : rowS B q n) (hn : l.length < n) (hl : Rw I q l) (h : ∀ J : pIm, Rw J q (l ++ [v]) → Fr q (q + 2) I J → K (pset B J)) : pCall_v d mX9_add (0, 0) [.ref q, .int v] (pset B I) K :=
  c_add hd hq (by omega) hl (fun J h1 h2 => h J (by rw [if_pos hn] at h1; exact h1) h2)
/-- removeLast() -/
theorem c_removeLast {d : Nat} (hd : 1 ≤ d) {B : pM} {I : pIm} {q n : Nat} {l : List Int32} {x : Int32} {K : Int32 → pM → Prop} (hq : rowS B q n) (hn : l.length < n) (hl : Rw I q (l ++ [x])) (h : ∀ J : pIm, Rw J q l → Fr q (q + 1) I J → K x (pset B J)) : pCall_i d mX9_removeLast (0, 0) [.ref q] (pset B I) K := by
  refine CP_go hd okX9_removeLast (Nat.le_of_ble_eq_true rfl) ?_
  obtain ⟨q1, q2, q3, q4⟩ := hq
  have e1 : pI (pset B I) q 1 = nI (l.length + 1) := by
    have := hl.1
    rw [List.length_append, List.length_singleton] at this
    exact this
  have e2 : psI (pset B I) q 1 (pI (pset B I) q 1 - 1) = pset B (u2 I q 1 (nI l.length)) := by rw [e1, nI_pred]; rfl
  refine bX9_removeLast_0 ⟨q1, fun g => ?_, fun g => ⟨q1, q1, ?_⟩⟩
  · rw [e1] at g
    exact absurd g (nI_ne0 (by omega) (by omega))
  · rw [e2]
    have e3 : pI (pset B (u2 I q 1 (nI l.length))) q 1 = nI l.length := u2_same
    rw [e3, nI_clamp (by omega)]
    refine ⟨q1, q + 1, q2, q1, n, q3, vp_inN hn q4, _, rfl, ?_⟩
    have e4 : pI (pset B (u2 I q 1 (nI l.length))) (q + 1) l.length = x := by
      show u2 I q 1 (nI l.length) (q + 1) l.length = x
      rw [u2_a (by omega)]
      exact hl.2 _ _ (by simp)
    rw [e4]
    refine h _ ⟨u2_same, fun j y hy => ?_⟩ (Fr.u (by omega) (by omega))
    rw [u2_a (by omega)]
    refine hl.2 j y ?_
    rw [List.getElem?_append_left (List.getElem?_eq_some_iff.mp hy).1]
    exact hy
/-- shorten(k) -/
theorem c_shorten {d : Nat} (hd : 1 ≤ d) {B : pM} {I : pIm} {q n k : Nat} {l : List Int32} {K : pM → Prop} (hq : rowS B q n) (hn : l.length ≤ n) (hk : k ≤ l.length) (hl : Rw I q l) (h : ∀ J : pIm, Rw J q (l.take k) → Fr q (q + 1) I J → K (pset B J)) : pCall_v d mX9_shorten (0, 0) [.ref q, .int (nI k)] (pset B I) K := by
  refine CP_go hd okX9_shorten (Nat.le_of_ble_eq_true rfl) ?_
  obtain ⟨q1, q2, q3, q4⟩ := hq
  refine bX9_shorten_0 ⟨fun g => absurd g (nI_pos (by omega)), fun g => ⟨q1, fun g2 => ⟨rfl, ?_⟩, fun g2 => ⟨q1, rfl, ?_⟩⟩⟩
  · rw [show pI (pset B I) q 1 = nI l.length from hl.1] at g2
    have := (nI_leI (by omega) (by omega)).mp g2
    refine h I ?_ Fr.rf
    rw [List.take_of_length_le this]; exact hl
  · refine h _ ⟨?_, fun j x hx => ?_⟩ (Fr.u (by omega) (by omega))
    · rw [u2_same, List.length_take, Nat.min_eq_left hk]
    · rw [u2_a (by omega)]
      refine hl.2 j x ?_
      rw [List.getElem?_take] at hx
      split at hx
      · exact hx
      · cases hx
/-- clear() -/
theorem c_clear {d : Nat} (hd : 1 ≤ d) {B : pM} {I : pIm} {q n : Nat} {K : pM → Prop} (hq : rowS B q n) (h : ∀ J : pIm, Rw J q [] → Fr q (q + 1) I J → K (pset B J)) : pCall_v d mX9_clear (0, 0) [.ref q] (pset B I) K := by
  refine CP_go hd okX9_clear (Nat.le_of_ble_eq_true rfl) ?_
  refine bX9_clear_0 ⟨hq.1, rfl, h _ ⟨u2_same, fun j x hx => by simp at hx⟩ (Fr.u (by omega) (by omega))⟩
def copyl (lo : List Int32) (fr : Int32) (k : Nat) : List Int32 := (List.range k).map (fun i => rat lo (fr + nI i))
theorem copyl_succ {lo : List Int32} {fr : Int32} {k : Nat} : copyl lo fr (k + 1) = copyl lo fr k ++ [rat lo (fr + nI k)] := by
  unfold copyl; rw [List.range_succ, List.map_append]; rfl
theorem copyl_len {lo : List Int32} {fr : Int32} {k : Nat} : (copyl lo fr k).length = k := by simp [copyl]
/-- copy(other, from, len) -/
theorem c_copy {d : Nat} (hd : 2 ≤ d) {B : pM} {I : pIm} {q n q' n' : Nat} {lo : List Int32} {fr len : Int32} {K : pM → Prop} (hq : rowS B q n) (hq' : rowS B q' n') (hne : q' + 1 < q ∨ q + 1 < q') (hn' : lo.length ≤ n') (hl : Rw I q' lo) (h : ∀ J : pIm, Rw J q (copyl lo fr (min len.toNatClampNeg n)) → Fr q (q + 2) I J → K (pset B J)) : pCall_v d mX9_copy (0, 0) [.ref q, .ref q', .int fr, .int len] (pset B I) K := by
  refine CP_go (by omega) okX9_copy (Nat.le_of_ble_eq_true rfl) ?_
  obtain ⟨q1, q2, q3, q4⟩ := id hq
  have key : ∀ (m k : Nat) (J : pIm), n - k = m → k ≤ n → k ≤ len.toNatClampNeg → Rw J q (copyl lo fr k) → Fr q (q + 2) I J → Go (d - 1) mX9_copy (fun r M1 => r = .inl none ∧ K M1) 8 ([some (.ref q), some (.ref q'), some (.int fr), some (.int len), some (.int (nI k))], [], 0, 0) (pset B J) := by
    intro m
    induction m with
    | zero =>
      intro k J hm hk hk2 hr hf
      refine bX9_copy_8 ⟨fun g => ⟨rfl, ?_⟩, fun g => ⟨q1, q + 1, q2, n, q3, fun g2 => ⟨rfl, ?_⟩, fun g2 => absurd (nI_le (show n ≤ k by omega) (by omega)) g2⟩⟩
      · refine h J ?_ hf
        have e : min len.toNatClampNeg n = k := by omega
        rw [e]; exact hr
      · refine h J ?_ hf
        have e : min len.toNatClampNeg n = k := by omega
        rw [e]; exact hr
    | succ m ih =>
      intro k J hm hk hk2 hr hf
      refine bX9_copy_8 ⟨fun g => ⟨rfl, ?_⟩, fun g => ⟨q1, q + 1, q2, n, q3, fun g2 => ?_, fun g2 => ⟨q1, q + 1, q2, hq'.1, ?_⟩⟩⟩
      · refine h J ?_ hf
        have e : min len.toNatClampNeg n = k := by
          by_cases h0 : len < 0
          · have : len.toNatClampNeg = 0 := by
              show len.toInt.toNat = 0
              have := Int32.lt_iff_toInt_lt.mp h0
              simp at this
              omega
            omega
          · obtain ⟨j, hj, rfl⟩ := nI_of h0
            rw [nI_clamp hj] at hk2 ⊢
            have := (nI_leI hj (by omega)).mp g
            omega
        rw [e]; exact hr
      · exact absurd ((nI_leI (by omega) (by omega)).mp g2) (by omega)
      · have hk3 : k < len.toNatClampNeg := by
          by_cases h0 : len < 0
          · exact absurd (Int32.le_trans (Int32.le_of_lt h0) (nI_pos' (show k < 2 ^ 31 by omega))) g
          · obtain ⟨j, hj, rfl⟩ := nI_of h0
            rw [nI_clamp hj]
            exact Nat.not_le.mp (fun z => g (nI_le z (by omega)))
        refine c_at (by omega) hq' hn' (hl.f hf (by omega)) ⟨n, q3, vp_inN (by omega) q4, q1, q1, ?_⟩
        rw [nI_clamp (by omega)]
        have e : pI (psI (pset B J) (q + 1) k (rat lo (fr + nI k))) q 1 = nI k := by
          show u2 J (q + 1) k _ q 1 = _
          rw [u2_a (by omega), hr.1, copyl_len]
        rw [e, nI_1]
        refine ih (k + 1) _ (by omega) (by omega) (by omega) ?_ (Fr.tr hf (Fr.tr (Fr.u (I := J) (a := q + 1) (by omega) (by omega)) (Fr.u (by omega) (by omega))))
        rw [copyl_succ]
        have := hr.add (v := rat lo (fr + nI k))
        rw [copyl_len] at this
        exact this
  refine bX9_copy_0 ⟨q1, ?_⟩
  exact key n 0 _ (by omega) (by omega) (by omega) ⟨by rw [copyl_len]; exact u2_same, fun j x hx => by simp [copyl] at hx⟩ (Fr.u (by omega) (by omega))
/-- fill(v) -/
theorem c_fill {d : Nat} (hd : 2 ≤ d) {B : pM} {I : pIm} {q n : Nat} {v : Int32} {K : pM → Prop} (hq : rowS B q n) (h : ∀ J : pIm, Rw J q (List.replicate n v) → Fr q (q + 2) I J → K (pset B J)) : pCall_v d mX9_fill (0, 0) [.ref q, .int v] (pset B I) K := by
  refine CP_go (by omega) okX9_fill (Nat.le_of_ble_eq_true rfl) ?_
  obtain ⟨q1, q2, q3, q4⟩ := id hq
  have key : ∀ (m k : Nat) (J : pIm), n - k = m → k ≤ n → Rw J q (List.replicate k v) → Fr q (q + 2) I J → Go (d - 1) mX9_fill (fun r M1 => r = .inl none ∧ K M1) 7 ([some (.ref q), some (.int v), some (.int (nI k))], [], 0, 0) (pset B J) := by
    intro m
    induction m with
    | zero =>
      intro k J hm hk hr hf
      have e : k = n := by omega
      subst e
      exact bX9_fill_7 ⟨q1, q + 1, q2, k, q3, fun g => ⟨rfl, h J hr hf⟩, fun g => absurd (nI_le (Nat.le_refl k) (by omega)) g⟩
    | succ m ih =>
      intro k J hm hk hr hf
      refine bX9_fill_7 ⟨q1, q + 1, q2, n, q3, fun g => absurd ((nI_leI (by omega) (by omega)).mp g) (by omega), fun g => ⟨q1, ?_⟩⟩
      refine c_add' (by omega) hq (by rw [List.length_replicate]; omega) hr (fun J2 h1 h2 => ?_)
      rw [nI_1]
      exact ih (k + 1) J2 (by omega) (by omega) (by rw [List.replicate_succ']; exact h1) (hf.tr h2)
  refine bX9_fill_0 ⟨q1, ?_⟩
  exact key n 0 _ (by omega) (by omega) ⟨u2_same, fun j x hx => by simp at hx⟩ (Fr.u (by omega) (by omega))
/-- how many are the same from the first one on -/
def cpl : List Int32 → List Int32 → Nat
  | a :: l, b :: m => if a = b then cpl l m + 1 else 0
  | _, _ => 0
theorem cpl_le {l m : List Int32} : cpl l m ≤ l.length ∧ cpl l m ≤ m.length := by
  induction l generalizing m with
  | nil => simp [cpl]
  | cons a l ih =>
    cases m with
    | nil => simp [cpl]
    | cons b m =>
      unfold cpl
      split
      · have := ih (m := m); simp; omega
      · simp
theorem cpl_drop {l m : List Int32} {k : Nat} {x y : Int32} (hx : l[k]? = some x) (hy : m[k]? = some y) : cpl (l.drop k) (m.drop k) = if x = y then cpl (l.drop (k + 1)) (m.drop (k + 1)) + 1 else 0 := by
  obtain ⟨h1, e1⟩ := List.getElem?_eq_some_iff.mp hx
  obtain ⟨h2, e2⟩ := List.getElem?_eq_some_iff.mp hy
  rw [List.drop_eq_getElem_cons h1, List.drop_eq_getElem_cons h2, e1, e2, cpl]
/-- sameAhead(other) -/
theorem c_sameAhead {d : Nat} (hd : 1 ≤ d) {B : pM} {I : pIm} {q n q' n' : Nat} {l lo : List Int32} {K : Int32 → pM → Prop} (hq : rowS B q n) (hq' : rowS B q' n') (hn : l.length ≤ n) (hn' : lo.length ≤ n') (hl : Rw I q l) (hl' : Rw I q' lo) (h : K (nI (cpl l lo)) (pset B I)) : pCall_i d mX9_sameAhead (0, 0) [.ref q, .ref q'] (pset B I) K := by
  refine CP_go hd okX9_sameAhead (Nat.le_of_ble_eq_true rfl) ?_
  obtain ⟨q1, q2, q3, q4⟩ := id hq
  obtain ⟨r1, r2, r3, r4⟩ := id hq'
  have e1 : pI (pset B I) q 1 = nI l.length := hl.1
  have e2 : pI (pset B I) q' 1 = nI lo.length := hl'.1
  have key : ∀ (m k : Nat), min l.length lo.length - k = m → k ≤ min l.length lo.length → cpl l lo = k + cpl (l.drop k) (lo.drop k) → Go (d - 1) mX9_sameAhead (fun r M1 => ∃ v, r = .inl (some (.int v)) ∧ K v M1) 14 ([some (.ref q), some (.ref q'), some (.int (nI (min l.length lo.length))), some (.int (nI k))], [], 0, 0) (pset B I) := by
    intro m
    induction m with
    | zero =>
      intro k hm hk hc
      have e : cpl l lo = min l.length lo.length := by
        have h1 := (cpl_le (l := l.drop k) (m := lo.drop k))
        rw [List.length_drop, List.length_drop] at h1
        omega
      refine bX9_sameAhead_14 ⟨fun g => ⟨_, rfl, by rw [e] at h; exact h⟩, fun g => absurd (nI_le (show min l.length lo.length ≤ k by omega) (by omega)) g⟩
    | succ m ih =>
      intro k hm hk hc
      have h1 : k < l.length := by omega
      have h2 : k < lo.length := by omega
      have g1 := List.getElem?_eq_getElem h1
      have g2 := List.getElem?_eq_getElem h2
      have c1 : pI (pset B I) (q + 1) (nI k).toNatClampNeg = l[k] := by rw [nI_clamp (by omega)]; exact hl.2 k _ g1
      have c2 : pI (pset B I) (q' + 1) (nI k).toNatClampNeg = lo[k] := by rw [nI_clamp (by omega)]; exact hl'.2 k _ g2
      have hd2 := cpl_drop g1 g2
      refine bX9_sameAhead_14 ⟨fun g => absurd ((nI_leI (by omega) (by omega)).mp g) (by omega), fun g => ⟨q1, q + 1, q2, n, q3, vp_inN (by omega) q4, r1, q' + 1, r2, n', r3, vp_inN (by omega) r4, fun g3 => ?_, fun g3 => ⟨_, rfl, ?_⟩⟩⟩
      · rw [c1, c2] at g3
        rw [if_pos g3] at hd2
        rw [nI_1]
        exact ih (k + 1) (by omega) (by omega) (by omega)
      · rw [c1, c2] at g3
        rw [if_neg g3] at hd2
        rw [hd2] at hc
        rw [hc] at h
        exact h
  refine bX9_sameAhead_0 ⟨q1, r1, ?_⟩
  rw [e1, e2]
  have e3 : (if nI lo.length < nI l.length then nI lo.length else nI l.length) = nI (min l.length lo.length) := by
    by_cases z : lo.length < l.length
    · rw [if_pos (nI_lt z (by omega)), Nat.min_eq_right (by omega)]
    · rw [if_neg (nI_nlt (by omega) (by omega)), Nat.min_eq_left (by omega)]
  rw [e3]
  exact key _ 0 rfl (by omega) (by simp)
theorem cpl_pre {l m : List Int32} : cpl l m = m.length ↔ m <+: l := by
  induction l generalizing m with
  | nil => cases m <;> simp [cpl]
  | cons a l ih =>
    cases m with
    | nil => simp [cpl]
    | cons b m =>
      unfold cpl
      rw [List.cons_prefix_cons]
      by_cases e : a = b
      · rw [if_pos e]
        simp only [List.length_cons, Nat.add_right_cancel_iff]
        rw [ih]
        exact ⟨fun z => ⟨e.symm, z⟩, fun z => z.2⟩
      · rw [if_neg e]
        exact ⟨fun z => by simp at z, fun z => absurd z.1.symm e⟩
/-- 0 or 1 -/
def bI (p : Prop) [Decidable p] : Int32 := if p then 1 else 0
theorem bI_t {p : Prop} [Decidable p] (h : p) : bI p = 1 := if_pos h
theorem bI_f {p : Prop} [Decidable p] (h : ¬ p) : bI p = 0 := if_neg h
theorem bI_01 {p : Prop} [Decidable p] : bI p = 0 ∨ bI p = 1 := by unfold bI; split <;> simp
theorem bI_eq0 {p : Prop} [Decidable p] : bI p = 0 ↔ ¬ p := by unfold bI; split <;> simp_all
/-- beginsWith(other) -/
theorem c_beginsWith {d : Nat} (hd : 2 ≤ d) {B : pM} {I : pIm} {q n q' n' : Nat} {l lo : List Int32} {K : Int32 → pM → Prop} (hq : rowS B q n) (hq' : rowS B q' n') (hn : l.length ≤ n) (hn' : lo.length ≤ n') (hl : Rw I q l) (hl' : Rw I q' lo) (h : K (bI (lo <+: l)) (pset B I)) : pCall_i d mX9_beginsWith (0, 0) [.ref q, .ref q'] (pset B I) K := by
  refine CP_go (by omega) okX9_beginsWith (Nat.le_of_ble_eq_true rfl) ?_
  have hc := cpl_le (l := l) (m := lo)
  have r4 := hq'.2.2.2
  have e2 : pI (pset B I) q' 1 = nI lo.length := hl'.1
  refine bX9_beginsWith_0 ⟨hq.1, c_sameAhead (by omega) hq hq' hn hn' hl hl' ⟨hq'.1, fun g => ⟨_, rfl, ?_⟩, fun g => ⟨_, rfl, ?_⟩⟩⟩
  · rw [e2, nI_eq (by omega) (by omega), cpl_pre] at g
    rw [bI_t g] at h; exact h
  · rw [e2, nI_eq (by omega) (by omega), cpl_pre] at g
    rw [bI_f g] at h; exact h
/-- isSame(other) -/
theorem c_isSame {d : Nat} (hd : 2 ≤ d) {B : pM} {I : pIm} {q n q' n' : Nat} {l lo : List Int32} {K : Int32 → pM → Prop} (hq : rowS B q n) (hq' : rowS B q' n') (hn : l.length ≤ n) (hn' : lo.length ≤ n') (hl : Rw I q l) (hl' : Rw I q' lo) (h : K (bI (l = lo)) (pset B I)) : pCall_i d mX9_isSame (0, 0) [.ref q, .ref q'] (pset B I) K := by
  refine CP_go (by omega) okX9_isSame (Nat.le_of_ble_eq_true rfl) ?_
  have hc := cpl_le (l := l) (m := lo)
  have r4 := hq'.2.2.2
  have q4 := hq.2.2.2
  have e1 : pI (pset B I) q 1 = nI l.length := hl.1
  have e2 : pI (pset B I) q' 1 = nI lo.length := hl'.1
  refine bX9_isSame_0 ⟨hq.1, hq'.1, fun g0 => ⟨hq.1, c_sameAhead (by omega) hq hq' hn hn' hl hl' ⟨hq.1, fun g => ⟨_, rfl, ?_⟩, fun g => ⟨_, rfl, ?_⟩⟩⟩, fun g0 => ⟨_, rfl, ?_⟩⟩
  · rw [e1, e2, nI_eq (by omega) (by omega)] at g0
    rw [e1, nI_eq (by omega) (by omega), g0, cpl_pre] at g
    rw [bI_t (g.eq_of_length g0.symm).symm] at h; exact h
  · rw [e1, e2, nI_eq (by omega) (by omega)] at g0
    rw [e1, nI_eq (by omega) (by omega), g0, cpl_pre] at g
    rw [bI_f (fun z => g (by rw [z]; exact List.prefix_refl _))] at h; exact h
  · rw [e1, e2, nI_eq (by omega) (by omega)] at g0
    rw [bI_f (fun z => g0 (by rw [z]))] at h; exact h
def addl (c : Int64) (l : List Int32) : Int64 := l.foldl (fun d x => d * 31 + x.toInt64) c
/-- addTo(checksum) -/
theorem c_addTo {d : Nat} (hd : 1 ≤ d) {B : pM} {I : pIm} {q n : Nat} {l : List Int32} {x : Int64} {K : Int64 → pM → Prop} (hq : rowS B q n) (hn : l.length ≤ n) (hl : Rw I q l) (h : K (addl x l) (pset B I)) : pCall_l d mX9_addTo (0, 0) [.ref q, .long x] (pset B I) K := by
  refine CP_go hd okX9_addTo (Nat.le_of_ble_eq_true rfl) ?_
  obtain ⟨q1, q2, q3, q4⟩ := id hq
  have e1 : pI (pset B I) q 1 = nI l.length := hl.1
  have key : ∀ (m k : Nat) (y : Int64), l.length - k = m → k ≤ l.length → addl x l = addl y (l.drop k) → Go (d - 1) mX9_addTo (fun r M1 => ∃ v, r = .inl (some (.long v)) ∧ K v M1) 5 ([some (.ref q), none, none, some (.long y), none, some (.int (nI k))], [], 0, 0) (pset B I) := by
    intro m
    induction m with
    | zero =>
      intro k y hm hk hy
      refine bX9_addTo_5 ⟨q1, fun g => ⟨_, rfl, ?_⟩, fun g => ?_⟩
      · rw [List.drop_of_length_le (by omega)] at hy
        have hy2 : addl x l = y := hy
        rw [hy2] at h; exact h
      · rw [e1] at g
        exact absurd (nI_le (show l.length ≤ k by omega) (by omega)) g
    | succ m ih =>
      intro k y hm hk hy
      have h1 : k < l.length := by omega
      refine bX9_addTo_5 ⟨q1, fun g => ?_, fun g => ⟨q1, q + 1, q2, n, q3, vp_inN (by omega) q4, ?_⟩⟩
      · rw [e1] at g
        exact absurd ((nI_leI (by omega) (by omega)).mp g) (by omega)
      · rw [nI_clamp (by omega), show pI (pset B I) (q + 1) k = l[k] from hl.2 k _ (List.getElem?_eq_getElem h1), nI_1]
        refine ih (k + 1) _ (by omega) (by omega) ?_
        rw [hy, List.drop_eq_getElem_cons h1]
        rfl
  exact bX9_addTo_0 (key _ 0 x rfl (by omega) (by simp))
