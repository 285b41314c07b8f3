/-! RANKING -/
def tomC (ro po : List Int32) (le key sb lb bf : Int32) : Int32 :=
  if key = le then (if sb < (if lb < bf then lb else bf) + 3 then sb else (if lb < bf then lb else bf) + 3)
  else if nbr ro po key le = 0 then (if lb < bf then lb else bf) + 3
  else (if sb + 2 < (if lb < bf then lb else bf) + 3 then sb + 2 else (if lb < bf then lb else bf) + 3)
def tomL (ro po : List Int32) (le : Int32) (w cs : List Int32) : Nat → List Int32 × Int32
  | 0 => (rput cs 0 (rat cs 0 + 3), rat cs 0)
  | j + 1 => (rput (tomL ro po le w cs j).1 (nI (j + 1)) (tomC ro po le (rat w (nI j)) (tomL ro po le w cs j).2 (rat (tomL ro po le w cs j).1 (nI j)) (rat (tomL ro po le w cs j).1 (nI (j + 1)))), rat (tomL ro po le w cs j).1 (nI (j + 1)))
theorem tomL_len {ro po : List Int32} {le : Int32} {w cs : List Int32} {j : Nat} : (tomL ro po le w cs j).1.length = cs.length := by
  induction j with
  | zero => rw [tomL, rput_len]
  | succ j ih => rw [tomL, rput_len, ih]
def rankS (B : pM) (q : Nat) : Prop := pK B q = (1, 6) ∧ (pP B q 0 = (q + 1) + 1 ∧ pP B q 1 = (q + 3) + 1 ∧ pP B q 2 = (q + 5) + 1 ∧ pP B q 3 = (q + 7) + 1 ∧ pP B q 4 = (q + 9) + 1 ∧ pP B q 5 = (q + 11) + 1) ∧ rowS B (q + 1) 40 ∧ rowS B (q + 3) 40 ∧ rowS B (q + 5) 40 ∧ rowS B (q + 7) 5 ∧ rowS B (q + 9) 11 ∧ reckS B (q + 11)
theorem c_typeOneMore {d : Nat} (hd : 3 ≤ d) {B : pM} {I : pIm} {q qw nw qk : Nat} {cs w ro po : List Int32} {nr le : Int32} {K : pM → Prop} (hq : rankS B q) (hw : rowS B qw nw) (hnw : w.length ≤ nw) (hk : keysS B qk) (sw : qw + 1 < q ∨ q + 14 ≤ qw) (sk : qk + 5 ≤ q ∨ q + 14 ≤ qk) (hlen : cs.length = w.length + 1) (h10 : w.length ≤ 10) (lc : Rw I (q + 9) cs) (lw : Rw I qw w) (lk : Kv I qk ro po nr)
    (h : ∀ J : pIm, Rw J (q + 9) (tomL ro po le w cs w.length).1 → Fr (q + 9) (q + 11) I J → K (pset B J)) : pCall_v d mX6_typeOneMore (0, 0) [.ref q, .int le, .ref qw, .ref qk] (pset B I) K := by
  refine CP_go (by omega) okX6_typeOneMore (Nat.le_of_ble_eq_true rfl) ?_
  obtain ⟨q0, ⟨p0, p1, p2, p3, p4, p5⟩, r1, r2, r3, r4, r5, r6⟩ := hq
  have key : ∀ (m j : Nat) (J : pIm), w.length - j = m → j ≤ w.length → Rw J (q + 9) (tomL ro po le w cs j).1 → Fr (q + 9) (q + 11) I J → Go (d - 1) mX6_typeOneMore (fun r M1 => r = .inl none ∧ K M1) 25 ([some (.ref q), some (.int le), some (.ref qw), some (.ref qk), some (.int (tomL ro po le w cs j).2), some (.int (nI (j + 1))), none, none, none], [], 0, 0) (pset B J) := by
    intro m
    induction m with
    | zero =>
      intro j J hm hj hJ hf
      refine bX6_typeOneMore_25 ⟨hw.1, c_size (by omega) hw (lw.f hf (by omega)) ⟨fun g => ⟨rfl, ?_⟩, fun g => absurd (nI_lt (show w.length < j + 1 by omega) (by omega)) g⟩⟩
      have e : j = w.length := by omega
      rw [e] at hJ
      exact h J hJ hf
    | succ m ih =>
      intro j J hm hj hJ hf
      have hl11 : (tomL ro po le w cs j).1.length ≤ 11 := by rw [tomL_len]; omega
      have next : ∀ x, x = tomC ro po le (rat w (nI j)) (tomL ro po le w cs j).2 (rat (tomL ro po le w cs j).1 (nI j)) (rat (tomL ro po le w cs j).1 (nI (j + 1))) → Go (d - 1) mX6_typeOneMore (fun r M1 => r = .inl none ∧ K M1) 114 ([some (.ref q), some (.int le), some (.ref qw), some (.ref qk), none, some (.int (nI (j + 1))), some (.int (rat (tomL ro po le w cs j).1 (nI (j + 1)))), none, some (.int x)], [], 0, 0) (pset B J) := by
        intro x ex
        refine bX6_typeOneMore_114 ⟨q0, q + 9, p4, r5.1, c_put (by omega) r5 hl11 hJ (fun J2 h2 f2 => ?_)⟩
        rw [nI_1]
        refine ih (j + 1) J2 (by omega) (by omega) ?_ (hf.tr (f2.mono (by omega) (by omega)))
        rw [tomL, ← ex]
        exact h2
      refine bX6_typeOneMore_25 ⟨hw.1, c_size (by omega) hw (lw.f hf (by omega)) ⟨fun g => absurd g (nI_nlt (by omega) (by omega)), fun g => ⟨q0, q + 9, p4, r5.1, c_at (by omega) r5 hl11 hJ ⟨hw.1, c_at (by omega) hw hnw (lw.f hf (by omega)) ⟨q0, q + 9, p4, r5.1, c_at (by omega) r5 hl11 hJ ?_⟩⟩⟩⟩⟩
      rw [nI_pred]
      refine ⟨fun g2 => next _ ?_, fun g2 => ⟨hk.1, c_areNeighbours (by omega) hk (lk.f hf (by omega)) ⟨fun g3 => next _ ?_, fun g3 => next _ ?_⟩⟩⟩
      · unfold tomC; rw [if_pos g2]
      · unfold tomC; rw [if_neg g2, if_pos g3]
      · unfold tomC; rw [if_neg g2, if_neg g3]
  refine bX6_typeOneMore_0 ⟨q0, q + 9, p4, r5.1, c_at (by omega) r5 (by omega) lc ⟨q0, q + 9, p4, r5.1, c_put (by omega) r5 (by omega) lc (fun J2 h2 f2 => key _ 0 J2 rfl (by omega) h2 (f2.mono (by omega) (by omega)))⟩⟩
def cst0 (n : Nat) : List Int32 := (List.range (n + 1)).map (fun j => nI j * 3)
def disR (ro po ty w : List Int32) : Nat → List Int32
  | 0 => cst0 w.length
  | i + 1 => (tomL ro po (rat ty (nI i)) w (disR ro po ty w i) w.length).1
def minL (cs : List Int32) : Nat → Int32
  | 0 => rat cs 0
  | j + 1 => if rat cs (nI (j + 1)) < minL cs j then rat cs (nI (j + 1)) else minL cs j
def distI (ro po ty w : List Int32) : Int32 := minL (disR ro po ty w ty.length) w.length
theorem disR_len {ro po ty w : List Int32} {i : Nat} : (disR ro po ty w i).length = w.length + 1 := by
  induction i with
  | zero => simp [disR, cst0]
  | succ i ih => rw [disR, tomL_len, ih]
theorem c_distance {d : Nat} (hd : 4 ≤ d) {B : pM} {I : pIm} {q qt nt qw nw qk : Nat} {ty w ro po : List Int32} {nr : Int32} {K : Int32 → pM → Prop} (hq : rankS B q) (ht : rowS B qt nt) (hnt : ty.length ≤ nt) (h20 : ty.length ≤ 20) (hw : rowS B qw nw) (hnw : w.length ≤ nw) (hk : keysS B qk) (st : qt + 1 < q ∨ q + 14 ≤ qt) (sw : qw + 1 < q ∨ q + 14 ≤ qw) (sk : qk + 5 ≤ q ∨ q + 14 ≤ qk) (h10 : w.length ≤ 10) (lt : Rw I qt ty) (lw : Rw I qw w) (lk : Kv I qk ro po nr)
    (h : ∀ J : pIm, Fr (q + 9) (q + 11) I J → K (distI ro po ty w) (pset B J)) : pCall_i d mX6_distance (0, 0) [.ref q, .ref qt, .ref qw, .ref qk] (pset B I) K := by
  refine CP_go (by omega) okX6_distance (Nat.le_of_ble_eq_true rfl) ?_
  obtain ⟨q0, ⟨p0, p1, p2, p3, p4, p5⟩, r1, r2, r3, r4, r5, r6⟩ := id hq
  have c79 : ∀ (m j : Nat) (J : pIm), w.length - j = m → j ≤ w.length → Rw J (q + 9) (disR ro po ty w ty.length) → Fr (q + 9) (q + 11) I J → Go (d - 1) mX6_distance (fun r M1 => ∃ v, r = .inl (some (.int v)) ∧ K v M1) 79 ([some (.ref q), none, some (.ref qw), none, some (.int (minL (disR ro po ty w ty.length) j)), some (.int (nI (j + 1)))], [], 0, 0) (pset B J) := by
    intro m
    induction m with
    | zero =>
      intro j J hm hj hJ hf
      refine bX6_distance_79 ⟨hw.1, c_size (by omega) hw (lw.f hf (by omega)) ⟨fun g => ⟨_, rfl, ?_⟩, fun g => absurd (nI_lt (show w.length < j + 1 by omega) (by omega)) g⟩⟩
      have e : j = w.length := by omega
      rw [e]
      exact h J hf
    | succ m ih =>
      intro j J hm hj hJ hf
      refine bX6_distance_79 ⟨hw.1, c_size (by omega) hw (lw.f hf (by omega)) ⟨fun g => absurd g (nI_nlt (by omega) (by omega)), fun g => ⟨q0, q + 9, p4, r5.1, c_at (by omega) r5 (by rw [disR_len]; omega) hJ ?_⟩⟩⟩
      rw [nI_1]
      exact ih (j + 1) J (by omega) (by omega) hJ hf
  have c39 : ∀ (m i : Nat) (J : pIm), ty.length - i = m → i ≤ ty.length → Rw J (q + 9) (disR ro po ty w i) → Fr (q + 9) (q + 11) I J → Go (d - 1) mX6_distance (fun r M1 => ∃ v, r = .inl (some (.int v)) ∧ K v M1) 39 ([some (.ref q), some (.ref qt), some (.ref qw), some (.ref qk), some (.int (nI i)), none], [], 0, 0) (pset B J) := by
    intro m
    induction m with
    | zero =>
      intro i J hm hi hJ hf
      have e : i = ty.length := by omega
      subst e
      refine bX6_distance_39 ⟨ht.1, c_size (by omega) ht (lt.f hf (by omega)) ⟨fun g => ⟨q0, q + 9, p4, r5.1, c_at (by omega) r5 (by rw [disR_len]; omega) hJ (c79 _ 0 J rfl (by omega) hJ hf)⟩, fun g => absurd (nI_le (Nat.le_refl _) (by omega)) g⟩⟩
    | succ m ih =>
      intro i J hm hi hJ hf
      refine bX6_distance_39 ⟨ht.1, c_size (by omega) ht (lt.f hf (by omega)) ⟨fun g => absurd ((nI_leI (by omega) (by omega)).mp g) (by omega), fun g => ⟨ht.1, c_at (by omega) ht hnt (lt.f hf (by omega)) ⟨q0, c_typeOneMore (by omega) hq hw hnw hk sw sk disR_len h10 hJ (lw.f hf (by omega)) (lk.f hf (by omega)) (fun J2 h2 f2 => ?_)⟩⟩⟩⟩
      rw [nI_1]
      exact ih (i + 1) J2 (by omega) (by omega) h2 (hf.tr f2)
  have c10 : ∀ (m i : Nat) (J : pIm), w.length + 1 - i = m → i ≤ w.length + 1 → Rw J (q + 9) ((List.range i).map (fun j => nI j * 3)) → Fr (q + 9) (q + 11) I J → Go (d - 1) mX6_distance (fun r M1 => ∃ v, r = .inl (some (.int v)) ∧ K v M1) 10 ([some (.ref q), some (.ref qt), some (.ref qw), some (.ref qk), some (.int (nI i)), none], [], 0, 0) (pset B J) := by
    intro m
    induction m with
    | zero =>
      intro i J hm hi hJ hf
      have e : i = w.length + 1 := by omega
      subst e
      refine bX6_distance_10 ⟨hw.1, c_size (by omega) hw (lw.f hf (by omega)) ⟨fun g => c39 _ 0 J rfl (by omega) hJ hf, fun g => absurd (nI_lt (show w.length < w.length + 1 by omega) (by omega)) g⟩⟩
    | succ m ih =>
      intro i J hm hi hJ hf
      refine bX6_distance_10 ⟨hw.1, c_size (by omega) hw (lw.f hf (by omega)) ⟨fun g => absurd g (nI_nlt (by omega) (by omega)), fun g => ⟨q0, q + 9, p4, r5.1, c_add' (by omega) r5 (by simp; omega) hJ (fun J2 h2 f2 => ?_)⟩⟩⟩
      rw [nI_1]
      refine ih (i + 1) J2 (by omega) (by omega) ?_ (hf.tr (f2.mono (by omega) (by omega)))
      rw [List.range_succ, List.map_append]
      exact h2
  exact bX6_distance_0 ⟨q0, q + 9, p4, r5.1, c_clear (by omega) r5 (fun J h1 f1 => c10 _ 0 J rfl (by omega) h1 (f1.mono (by omega) (by omega)))⟩
def leadsI (ws : List (List Int32)) (x y : Int32) : Int32 := if nI (lat ws x).length < nI (lat ws y).length then 1 else if nI (lat ws x).length = nI (lat ws y).length then (if y ≤ x then 0 else 1) else 0
theorem c_leadsTie {d : Nat} (hd : 2 ≤ d) {B : pM} {I : pIm} {q : Nat} {b : bK} {x y : Int32} {K : Int32 → pM → Prop} (hq : bookS B q) (hl : Bk I q b) (h : K (leadsI b.2.1 x y) (pset B I)) : pCall_i d mX6_leadsTie (0, 0) [.ref q, .int x, .int y] (pset B I) K := by
  refine CP_go (by omega) okX6_leadsTie (Nat.le_of_ble_eq_true rfl) ?_
  obtain ⟨q0, ⟨p0, p1, p2, p3, p4, p5⟩, r1, r2, r3, r4, r5, r6⟩ := hq
  obtain ⟨l1, l2, l3, l4, l5, l6, l7, l8⟩ := hl
  unfold leadsI at h
  refine bX6_leadsTie_0 ⟨q0, q + 17, p1, r2.1, c_nat (by omega) r2 l2 (fun a1 m1 s1 s2 s3 _ _ => ⟨s1.1, c_size (by omega) s1 s3 ⟨q0, q + 17, p1, r2.1, c_nat (by omega) r2 l2 (fun a2 m2 t1 t2 t3 _ _ => ⟨t1.1, c_size (by omega) t1 t3 ⟨fun g => ⟨_, rfl, ?_⟩, fun g => ⟨fun g2 => ⟨fun g3 => ⟨_, rfl, ?_⟩, fun g3 => ⟨_, rfl, ?_⟩⟩, fun g2 => ⟨_, rfl, ?_⟩⟩⟩⟩)⟩⟩)⟩
  · rw [if_pos g] at h; exact h
  · rw [if_neg g, if_pos g2, if_pos g3] at h; exact h
  · rw [if_neg g, if_pos g2, if_neg g3] at h; exact h
  · rw [if_neg g, if_neg g2] at h; exact h
/-- whether the word y is ahead of the word x among those that are near -/
abbrev ahd (ws : List (List Int32)) (fa sc : List Int32) (li x y : Int32) : Prop := y ≠ x ∧ ¬ li < rat fa y ∧ (rat sc x < rat sc y ∨ (rat sc y = rat sc x ∧ leadsI ws y x ≠ 0))
def waI (ws : List (List Int32)) (fa sc : List Int32) (li x : Int32) : Nat → Int32
  | 0 => 0
  | o + 1 => if ahd ws fa sc li x (nI o) then waI ws fa sc li x o + 1 else waI ws fa sc li x o
/-- what a ranking holds: far, scores, places, offers, near words -/
abbrev rK : Type := List Int32 × List Int32 × List Int32 × List Int32 × Int32
def Rk (I : pIm) (q : Nat) (r : rK) : Prop := Rw I (q + 1) r.1 ∧ Rw I (q + 3) r.2.1 ∧ Rw I (q + 5) r.2.2.1 ∧ Rw I (q + 7) r.2.2.2.1 ∧ I q 6 = r.2.2.2.2 ∧ (r.1.length ≤ 40 ∧ r.2.1.length ≤ 40 ∧ r.2.2.1.length ≤ 40 ∧ r.2.2.2.1.length ≤ 5)
theorem Rk.f {I J : pIm} {q lo hi : Nat} {r : rK} (h : Rk I q r) (hf : Fr lo hi I J) (hq : hi ≤ q ∨ q + 9 ≤ lo) : Rk J q r := by
  obtain ⟨h1, h2, h3, h4, h5, h6⟩ := h
  exact ⟨h1.f hf (by omega), h2.f hf (by omega), h3.f hf (by omega), h4.f hf (by omega), by rw [hf q (by omega)]; exact h5, h6⟩
theorem c_wordsAhead {d : Nat} (hd : 3 ≤ d) {B : pM} {I : pIm} {q qb : Nat} {b : bK} {fa sc : List Int32} {x li : Int32} {K : Int32 → pM → Prop} (hq : rankS B q) (hb : bookS B qb) (l1 : Rw I (q + 1) fa) (l2 : Rw I (q + 3) sc) (h1 : fa.length ≤ 40) (h2 : sc.length ≤ 40) (lb : Bk I qb b) (h : K (waI b.2.1 fa sc li x b.2.1.length) (pset B I)) : pCall_i d mX6_wordsAhead (0, 0) [.ref q, .ref qb, .int x, .int li] (pset B I) K := by
  refine CP_go (by omega) okX6_wordsAhead (Nat.le_of_ble_eq_true rfl) ?_
  obtain ⟨q0, ⟨p0, p1, p2, p3, p4, p5⟩, r1, r2, r3, r4, r5, r6⟩ := hq
  obtain ⟨b0, ⟨u0, u1, -⟩, v1, v2, v3, v4, v5, v6⟩ := id hb
  have h40 := lb.2.1.2.1
  have key : ∀ (m o : Nat), b.2.1.length - o = m → o ≤ b.2.1.length → Go (d - 1) mX6_wordsAhead (fun r M1 => ∃ v, r = .inl (some (.int v)) ∧ K v M1) 6 ([some (.ref q), some (.ref qb), some (.int x), some (.int li), some (.int (waI b.2.1 fa sc li x o)), some (.int (nI o)), none], [], 0, 0) (pset B I) := by
    intro m
    induction m with
    | zero =>
      intro o hm ho
      refine bX6_wordsAhead_6 ⟨b0, qb + 17, u1, v2.1, c_nsize (by omega) v2 lb.2.1 ⟨fun g => ⟨_, rfl, ?_⟩, fun g => absurd (nI_le (show b.2.1.length ≤ o by omega) (by omega)) g⟩⟩
      have e : o = b.2.1.length := by omega
      rw [e]
      exact h
    | succ m ih =>
      intro o hm ho
      have next : ∀ v, v = waI b.2.1 fa sc li x (o + 1) → Go (d - 1) mX6_wordsAhead (fun r M1 => ∃ v, r = .inl (some (.int v)) ∧ K v M1) 102 ([some (.ref q), some (.ref qb), some (.int x), some (.int li), some (.int v), some (.int (nI o)), none], [], 0, 0) (pset B I) := by
        intro v ev
        refine bX6_wordsAhead_102 ?_
        rw [nI_1, ev]
        exact ih (o + 1) (by omega) (by omega)
      have no : ¬ ahd b.2.1 fa sc li x (nI o) → waI b.2.1 fa sc li x o = waI b.2.1 fa sc li x (o + 1) := fun z => by rw [waI, if_neg z]
      have c68 : (rat sc x < rat sc (nI o) ∨ (rat sc (nI o) = rat sc x ∧ leadsI b.2.1 (nI o) x ≠ 0)) → Go (d - 1) mX6_wordsAhead (fun r M1 => ∃ v, r = .inl (some (.int v)) ∧ K v M1) 68 ([some (.ref q), some (.ref qb), some (.int x), some (.int li), some (.int (waI b.2.1 fa sc li x o)), some (.int (nI o)), none], [], 0, 0) (pset B I) := by
        intro hg
        refine bX6_wordsAhead_68 ⟨fun g => next _ (no (fun z => z.1 g)), fun g => ⟨q0, q + 1, p0, r1.1, c_at (by omega) r1 h1 l1 ⟨fun g2 => next _ (no (fun z => z.2.1 g2)), fun g2 => ⟨fun g3 => absurd g3 (by decide), fun _ => next _ ?_⟩⟩⟩⟩
        rw [waI, if_pos ⟨g, g2, hg⟩]
      have c72 : ¬ (rat sc x < rat sc (nI o) ∨ (rat sc (nI o) = rat sc x ∧ leadsI b.2.1 (nI o) x ≠ 0)) → Go (d - 1) mX6_wordsAhead (fun r M1 => ∃ v, r = .inl (some (.int v)) ∧ K v M1) 72 ([some (.ref q), some (.ref qb), some (.int x), some (.int li), some (.int (waI b.2.1 fa sc li x o)), some (.int (nI o)), none], [], 0, 0) (pset B I) := by
        intro hg
        have e := next _ (no (fun z => hg z.2.2))
        exact bX6_wordsAhead_72 ⟨fun g => e, fun g => ⟨q0, q + 1, p0, r1.1, c_at (by omega) r1 h1 l1 ⟨fun g2 => e, fun g2 => ⟨fun g3 => e, fun g3 => absurd rfl g3⟩⟩⟩⟩
      refine bX6_wordsAhead_6 ⟨b0, qb + 17, u1, v2.1, c_nsize (by omega) v2 lb.2.1 ⟨fun g => absurd ((nI_leI (by omega) (by omega)).mp g) (by omega), fun g => ⟨q0, q + 3, p1, r2.1, c_at (by omega) r2 h2 l2 ⟨q0, q + 3, p1, r2.1, c_at (by omega) r2 h2 l2 ⟨fun g1 => c68 (Or.inl g1), fun g1 => ⟨q0, q + 3, p1, r2.1, c_at (by omega) r2 h2 l2 ⟨q0, q + 3, p1, r2.1, c_at (by omega) r2 h2 l2 ⟨fun g2 => c_leadsTie (by omega) hb lb ⟨fun g3 => c72 (fun z => z.elim g1 (fun z => z.2 g3)), fun g3 => c68 (Or.inr ⟨g2, g3⟩)⟩, fun g2 => c72 (fun z => z.elim g1 (fun z => g2 z.1))⟩⟩⟩⟩⟩⟩⟩⟩
  exact bX6_wordsAhead_0 (key _ 0 rfl (by omega))
def plW (ws : List (List Int32)) (fa sc : List Int32) (li : Int32) : Nat → List Int32 × List Int32 × Int32
  | 0 => ([], List.replicate 5 (-1), 0)
  | k + 1 => if rat fa (nI k) ≤ li then ((plW ws fa sc li k).1 ++ [waI ws fa sc li (nI k) ws.length], rput (plW ws fa sc li k).2.1 (waI ws fa sc li (nI k) ws.length) (nI k), (plW ws fa sc li k).2.2 + 1)
    else ((plW ws fa sc li k).1 ++ [-1], (plW ws fa sc li k).2.1, (plW ws fa sc li k).2.2)
theorem plW_len {ws : List (List Int32)} {fa sc : List Int32} {li : Int32} {k : Nat} : (plW ws fa sc li k).1.length = k ∧ (plW ws fa sc li k).2.1.length = 5 := by
  induction k with
  | zero => simp [plW]
  | succ k ih => rw [plW]; split
                 · exact ⟨by simp [ih.1], by rw [rput_len]; exact ih.2⟩
                 · exact ⟨by simp [ih.1], ih.2⟩
theorem c_placeWords {d : Nat} (hd : 4 ≤ d) {B : pM} {I : pIm} {q qb : Nat} {b : bK} {fa sc : List Int32} {li : Int32} {K : pM → Prop} (hq : rankS B q) (hb : bookS B qb) (sb : q + 14 ≤ qb ∨ qb + 527 ≤ q) (l1 : Rw I (q + 1) fa) (l2 : Rw I (q + 3) sc) (h1 : fa.length ≤ 40) (h2 : sc.length ≤ 40) (lb : Bk I qb b)
    (h : ∀ J : pIm, Rk J q (fa, sc, plW b.2.1 fa sc li b.2.1.length) → Fr q (q + 14) I J → K (pset B J)) : pCall_v d mX6_placeWords (0, 0) [.ref q, .ref qb, .int li] (pset B I) K := by
  refine CP_go (by omega) okX6_placeWords (Nat.le_of_ble_eq_true rfl) ?_
  obtain ⟨q0, ⟨p0, p1, p2, p3, p4, p5⟩, r1, r2, r3, r4, r5, r6⟩ := id hq
  obtain ⟨b0, ⟨u0, u1, -⟩, v1, v2, v3, v4, v5, v6⟩ := id hb
  have h40 := lb.2.1.2.1
  have key : ∀ (m k : Nat) (J : pIm), b.2.1.length - k = m → k ≤ b.2.1.length → Rk J q (fa, sc, plW b.2.1 fa sc li k) → Fr q (q + 14) I J → Go (d - 1) mX6_placeWords (fun r M1 => r = .inl none ∧ K M1) 22 ([some (.ref q), some (.ref qb), some (.int li), some (.int (nI k)), none], [], 0, 0) (pset B J) := by
    intro m
    induction m with
    | zero =>
      intro k J hm hk hJ hf
      have lb2 := lb.f hf (by omega)
      refine bX6_placeWords_22 ⟨b0, qb + 17, u1, v2.1, c_nsize (by omega) v2 lb2.2.1 ⟨fun g => ⟨rfl, ?_⟩, fun g => absurd (nI_le (show b.2.1.length ≤ k by omega) (by omega)) g⟩⟩
      have e : k = b.2.1.length := by omega
      rw [e] at hJ
      exact h J hJ hf
    | succ m ih =>
      intro k J hm hk hJ hf
      have lb2 := lb.f hf (by omega)
      obtain ⟨m1, m2, m3, m4, m5, m6⟩ := hJ
      dsimp only at m1 m2 m3 m4 m5
      have e1 := (plW_len (ws := b.2.1) (fa := fa) (sc := sc) (li := li) (k := k)).1
      have e2 := (plW_len (ws := b.2.1) (fa := fa) (sc := sc) (li := li) (k := k)).2
      have next : ∀ J2, Rk J2 q (fa, sc, plW b.2.1 fa sc li (k + 1)) → Fr q (q + 14) I J2 → Go (d - 1) mX6_placeWords (fun r M1 => r = .inl none ∧ K M1) 94 ([some (.ref q), some (.ref qb), some (.int li), some (.int (nI k)), none], [], 0, 0) (pset B J2) := by
        intro J2 hr f2
        refine bX6_placeWords_94 ?_
        rw [nI_1]
        exact ih (k + 1) J2 (by omega) (by omega) hr f2
      refine bX6_placeWords_22 ⟨b0, qb + 17, u1, v2.1, c_nsize (by omega) v2 lb2.2.1 ⟨fun g => absurd ((nI_leI (by omega) (by omega)).mp g) (by omega), fun g => ⟨q0, q + 1, p0, r1.1, c_at (by omega) r1 h1 m1 ⟨fun g2 => ⟨q0, c_wordsAhead (by omega) hq hb m1 m2 h1 h2 lb2 ⟨q0, q + 5, p2, r3.1, c_add' (by omega) r3 (by omega) m3 (fun J2 h2' f2 => ⟨q0, q + 7, p3, r4.1, c_put (by omega) r4 (by omega) (m4.f f2 (by omega)) (fun J3 h3 f3 => ⟨q0, q0, ?_⟩)⟩)⟩⟩, fun g2 => ⟨q0, q + 5, p2, r3.1, c_add' (by omega) r3 (by omega) m3 (fun J2 h2' f2 => ?_)⟩⟩⟩⟩⟩
      · rw [psI_set]
        have fu : Fr q (q + 1) J3 (u2 J3 q 6 (pI (pset B J3) q 6 + 1)) := Fr.u (by omega) (by omega)
        have e6 : pI (pset B J3) q 6 = (plW b.2.1 fa sc li k).2.2 := by
          show J3 q 6 = _
          rw [f3 q (by omega), f2 q (by omega)]
          exact m5
        refine next _ ?_ (((hf.tr (f2.mono (by omega) (by omega))).tr (f3.mono (by omega) (by omega))).tr (fu.mono (by omega) (by omega)))
        rw [plW, if_pos g2]
        refine ⟨((m1.f f2 (by omega)).f f3 (by omega)).f fu (by omega), ((m2.f f2 (by omega)).f f3 (by omega)).f fu (by omega), (h2'.f f3 (by omega)).f fu (by omega), h3.f fu (by omega), ?_, h1, h2, ?_, ?_⟩
        · rw [u2_same, e6]
        · simp; omega
        · rw [rput_len]; omega
      · refine next _ ?_ (hf.tr (f2.mono (by omega) (by omega)))
        rw [plW, if_neg g2]
        refine ⟨m1.f f2 (by omega), m2.f f2 (by omega), h2', m4.f f2 (by omega), ?_, h1, h2, ?_, ?_⟩
        · rw [f2 q (by omega)]; exact m5
        · simp; omega
        · show (plW b.2.1 fa sc li k).2.1.length ≤ 5; omega
  refine bX6_placeWords_0 ⟨q0, q + 5, p2, r3.1, c_clear (by omega) r3 (fun J1 g1 f1 => ⟨q0, q + 7, p3, r4.1, c_fill (by omega) r4 (fun J2 g2 f2 => ⟨q0, ?_⟩)⟩)⟩
  rw [psI_set]
  have fu : Fr q (q + 1) J2 (u2 J2 q 6 0) := Fr.u (by omega) (by omega)
  exact key _ 0 _ rfl (by omega) ⟨((l1.f f1 (by omega)).f f2 (by omega)).f fu (by omega), ((l2.f f1 (by omega)).f f2 (by omega)).f fu (by omega), (g1.f f2 (by omega)).f fu (by omega), g2.f fu (by omega), u2_same, h1, h2, by simp [plW], by simp [plW]⟩ (((f1.mono (by omega) (by omega)).tr (f2.mono (by omega) (by omega))).tr (fu.mono (by omega) (by omega)))
