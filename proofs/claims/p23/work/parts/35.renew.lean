/-! RANKING, WHOLE -/
/-- words, rows of the keys, places of the keys: distance of one word -/
def faO (b : bK) (ty : List Int32) (k : Nat) : Int32 := distI b.2.2.2.2.1.1 b.2.2.2.2.1.2.1 ty (b.2.1.getD k [])
def scO (b : bK) (ty : List Int32) (tk la li : Int32) (k : Nat) : Int32 := rat b.2.2.1 (nI k) + boostI (envB b ty tk la li (faO b ty k)) b.2.2.2.2.2 (rat b.2.2.2.1 (nI k)) b.2.2.2.2.2.1.length - 10 * faO b ty k
def rkO (b : bK) (ty : List Int32) (tk la li : Int32) : rK := ((List.range b.2.1.length).map (faO b ty), (List.range b.2.1.length).map (scO b ty tk la li), plW b.2.1 ((List.range b.2.1.length).map (faO b ty)) ((List.range b.2.1.length).map (scO b ty tk la li)) li b.2.1.length)
theorem c_renew {d : Nat} (hd : 5 ≤ d) {B : pM} {I : pIm} {q qb qh : Nat} {b : bK} {ty : List Int32} {tk la li : Int32} {K : pM → Prop} (hq : rankS B q) (hb : bookS B qb) (hh : handS B qh) (sb : q + 14 ≤ qb ∨ qb + 527 ≤ q) (sh : q + 14 ≤ qh ∨ qh + 3 ≤ q) (lb : Bk I qb b) (lh : Hd I qh ty tk la li)
    (h : ∀ J : pIm, Rk J q (rkO b ty tk la li) → Fr q (q + 14) I J → K (pset B J)) : pCall_v d mX6_renew (0, 0) [.ref q, .ref qb, .ref qh] (pset B I) K := by
  refine CP_go (by omega) okX6_renew (Nat.le_of_ble_eq_true rfl) ?_
  obtain ⟨q0, ⟨p0, p1, p2, p3, p4, p5⟩, r1, r2, r3, r4, r5, r6⟩ := id hq
  obtain ⟨b0, ⟨u0, u1, w2, w3, w4, w5⟩, v1, v2, v3, v4, v5, v6⟩ := id hb
  have h40 := lb.2.1.2.1
  have key : ∀ (m k : Nat) (J : pIm), b.2.1.length - k = m → k ≤ b.2.1.length → Rw J (q + 1) ((List.range k).map (faO b ty)) → Rw J (q + 3) ((List.range k).map (scO b ty tk la li)) → Fr q (q + 14) I J → Go (d - 1) mX6_renew (fun r M1 => r = .inl none ∧ K M1) 16 ([some (.ref q), some (.ref qb), some (.ref qh), some (.int (nI k)), none, none], [], 0, 0) (pset B J) := by
    intro m
    induction m with
    | zero =>
      intro k J hm hk h1 h2 hf
      have lb2 := lb.f hf (by omega)
      have lh2 := lh.f hf (by omega)
      have e : k = b.2.1.length := by omega
      subst e
      refine bX6_renew_16 ⟨b0, qb + 17, u1, v2.1, c_nsize (by omega) v2 lb2.2.1 ⟨fun g => ⟨hh.1, q0, ?_⟩, fun g => absurd (nI_le (Nat.le_refl _) (by omega)) g⟩⟩
      have el : pI (pset B J) qh 3 = li := lh2.2.2.2.2
      rw [el]
      exact c_placeWords (by omega) hq hb sb h1 h2 (by simp; omega) (by simp; omega) lb2 (fun J2 g2 f2 => ⟨rfl, h J2 g2 (hf.tr f2)⟩)
    | succ m ih =>
      intro k J hm hk h1 h2 hf
      have lb2 := lb.f hf (by omega)
      have lh2 := lh.f hf (by omega)
      have hlt : k < b.2.1.length := by omega
      have hw : lat b.2.1 (nI k) = b.2.1.getD k [] := lat_nI (by omega)
      have h10 : (b.2.1.getD k []).length ≤ 10 := by
        rw [List.getD_eq_getElem?_getD, List.getElem?_eq_getElem hlt]
        exact lb.2.1.len _ (List.getElem_mem hlt)
      refine bX6_renew_16 ⟨b0, qb + 17, u1, v2.1, c_nsize (by omega) v2 lb2.2.1 ⟨fun g => absurd ((nI_leI (by omega) (by omega)).mp g) (by omega), fun g => ⟨hh.1, qh + 1, hh.2.1, b0, qb + 17, u1, v2.1, c_nat (by omega) v2 lb2.2.1 (fun a1 m1 s1 s2 s3 s4 s5 => ⟨b0, qb + 105, w4, q0, ?_⟩)⟩⟩⟩
      rw [hw] at s2 s3
      refine c_distance (by omega) hq hh.2.2 lh2.2.1 lh2.2.1 s1 s2 v5 (by omega) (by omega) (by omega) h10 lh2.1 s3 lb2.2.2.2.2.1 (fun J2 f2 => ⟨q0, q + 11, p5, b0, qb + 103, w3, v4.1, ?_⟩)
      have F2 : Fr q (q + 14) I J2 := hf.tr (f2.mono (by omega) (by omega))
      have lb3 := lb.f F2 (by omega)
      refine c_at (by omega) v4 lb3.2.2.2.2.2.2.2 lb3.2.2.2.1 ⟨r6.1, c_boost (by omega) r6 hb hh (by omega) (by omega) lb3 (lh.f F2 (by omega)) (fun J3 f3 => ⟨q0, q + 1, p0, r1.1, ?_⟩)⟩
      have F3 : Fr q (q + 14) I J3 := F2.tr (f3.mono (by omega) (by omega))
      refine c_add' (by omega) r1 (by simp; omega) ((h1.f f2 (by omega)).f f3 (by omega)) (fun J4 h4 f4 => ⟨q0, q + 3, p1, b0, qb + 101, w2, v3.1, ?_⟩)
      have F4 : Fr q (q + 14) I J4 := F3.tr (f4.mono (by omega) (by omega))
      have lb5 := lb.f F4 (by omega)
      refine c_at (by omega) v3 lb5.2.2.2.2.2.2.1 lb5.2.2.1 ⟨r2.1, c_add' (by omega) r2 (by simp; omega) (((h2.f f2 (by omega)).f f3 (by omega)).f f4 (by omega)) (fun J5 h5 f5 => ?_)⟩
      rw [nI_1]
      refine ih (k + 1) J5 (by omega) (by omega) ?_ ?_ (F4.tr (f5.mono (by omega) (by omega)))
      · rw [List.range_succ, List.map_append]; exact h4.f f5 (by omega)
      · rw [List.range_succ, List.map_append]; exact h5
  refine bX6_renew_0 ⟨q0, q + 1, p0, r1.1, c_clear (by omega) r1 (fun J1 g1 f1 => ⟨q0, q + 3, p1, r2.1, c_clear (by omega) r2 (fun J2 g2 f2 => ?_)⟩)⟩
  exact key _ 0 J2 rfl (by omega) (g1.f f2 (by omega)) g2 ((f1.mono (by omega) (by omega)).tr (f2.mono (by omega) (by omega)))
theorem c_far {d : Nat} (hd : 2 ≤ d) {B : pM} {I : pIm} {q : Nat} {r : rK} {i : Int32} {K : Int32 → pM → Prop} (hq : rankS B q) (hl : Rk I q r) (h : K (rat r.1 i) (pset B I)) : pCall_i d mX6_far (0, 0) [.ref q, .int i] (pset B I) K := by
  refine CP_go (by omega) okX6_far (Nat.le_of_ble_eq_true rfl) ?_
  exact bX6_far_0 ⟨hq.1, _, hq.2.1.1, hq.2.2.1.1, c_at (by omega) hq.2.2.1 hl.2.2.2.2.2.1 hl.1 ⟨_, rfl, h⟩⟩
theorem c_score {d : Nat} (hd : 2 ≤ d) {B : pM} {I : pIm} {q : Nat} {r : rK} {i : Int32} {K : Int32 → pM → Prop} (hq : rankS B q) (hl : Rk I q r) (h : K (rat r.2.1 i) (pset B I)) : pCall_i d mX6_score (0, 0) [.ref q, .int i] (pset B I) K := by
  refine CP_go (by omega) okX6_score (Nat.le_of_ble_eq_true rfl) ?_
  exact bX6_score_0 ⟨hq.1, _, hq.2.1.2.1, hq.2.2.2.1.1, c_at (by omega) hq.2.2.2.1 hl.2.2.2.2.2.2.1 hl.2.1 ⟨_, rfl, h⟩⟩
theorem c_place {d : Nat} (hd : 2 ≤ d) {B : pM} {I : pIm} {q : Nat} {r : rK} {i : Int32} {K : Int32 → pM → Prop} (hq : rankS B q) (hl : Rk I q r) (h : K (rat r.2.2.1 i) (pset B I)) : pCall_i d mX6_place (0, 0) [.ref q, .int i] (pset B I) K := by
  refine CP_go (by omega) okX6_place (Nat.le_of_ble_eq_true rfl) ?_
  exact bX6_place_0 ⟨hq.1, _, hq.2.1.2.2.1, hq.2.2.2.2.1.1, c_at (by omega) hq.2.2.2.2.1 hl.2.2.2.2.2.2.2.1 hl.2.2.1 ⟨_, rfl, h⟩⟩
theorem c_offered {d : Nat} (hd : 2 ≤ d) {B : pM} {I : pIm} {q : Nat} {r : rK} {i : Int32} {K : Int32 → pM → Prop} (hq : rankS B q) (hl : Rk I q r) (h : K (rat r.2.2.2.1 i) (pset B I)) : pCall_i d mX6_offered (0, 0) [.ref q, .int i] (pset B I) K := by
  refine CP_go (by omega) okX6_offered (Nat.le_of_ble_eq_true rfl) ?_
  exact bX6_offered_0 ⟨hq.1, _, hq.2.1.2.2.2.1, hq.2.2.2.2.2.1.1, c_at (by omega) hq.2.2.2.2.2.1 hl.2.2.2.2.2.2.2.2 hl.2.2.2.1 ⟨_, rfl, h⟩⟩
theorem c_nearWords {d : Nat} (hd : 1 ≤ d) {B : pM} {I : pIm} {q : Nat} {r : rK} {K : Int32 → pM → Prop} (hq : rankS B q) (hl : Rk I q r) (h : K r.2.2.2.2 (pset B I)) : pCall_i d mX6_nearWords (0, 0) [.ref q] (pset B I) K := by
  refine CP_go (by omega) okX6_nearWords (Nat.le_of_ble_eq_true rfl) ?_
  have e : pI (pset B I) q 6 = r.2.2.2.2 := hl.2.2.2.2.1
  exact bX6_nearWords_0 ⟨hq.1, _, rfl, by rw [e]; exact h⟩
def offdI (pl : List Int32) (i : Int32) : Int32 := if rat pl i < 0 then 0 else if 5 ≤ rat pl i then 0 else 1
theorem c_isOffered {d : Nat} (hd : 2 ≤ d) {B : pM} {I : pIm} {q : Nat} {r : rK} {i : Int32} {K : Int32 → pM → Prop} (hq : rankS B q) (hl : Rk I q r) (h : K (offdI r.2.2.1 i) (pset B I)) : pCall_i d mX6_isOffered (0, 0) [.ref q, .int i] (pset B I) K := by
  refine CP_go (by omega) okX6_isOffered (Nat.le_of_ble_eq_true rfl) ?_
  unfold offdI at h
  refine bX6_isOffered_0 ⟨hq.1, _, hq.2.1.2.2.1, hq.2.2.2.2.1.1, c_at (by omega) hq.2.2.2.2.1 hl.2.2.2.2.2.2.2.1 hl.2.2.1 ⟨fun g => ⟨_, rfl, ?_⟩, fun g => ⟨hq.1, _, hq.2.1.2.2.1, hq.2.2.2.2.1.1, c_at (by omega) hq.2.2.2.2.1 hl.2.2.2.2.2.2.2.1 hl.2.2.1 ⟨fun g2 => ⟨_, rfl, ?_⟩, fun g2 => ⟨_, rfl, ?_⟩⟩⟩⟩⟩
  · rw [if_pos g] at h; exact h
  · rw [if_neg g, if_pos g2] at h; exact h
  · rw [if_neg g, if_neg g2] at h; exact h
def leastL (ws : List (List Int32)) (sc pl : List Int32) (x : Int32) : Nat → Int64
  | 0 => -2147483648
  | o + 1 => if nI o = x then leastL ws sc pl x o else if rat pl (nI o) < 0 then leastL ws sc pl x o else
    if leadsI ws x (nI o) = 0 then (if Int32.toInt64 (rat sc (nI o)) + 1 < leastL ws sc pl x o then leastL ws sc pl x o else Int32.toInt64 (rat sc (nI o)) + 1)
    else (if Int32.toInt64 (rat sc (nI o)) < leastL ws sc pl x o then leastL ws sc pl x o else Int32.toInt64 (rat sc (nI o)))
theorem c_least {d : Nat} (hd : 3 ≤ d) {B : pM} {I : pIm} {q qb : Nat} {b : bK} {r : rK} {x : Int32} {K : Int64 → pM → Prop} (hq : rankS B q) (hb : bookS B qb) (hl : Rk I q r) (lb : Bk I qb b) (h : K (leastL b.2.1 r.2.1 r.2.2.1 x b.2.1.length) (pset B I)) : pCall_l d mX6_leastScoreToLead (0, 0) [.ref q, .ref qb, .int x] (pset B I) K := by
  refine CP_go (by omega) okX6_leastScoreToLead (Nat.le_of_ble_eq_true rfl) ?_
  obtain ⟨q0, ⟨p0, p1, p2, p3, p4, p5⟩, r1, r2, r3, r4, r5, r6⟩ := hq
  obtain ⟨b0, ⟨u0, u1, -⟩, v1, v2, v3, v4, v5, v6⟩ := id hb
  have h40 := lb.2.1.2.1
  have key : ∀ (m o : Nat), b.2.1.length - o = m → o ≤ b.2.1.length → Go (d - 1) mX6_leastScoreToLead (fun r M1 => ∃ v, r = .inl (some (.long v)) ∧ K v M1) 7 ([some (.ref q), some (.ref qb), some (.int x), some (.long (leastL b.2.1 r.2.1 r.2.2.1 x o)), none, some (.int (nI o)), none, none], [], 0, 0) (pset B I) := by
    intro m
    induction m with
    | zero =>
      intro o hm ho
      refine bX6_leastScoreToLead_7 ⟨b0, qb + 17, u1, v2.1, c_nsize (by omega) v2 lb.2.1 ⟨fun g => ⟨_, rfl, ?_⟩, fun g => absurd (nI_le (show b.2.1.length ≤ o by omega) (by omega)) g⟩⟩
      have e : o = b.2.1.length := by omega
      rw [e]
      exact h
    | succ m ih =>
      intro o hm ho
      have next : ∀ v, v = leastL b.2.1 r.2.1 r.2.2.1 x (o + 1) → Go (d - 1) mX6_leastScoreToLead (fun r M1 => ∃ v, r = .inl (some (.long v)) ∧ K v M1) 73 ([some (.ref q), some (.ref qb), some (.int x), some (.long v), none, some (.int (nI o)), none, none], [], 0, 0) (pset B I) := by
        intro v ev
        refine bX6_leastScoreToLead_73 ?_
        rw [nI_1, ev]
        exact ih (o + 1) (by omega) (by omega)
      refine bX6_leastScoreToLead_7 ⟨b0, qb + 17, u1, v2.1, c_nsize (by omega) v2 lb.2.1 ⟨fun g => absurd ((nI_leI (by omega) (by omega)).mp g) (by omega), fun g => ⟨fun g1 => next _ ?_, fun g1 => ⟨q0, q + 5, p2, r3.1, c_at (by omega) r3 hl.2.2.2.2.2.2.2.1 hl.2.2.1 ⟨fun g2 => next _ ?_, fun g2 => ⟨q0, q + 3, p1, r2.1, c_at (by omega) r2 hl.2.2.2.2.2.2.1 hl.2.1 (c_leadsTie (by omega) hb lb ⟨fun g3 => next _ ?_, fun g3 => next _ ?_⟩)⟩⟩⟩⟩⟩⟩
      · rw [leastL, if_pos g1]
      · rw [leastL, if_neg g1, if_pos g2]
      · rw [leastL, if_neg g1, if_neg g2, if_pos g3]
      · rw [leastL, if_neg g1, if_neg g2, if_neg g3]
  exact bX6_leastScoreToLead_0 (key _ 0 rfl (by omega))
