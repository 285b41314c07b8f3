/-! RECKONER -/
def holdsI (k l r : Int32) : Int32 := if k = 15 then (if l = 0 then 0 else if r = 0 then 0 else 1) else if k = 22 then (if r < l then 0 else 1) else if k = 23 then (if l < r then 0 else 1) else if k = 60 then (if r ≤ l then 0 else 1) else if k = 61 then (if l = r then 1 else 0) else if k = 62 then (if l ≤ r then 0 else 1) else (if l = 0 then (if r = 0 then 0 else 1) else 1)
def ofTwoI (k r l : Int32) : Int32 := if k = 17 then (if r < l then r else l) else if k = 18 then (if l < r then r else l) else if k = 42 then l * r else if k = 43 then l + r else if k = 45 then l - r else if k = 47 then (if r = 0 then 0 else l / r) else (if holdsI k l r = 0 then 0 else 1)
theorem c_holds {d : Nat} (hd : 1 ≤ d) {M : pM} {k l r : Int32} {K : Int32 → pM → Prop} (h : K (holdsI k l r) M) : pCall_i d mX8_holds (0, 0) [.int k, .int l, .int r] M K := by
  refine CP_go hd okX8_holds (Nat.le_of_ble_eq_true rfl) ?_
  refine bX8_holds_0 ?_
  unfold holdsI at h
  refine ⟨fun g => ?_, fun g => ?_⟩
  · rw [if_pos g] at h
    refine ⟨fun g2 => ?_, fun g2 => ?_⟩
    · rw [if_pos g2] at h; exact ⟨_, rfl, h⟩
    · rw [if_neg g2] at h
      refine ⟨fun g3 => ?_, fun g3 => ?_⟩
      · rw [if_pos g3] at h; exact ⟨_, rfl, h⟩
      · rw [if_neg g3] at h; exact ⟨_, rfl, h⟩
  · rw [if_neg g] at h
    refine ⟨fun g => ?_, fun g => ?_⟩
    · rw [if_pos g] at h
      refine ⟨fun g2 => ?_, fun g2 => ?_⟩
      · rw [if_pos g2] at h; exact ⟨_, rfl, h⟩
      · rw [if_neg g2] at h; exact ⟨_, rfl, h⟩
    · rw [if_neg g] at h
      refine ⟨fun g => ?_, fun g => ?_⟩
      · rw [if_pos g] at h
        refine ⟨fun g2 => ?_, fun g2 => ?_⟩
        · rw [if_pos g2] at h; exact ⟨_, rfl, h⟩
        · rw [if_neg g2] at h; exact ⟨_, rfl, h⟩
      · rw [if_neg g] at h
        refine ⟨fun g => ?_, fun g => ?_⟩
        · rw [if_pos g] at h
          refine ⟨fun g2 => ?_, fun g2 => ?_⟩
          · rw [if_pos g2] at h; exact ⟨_, rfl, h⟩
          · rw [if_neg g2] at h; exact ⟨_, rfl, h⟩
        · rw [if_neg g] at h
          refine ⟨fun g => ?_, fun g => ?_⟩
          · rw [if_pos g] at h
            refine ⟨fun g2 => ?_, fun g2 => ?_⟩
            · rw [if_pos g2] at h; exact ⟨_, rfl, h⟩
            · rw [if_neg g2] at h; exact ⟨_, rfl, h⟩
          · rw [if_neg g] at h
            refine ⟨fun g => ?_, fun g => ?_⟩
            · rw [if_pos g] at h
              refine ⟨fun g2 => ?_, fun g2 => ?_⟩
              · rw [if_pos g2] at h; exact ⟨_, rfl, h⟩
              · rw [if_neg g2] at h; exact ⟨_, rfl, h⟩
            · rw [if_neg g] at h
              refine ⟨fun g2 => ?_, fun g2 => ?_⟩
              · rw [if_pos g2] at h
                refine ⟨fun g3 => ?_, fun g3 => ?_⟩
                · rw [if_pos g3] at h; exact ⟨_, rfl, h⟩
                · rw [if_neg g3] at h; exact ⟨_, rfl, h⟩
              · rw [if_neg g2] at h; exact ⟨_, rfl, h⟩
theorem c_ofTwo {d : Nat} (hd : 2 ≤ d) {B : pM} {I : pIm} {k l r : Int32} {K : Int32 → pM → Prop} (h : K (ofTwoI k r l) (pset B I)) : pCall_i d mX8_ofTwo (0, 0) [.int k, .int r, .int l] (pset B I) K := by
  refine CP_go (by omega) okX8_ofTwo (Nat.le_of_ble_eq_true rfl) ?_
  refine bX8_ofTwo_0 ?_
  unfold ofTwoI at h
  refine ⟨fun g => ?_, fun g => ?_⟩
  · rw [if_pos g] at h
    exact ⟨_, rfl, h⟩
  · rw [if_neg g] at h
    refine ⟨fun g => ?_, fun g => ?_⟩
    · rw [if_pos g] at h
      exact ⟨_, rfl, h⟩
    · rw [if_neg g] at h
      refine ⟨fun g => ?_, fun g => ?_⟩
      · rw [if_pos g] at h
        exact ⟨_, rfl, h⟩
      · rw [if_neg g] at h
        refine ⟨fun g => ?_, fun g => ?_⟩
        · rw [if_pos g] at h
          exact ⟨_, rfl, h⟩
        · rw [if_neg g] at h
          refine ⟨fun g => ?_, fun g => ?_⟩
          · rw [if_pos g] at h
            exact ⟨_, rfl, h⟩
          · rw [if_neg g] at h
            refine ⟨fun g => ?_, fun g => ?_⟩
            · rw [if_pos g] at h
              refine ⟨fun g2 => ?_, fun g2 => ⟨g2, ?_⟩⟩
              · rw [if_pos g2] at h; exact ⟨_, rfl, h⟩
              · rw [if_neg g2] at h; exact ⟨_, rfl, h⟩
            · rw [if_neg g] at h
              refine c_holds (by omega) ⟨fun g2 => ?_, fun g2 => ?_⟩
              · rw [if_pos g2] at h; exact ⟨_, rfl, h⟩
              · rw [if_neg g2] at h; exact ⟨_, rfl, h⟩
def ofHandI (k v : Int32) (ty : List Int32) (tk la li : Int32) : Int32 := if k = 8 then nI ty.length else if k = 9 then tk else if k = 10 then li else if la = v then 1 else 0
theorem c_ofHand {d : Nat} (hd : 2 ≤ d) {B : pM} {I : pIm} {q : Nat} {k v : Int32} {ty : List Int32} {tk la li : Int32} {K : Int32 → pM → Prop} (hq : handS B q) (hl : Hd I q ty tk la li) (h : K (ofHandI k v ty tk la li) (pset B I)) : pCall_i d mX8_ofHand (0, 0) [.int k, .int v, .ref q] (pset B I) K := by
  refine CP_go (by omega) okX8_ofHand (Nat.le_of_ble_eq_true rfl) ?_
  unfold ofHandI at h
  refine bX8_ofHand_0 ⟨fun g => ⟨hq.1, q + 1, hq.2.1, hq.2.2.1, c_size (by omega) hq.2.2 hl.1 ⟨_, rfl, ?_⟩⟩, fun g => ?_⟩
  · rw [if_pos g] at h; exact h
  rw [if_neg g] at h
  refine ⟨fun g => ⟨hq.1, _, rfl, ?_⟩, fun g => ?_⟩
  · rw [if_pos g] at h; show K (I q 1) _; rw [hl.2.2.1]; exact h
  rw [if_neg g] at h
  refine ⟨fun g => ⟨hq.1, _, rfl, ?_⟩, fun g => ?_⟩
  · rw [if_pos g] at h; show K (I q 3) _; rw [hl.2.2.2.2]; exact h
  rw [if_neg g] at h
  have e : pI (pset B I) q 2 = la := hl.2.2.2.1
  refine ⟨hq.1, fun g => ⟨_, rfl, ?_⟩, fun g => ⟨_, rfl, ?_⟩⟩
  · rw [if_pos (e.symm.trans g)] at h; exact h
  · rw [if_neg (fun z => g (e.trans z))] at h; exact h
/-- what the steps look at: weights, names behind begins, typed, taken, latest, limit, far -/
abbrev rE : Type := List Int32 × List (List Int32) × List Int32 × Int32 × Int32 × Int32 × Int32
def stepR (E : rE) (k v : Int32) (st : List Int32) : List Int32 :=
  if k = 21 then pushL 400 st v
  else if k = 11 then pushL 400 st E.2.2.2.2.2.2
  else if k = 2 then pushL 400 st (rat E.1 v)
  else if k = 13 then pushL 400 st (bI (lat E.2.1 v <+: E.2.2.1))
  else if k = 8 ∨ k = 9 ∨ k = 10 ∨ k = 12 then pushL 400 st (ofHandI k v E.2.2.1 E.2.2.2.1 E.2.2.2.2.1 E.2.2.2.2.2.1)
  else if k = 30 then pushL 400 st.dropLast (-(st.getLastD 0))
  else if k = 14 then pushL 400 st.dropLast (if st.getLastD 0 = 0 then 1 else 0)
  else pushL 400 st.dropLast.dropLast (ofTwoI k (st.getLastD 0) (st.dropLast.getLastD 0))
def runI (E : rE) (ki va : List Int32) : Nat → Int32 → List Int32 → List Int32
  | 0, _, st => st
  | n + 1, i, st => runI E ki va n (i + 1) (stepR E (rat ki i) (rat va i) st)
def runV (E : rE) (ki va : List Int32) (fr to : Int32) : Int32 := (runI E ki va (to.toInt - fr.toInt).toNat fr []).getLastD 0
theorem stepR_len {E : rE} {k v : Int32} {st : List Int32} (h : st.length ≤ 400) : (stepR E k v st).length ≤ 400 := by
  have h1 : st.dropLast.length ≤ 400 := by rw [List.length_dropLast]; omega
  have h2 : st.dropLast.dropLast.length ≤ 400 := by rw [List.length_dropLast]; omega
  unfold stepR
  repeat' (first | exact pushL_len h | exact pushL_len h1 | exact pushL_len h2 | split)
def reckS (B : pM) (q : Nat) : Prop := pK B q = (1, 8) ∧ pP B q 0 = (q + 1) + 1 ∧ rowS B (q + 1) 400
/-- the weights, the steps and the names that a run looks at, in the book's cells -/
def envB (b : bK) (ty : List Int32) (tk la li far : Int32) : rE := (b.2.2.1, b.2.2.2.2.2.2.2.2.2.2.2, ty, tk, la, li, far)
theorem i32_ofInt_succ {i t : Int32} (h : i < t) : (i + 1).toInt = i.toInt + 1 := by
  have h1 := Int32.lt_iff_toInt_lt.mp h
  have h2 := Int32.le_toInt i
  have h3 := Int32.toInt_lt t
  rw [Int32.toInt_add]
  exact Int.bmod_eq_of_le (by simp at *; omega) (by simp at *; omega)

theorem c_run {d : Nat} (hd : 3 ≤ d) {B : pM} {I : pIm} {q qb qh : Nat} {b : bK} {ty : List Int32} {tk la li far fr to : Int32} {K : Int32 → pM → Prop} (hq : reckS B q) (hb : bookS B qb) (hh : handS B qh) (s1 : q + 3 ≤ qb ∨ qb + 527 ≤ q) (s2 : q + 3 ≤ qh ∨ qh + 3 ≤ q) (lb : Bk I qb b) (lh : Hd I qh ty tk la li)
    (h : ∀ J : pIm, Fr q (q + 3) I J → K (runV (envB b ty tk la li far) b.2.2.2.2.2.2.2.2.2.1 b.2.2.2.2.2.2.2.2.2.2.1 fr to) (pset B J)) : pCall_i d mX8_run (0, 0) [.ref q, .ref qb, .ref qh, .int far, .int fr, .int to] (pset B I) K := by
  refine CP_go (by omega) okX8_run (Nat.le_of_ble_eq_true rfl) ?_
  obtain ⟨q0, q1, r0⟩ := hq
  obtain ⟨b0, ⟨p0, p1, p2, p3, p4, p5⟩, r1, r2, r3, r4, r5, r6⟩ := hb
  obtain ⟨t0, ⟨u0, u1, u2, u3, u4, u5, u6⟩, v1, v2, v3, v4, v5, v6, v7⟩ := r6
  have key : ∀ (n : Nat) (i : Int32) (st : List Int32) (J : pIm), (to.toInt - i.toInt).toNat = n → st.length ≤ 400 → Rw J (q + 1) st → Fr q (q + 3) I J → runV (envB b ty tk la li far) b.2.2.2.2.2.2.2.2.2.1 b.2.2.2.2.2.2.2.2.2.2.1 fr to = (runI (envB b ty tk la li far) b.2.2.2.2.2.2.2.2.2.1 b.2.2.2.2.2.2.2.2.2.2.1 n i st).getLastD 0 → Go (d - 1) mX8_run (fun r M1 => ∃ v, r = .inl (some (.int v)) ∧ K v M1) 11 ([some (.ref q), some (.ref qb), some (.ref qh), some (.int far), none, some (.int to), some (.int i), none, none], [], 0, 0) (pset B J) := by
    intro n
    induction n with
    | zero =>
      intro i st J hn hst hJ hf he
      refine bX8_run_11 ⟨fun g => ⟨q0, q + 1, q1, r0.1, c_removeLast2 (by omega) r0 hst hJ (fun J2 h2 f2 => ⟨_, rfl, ?_⟩)⟩, fun g => ?_⟩
      · rw [runI] at he
        rw [← he]
        exact h J2 (hf.tr (f2.mono (by omega) (by omega)))
      · exfalso
        have := Int32.lt_iff_toInt_lt.mp (Int32.not_le.mp g)
        omega
    | succ n ih =>
      intro i st J hn hst hJ hf he
      refine bX8_run_11 ⟨fun g => ?_, fun g => ?_⟩
      · exfalso
        have := Int32.le_iff_toInt_le.mp g
        omega
      obtain ⟨l1, l2, l3, l4, l5, l6, l7, l8⟩ := lb.f hf (by omega)
      obtain ⟨m1, m2, m3, m4, m5, m6, m7, m8⟩ := l6
      have lh2 := lh.f hf (by omega)
      refine ⟨b0, qb + 110, p5, t0, (qb + 110) + 9, u4, v5.1, c_at (by omega) v5 m8.2.2.2.2.1 m5 ?_⟩
      refine ⟨b0, qb + 110, p5, t0, (qb + 110) + 11, u5, v6.1, c_at (by omega) v6 m8.2.2.2.2.2 m6 ?_⟩
      rw [runI] at he
      have hlt : i < to := Int32.not_le.mp g
      generalize rat b.2.2.2.2.2.2.2.2.2.1 i = k at he ⊢
      generalize rat b.2.2.2.2.2.2.2.2.2.2.1 i = v at he ⊢
      have next : ∀ J2, Rw J2 (q + 1) (stepR (envB b ty tk la li far) k v st) → Fr q (q + 3) I J2 → Go (d - 1) mX8_run (fun r M1 => ∃ v, r = .inl (some (.int v)) ∧ K v M1) 346 ([some (.ref q), some (.ref qb), some (.ref qh), some (.int far), none, some (.int to), some (.int i), none, none], [], 0, 0) (pset B J2) := by
        intro J2 h2 f2
        refine bX8_run_346 ?_
        refine ih (i + 1) _ J2 ?_ (stepR_len hst) h2 f2 he
        rw [i32_ofInt_succ hlt]; omega
      have push : ∀ {st2 : List Int32} {J1 : pIm} {x : Int32}, st2.length ≤ 400 → Rw J1 (q + 1) st2 → Fr q (q + 3) I J1 → stepR (envB b ty tk la li far) k v st = pushL 400 st2 x → pCall_v (d - 1) mX9_add (0, 0) [.ref (q + 1), .int x] (pset B J1) (fun M5 => Go (d - 1) mX8_run (fun r M1 => ∃ v, r = .inl (some (.int v)) ∧ K v M1) 346 ([some (.ref q), some (.ref qb), some (.ref qh), some (.int far), none, some (.int to), some (.int i), none, none], [], 0, 0) M5) := by
        intro st2 J1 x hs hr hf1 e
        refine c_add (by omega) r0 hs hr (fun J2 h2 f2 => next J2 ?_ (hf1.tr (f2.mono (by omega) (by omega))))
        rw [e]; exact h2
      have two : stepR (envB b ty tk la li far) k v st = pushL 400 st.dropLast.dropLast (ofTwoI k (st.getLastD 0) (st.dropLast.getLastD 0)) → Go (d - 1) mX8_run (fun r M1 => ∃ v, r = .inl (some (.int v)) ∧ K v M1) 320 ([some (.ref q), some (.ref qb), some (.ref qh), some (.int far), none, some (.int to), some (.int i), some (.int k), none], [], 0, 0) (pset B J) := by
        intro e
        have g1 : st.dropLast.length ≤ 400 := by rw [List.length_dropLast]; omega
        have g2 : st.dropLast.dropLast.length ≤ 400 := by rw [List.length_dropLast]; omega
        refine bX8_run_320 ⟨q0, q + 1, q1, q0, q + 1, q1, r0.1, c_removeLast2 (by omega) r0 hst hJ (fun J1 h1 f1 => ⟨q0, q + 1, q1, r0.1, c_removeLast2 (by omega) r0 g1 h1 (fun J2 h2 f2 => c_ofTwo (by omega) ⟨r0.1, push g2 h2 ((hf.tr (f1.mono (by omega) (by omega))).tr (f2.mono (by omega) (by omega))) e⟩)⟩)⟩
      have hnd : (k = 8 ∨ k = 9 ∨ k = 10 ∨ k = 12) → stepR (envB b ty tk la li far) k v st = pushL 400 st (ofHandI k v ty tk la li) → Go (d - 1) mX8_run (fun r M1 => ∃ v, r = .inl (some (.int v)) ∧ K v M1) 259 ([some (.ref q), some (.ref qb), some (.ref qh), some (.int far), none, some (.int to), some (.int i), some (.int k), some (.int v)], [], 0, 0) (pset B J) := by
        intro _ e
        exact bX8_run_259 ⟨q0, q + 1, q1, c_ofHand (by omega) hh lh2 ⟨r0.1, push hst hJ hf e⟩⟩
      refine ⟨fun g => ?_, fun g2 => ?_⟩
      · exact ⟨q0, q + 1, q1, b0, qb + 101, p2, r3.1, c_at (by omega) r3 l7 l3 ⟨r0.1, push hst hJ hf (by subst g; rfl)⟩⟩
      refine ⟨fun g => ?_, fun g3 => ?_⟩
      · exact two (by subst g; rfl)
      refine ⟨fun g => ?_, fun g4 => ?_⟩
      · exact two (by subst g; rfl)
      refine ⟨fun g => ?_, fun g5 => ?_⟩
      · exact two (by subst g; rfl)
      refine ⟨fun g => ?_, fun g6 => ?_⟩
      · exact two (by subst g; rfl)
      refine ⟨fun g => ?_, fun g7 => ?_⟩
      · exact two (by subst g; rfl)
      refine ⟨fun g => ?_, fun g8 => ?_⟩
      · exact hnd (by simp [g]) (by subst g; rfl)
      refine ⟨fun g => ?_, fun g9 => ?_⟩
      · exact hnd (by simp [g]) (by subst g; rfl)
      refine ⟨fun g => ?_, fun g10 => ?_⟩
      · exact hnd (by simp [g]) (by subst g; rfl)
      refine ⟨fun g => ?_, fun g11 => ?_⟩
      · exact ⟨q0, q + 1, q1, r0.1, push hst hJ hf (by subst g; rfl)⟩
      refine ⟨fun g => ?_, fun g12 => ?_⟩
      · exact hnd (by simp [g]) (by subst g; rfl)
      refine ⟨fun g => ?_, fun g13 => ?_⟩
      · refine ⟨q0, q + 1, q1, hh.1, qh + 1, hh.2.1, b0, qb + 110, p5, t0, (qb + 110) + 13, u6, v7.1, c_nat (by omega) v7 m7 (fun a1 m1 s1 s2 s3 _ _ => ⟨hh.2.2.1, c_beginsWith (by omega) hh.2.2 s1 lh2.2.1 s2 lh2.1 s3 ⟨fun z3 => ⟨r0.1, push hst hJ hf ?_⟩, fun z3 => ⟨r0.1, push hst hJ hf ?_⟩⟩⟩)⟩
        · subst g; rw [← z3]; rfl
        · subst g; rw [← (bI_01.resolve_left z3)]; rfl
      refine ⟨fun g => ?_, fun g14 => ?_⟩
      · have gl : st.dropLast.length ≤ 400 := by rw [List.length_dropLast]; omega
        refine ⟨q0, q + 1, q1, q0, q + 1, q1, r0.1, c_removeLast2 (by omega) r0 hst hJ (fun J1 h1 f1 => ⟨fun z3 => ⟨r0.1, push gl h1 (hf.tr (f1.mono (by omega) (by omega))) ?_⟩, fun z3 => ⟨r0.1, push gl h1 (hf.tr (f1.mono (by omega) (by omega))) ?_⟩⟩)⟩
        · subst g; show pushL 400 st.dropLast (if st.getLastD 0 = 0 then 1 else 0) = _; rw [if_pos z3]
        · subst g; show pushL 400 st.dropLast (if st.getLastD 0 = 0 then 1 else 0) = _; rw [if_neg z3]
      refine ⟨fun g => ?_, fun g15 => ?_⟩
      · exact two (by subst g; rfl)
      refine ⟨fun g => ?_, fun g16 => ?_⟩
      · exact two (by subst g; rfl)
      refine ⟨fun g => ?_, fun g17 => ?_⟩
      · exact two (by subst g; rfl)
      refine ⟨fun g => ?_, fun g18 => ?_⟩
      · exact two (by subst g; rfl)
      refine ⟨fun g => ?_, fun g19 => ?_⟩
      · exact two (by subst g; rfl)
      refine ⟨fun g => ?_, fun g20 => ?_⟩
      · exact two (by subst g; rfl)
      refine ⟨fun g => ?_, fun g21 => ?_⟩
      · exact ⟨q0, q + 1, q1, r0.1, push hst hJ hf (by subst g; rfl)⟩
      refine ⟨fun g => ?_, fun g22 => ?_⟩
      · exact two (by subst g; rfl)
      refine ⟨fun g => ?_, fun g23 => ?_⟩
      · exact two (by subst g; rfl)
      refine ⟨fun g => ?_, fun g24 => ?_⟩
      · exact two (by subst g; rfl)
      refine ⟨fun g => ?_, fun g25 => ?_⟩
      · exact two (by subst g; rfl)
      refine ⟨fun g => ?_, fun g26 => ?_⟩
      · exact two (by subst g; rfl)
      refine ⟨fun g => ?_, fun g27 => ?_⟩
      · exact two (by subst g; rfl)
      refine ⟨fun g => ?_, fun g28 => ?_⟩
      · exact two (by subst g; rfl)
      refine ⟨fun g => ?_, fun g29 => ?_⟩
      · exact two (by subst g; rfl)
      refine ⟨fun g => ?_, fun g30 => ?_⟩
      · have gl : st.dropLast.length ≤ 400 := by rw [List.length_dropLast]; omega
        exact ⟨q0, q + 1, q1, q0, q + 1, q1, r0.1, c_removeLast2 (by omega) r0 hst hJ (fun J1 h1 f1 => ⟨r0.1, push gl h1 (hf.tr (f1.mono (by omega) (by omega))) (by subst g; rfl)⟩)⟩
      refine two ?_
      unfold stepR
      rw [if_neg g21, if_neg g11, if_neg g2, if_neg g13, if_neg (fun z => z.elim g8 (fun z => z.elim g9 (fun z => z.elim g10 g12))), if_neg g30, if_neg g14]
  refine bX8_run_0 ⟨q0, q + 1, q1, r0.1, c_clear (by omega) r0 (fun J1 h1 f1 => key _ fr [] J1 rfl (by simp) h1 (f1.mono (by omega) (by omega)) rfl)⟩
/-- what the boosts of a tag tell -/
def boostI (E : rE) (b : bB) (tag : Int32) : Nat → Int32
  | 0 => 0
  | i + 1 => if rat b.1 (nI i) = tag then boostI E b tag i + (if runV E b.2.2.2.2.1 b.2.2.2.2.2.1 (rat b.2.2.1 (nI i)) (rat b.2.2.2.1 (nI i)) = 0 then 0 else runV E b.2.2.2.2.1 b.2.2.2.2.2.1 (rat b.2.1 (nI i)) (rat b.2.2.1 (nI i))) else boostI E b tag i
theorem c_boost {d : Nat} (hd : 4 ≤ d) {B : pM} {I : pIm} {q qb qh : Nat} {b : bK} {ty : List Int32} {tk la li far tag : Int32} {K : Int32 → pM → Prop} (hq : reckS B q) (hb : bookS B qb) (hh : handS B qh) (s1 : q + 3 ≤ qb ∨ qb + 527 ≤ q) (s2 : q + 3 ≤ qh ∨ qh + 3 ≤ q) (lb : Bk I qb b) (lh : Hd I qh ty tk la li)
    (h : ∀ J : pIm, Fr q (q + 3) I J → K (boostI (envB b ty tk la li far) b.2.2.2.2.2 tag b.2.2.2.2.2.1.length) (pset B J)) : pCall_i d mX8_boost (0, 0) [.ref q, .ref qb, .ref qh, .int tag, .int far] (pset B I) K := by
  refine CP_go (by omega) okX8_boost (Nat.le_of_ble_eq_true rfl) ?_
  obtain ⟨b0, ⟨p0, p1, p2, p3, p4, p5⟩, r1, r2, r3, r4, r5, r6⟩ := id hb
  obtain ⟨t0, ⟨u0, u1, u2, u3, u4, u5, u6⟩, v1, v2, v3, v4, v5, v6, v7⟩ := id r6
  have key : ∀ (m k : Nat) (J : pIm), b.2.2.2.2.2.1.length - k = m → k ≤ b.2.2.2.2.2.1.length → Fr q (q + 3) I J → Go (d - 1) mX8_boost (fun r M1 => ∃ v, r = .inl (some (.int v)) ∧ K v M1) 12 ([some (.ref q), some (.ref qb), some (.ref qh), some (.int tag), some (.int far), some (.ref (qb + 110)), some (.int (boostI (envB b ty tk la li far) b.2.2.2.2.2 tag k)), some (.int (nI k)), none, none], [], 0, 0) (pset B J) := by
    intro m
    induction m with
    | zero =>
      intro k J hm hk hf
      have lb2 := lb.f hf (by omega)
      have h12 : b.2.2.2.2.2.1.length ≤ 12 := lb2.2.2.2.2.2.1.2.2.2.2.2.2.2.1
      refine bX8_boost_12 ⟨t0, c_bsize (by omega) r6 lb2.2.2.2.2.2.1 ⟨fun g => ⟨_, rfl, ?_⟩, fun g => absurd (nI_le (show b.2.2.2.2.2.1.length ≤ k by omega) (by omega)) g⟩⟩
      have e : k = b.2.2.2.2.2.1.length := by omega
      rw [e]
      exact h J hf
    | succ m ih =>
      intro k J hm hk hf
      have lb2 := lb.f hf (by omega)
      obtain ⟨m1, m2, m3, m4, m5, m6, m7, m8⟩ := lb2.2.2.2.2.2.1
      have h12 : b.2.2.2.2.2.1.length ≤ 12 := m8.1
      have next : ∀ (J2 : pIm) (x : Int32), x = boostI (envB b ty tk la li far) b.2.2.2.2.2 tag (k + 1) → Fr q (q + 3) I J2 → Go (d - 1) mX8_boost (fun r M1 => ∃ v, r = .inl (some (.int v)) ∧ K v M1) 112 ([some (.ref q), some (.ref qb), some (.ref qh), some (.int tag), some (.int far), some (.ref (qb + 110)), some (.int x), some (.int (nI k)), none, none], [], 0, 0) (pset B J2) := by
        intro J2 x ex f2
        refine bX8_boost_112 ?_
        rw [nI_1, ex]
        exact ih (k + 1) J2 (by omega) (by omega) f2
      refine bX8_boost_12 ⟨t0, c_bsize (by omega) r6 lb2.2.2.2.2.2.1 ⟨fun g => absurd ((nI_leI (by omega) (by omega)).mp g) (by omega), fun g => ⟨t0, _, u0, v1.1, c_at (by omega) v1 m8.1 m1 ⟨fun g2 => ?_, fun g2 => ?_⟩⟩⟩⟩
      · refine ⟨t0, _, u1, v2.1, c_at (by omega) v2 m8.2.1 m2 ⟨t0, _, u2, v3.1, c_at (by omega) v3 m8.2.2.1 m3 ⟨hq.1, ?_⟩⟩⟩
        refine c_run (by omega) hq hb hh s1 s2 lb2 (lh.f hf (by omega)) (fun J2 f2 => ?_)
        have F2 := hf.tr f2
        have lb3 := lb.f F2 (by omega)
        obtain ⟨n1, n2, n3, n4, n5, n6, n7, n8⟩ := lb3.2.2.2.2.2.1
        refine ⟨t0, _, u2, v3.1, c_at (by omega) v3 n8.2.2.1 n3 ⟨t0, _, u3, v4.1, c_at (by omega) v4 n8.2.2.2.1 n4 ⟨hq.1, ?_⟩⟩⟩
        refine c_run (by omega) hq hb hh s1 s2 lb3 (lh.f F2 (by omega)) (fun J3 f3 => ⟨fun g3 => next J3 _ ?_ (F2.tr f3), fun g3 => next J3 _ ?_ (F2.tr f3)⟩)
        · show _ = boostI (envB b ty tk la li far) b.2.2.2.2.2 tag (k + 1)
          rw [boostI, if_pos g2]
          congr 1
          rw [if_pos g3]
        · show _ = boostI (envB b ty tk la li far) b.2.2.2.2.2 tag (k + 1)
          rw [boostI, if_pos g2]
          congr 1
          rw [if_neg g3]
      · refine next J _ ?_ hf
        rw [boostI, if_neg g2]
  exact bX8_boost_0 ⟨b0, _, p5, key _ 0 I rfl (by omega) Fr.rf⟩
