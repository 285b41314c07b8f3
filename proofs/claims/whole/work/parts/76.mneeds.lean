/-! THE REFERENCE'S CALLS: strokes, needs -/
theorem m_strokes {d : Nat} (hd : 410 ≤ d) {B : pM} {I : pIm} {r td dr : Nat} {cd : String → Int32} {s : wS} {w : Int32} {K : Int32 → pM → Prop} (hc : cd xIOB = 1) (hq : mdS B r td dr) (hl : modD I r td s) (h : modO B I r cd (strokesO s w) K) : pCall_i d mX13_strokes (0, 0) [.ref r, .int w] (pset B I) K := by
  refine CP_go (by omega) okX13_strokes (Nat.le_of_ble_eq_true rfl) ?_
  obtain ⟨g1, g2, g3⟩ := hl.th hq (n := 0)
  have hy := hq.lay
  have hy2 : td = r + 6 ∨ td = r + 17 := by omega
  have d1 : 1 ≤ d - 1 := by omega
  have d2 : 2 ≤ d - 1 := by omega
  have d409 : 409 ≤ d - 1 := by omega
  clear hd
  have sb := hq.2.2.2.2.1
  have p8 := hq.2.1.2.2.2.2.2.1
  have p17 := hq.2.2.1.2.2.1
  have K30 := hq.2.2.2.1.2.2.2.2.2.2.2.1
  generalize hI0 : u2 I r 0 0 = I0 at g1 g2
  have z0 : I0 r 0 = 0 := by rw [← hI0]; exact u2_same
  have ep : psI (pset B I) r 0 0 = pset B I0 := by rw [psI_set, hI0]
  have hb := g1.2.2.1
  have hh := g1.2.2.2
  have h40 := hb.2.2.2.2.2.1.2.1
  have e18 : pI (pset B I0) r 18 = nI s.2.2.2.1.length := hh.1
  unfold strokesO at h
  refine bX13_strokes_0 ⟨hq.1, hq.1, ?_⟩
  rw [ep]
  refine c_mthere d2 hq hb ⟨fun g => ⟨hq.1, ?_⟩, fun g => ⟨hq.1, hq.1, c_maside d1 hq (fun J1 f1 a1 => ⟨hq.1, hq.1, ?_⟩)⟩⟩
  · rw [if_pos g] at h
    exact (m_no d1 hq g1 g2 hc.symm h).mono (fun v M1 q => ⟨v, rfl, q⟩)
  rw [if_neg g] at h
  obtain ⟨i, hi, rfl⟩ := inW_of g (by omega)
  obtain ⟨b1, b2, b3, b4⟩ := lat_at hb hi
  rw [e18, psI_set]
  have A0 : asD I0 (u2 J1 r 18 0) r td := ⟨fun y h1 h2 => by rw [u2_a h1, f1 y (by omega)], fun f h1 h2 => by rw [u2_j h1, f1 r (by omega)], fun j hj => by rw [u2_a (by omega)]; exact a1 j hj⟩
  generalize hl0 : lat s.2.2.1.2.1 (nI i) = l at h b1 b2 b3 b4
  -- the loop, and what comes behind it
  have fin : ∀ (v : Int32) (J : pIm), v = stI s.2.2.1 s.2.2.2.2.1 s.2.2.2.2.2.1 s.2.2.2.2.2.2 (nI i) l l.length 0 → asD I0 J r td → pCall_v (d - 1) mX13_putBack (0, 0) [.ref r, .int (nI s.2.2.2.1.length)] (pset B J) (fun M5 => ∃ v1, (Sum.inl (some (.int v)) : pR) = .inl (some (.int v1)) ∧ K v1 M5) := by
    intro v J ev hA
    refine c_mputBack d1 hq (fun L q1 q2 q3 q4 => ⟨_, rfl, ?_⟩)
    obtain ⟨x1, x2, x3⟩ := hA.back hy2 g1 q1 q2 (q3.trans hh.1.symm) q4
    rw [ev]
    exact mod_stay (B := B) hq x1 (g2.tr x2) (x3.trans z0) h
  refine CP_go (by omega) okX13_strokesOf (Nat.le_of_ble_eq_true rfl) ?_
  have e1d : d - 1 - 1 = d - 2 := by omega
  rw [e1d]
  have key : ∀ (m k : Nat) (J : pIm), l.length - k = m → k ≤ l.length → asD I0 J r td → mhD J r (l.take k, s.2.2.2.2) → stI s.2.2.1 s.2.2.2.2.1 s.2.2.2.2.2.1 s.2.2.2.2.2.2 (nI i) l l.length 0 = stI s.2.2.1 s.2.2.2.2.1 s.2.2.2.2.2.1 s.2.2.2.2.2.2 (nI i) l m k → Go (d - 2) mX13_strokesOf (fun r1 M1 => ∃ v, r1 = .inl (some (.int v)) ∧ (pK M1 r = (1, 13) ∧ pCall_v (d - 1) mX13_putBack (0, 0) [.ref r, .int (nI s.2.2.2.1.length)] M1 (fun M5 => ∃ v1, (Sum.inl (some (.int v)) : pR) = .inl (some (.int v1)) ∧ K v1 M5))) 0 ([some (.ref r), some (.int (nI i)), none], [], 0, 0) (pset B J) := by
    intro m
    induction m with
    | zero =>
      intro k J hm hk hA hH hs
      refine bX13_strokesOf_0 ⟨hq.1, c_mlook (by omega) hq (hA.mb hy2 hb) hH (fun J2 f2 k2 => ⟨hq.1, c_mplace (by omega) hq ((hA.lk f2).mb hy2 hb) k2 hi (c_misIn (by omega) ⟨fun g4 => ⟨hq.1, hq.1, td, p8, sb.1, td + 2, sb.2.1.2.1, 40, sb.2.2.2.1, vp_inN (by omega) (by omega), ?_⟩, fun g4 => ⟨hq.1, _, rfl, hq.1, ?_⟩⟩)⟩)⟩
      · have hA2 := hA.lk f2
        have hH2 := hH.sc (f2.sc hy2)
        have ek : k = l.length := by omega
        have e18' : pI (pset B J2) r 18 = nI l.length := by
          have := hH2.1
          rw [List.length_take, Nat.min_eq_left hk, ek] at this
          exact this
        have el : pI (pset B J2) (td + 2) i = nI l.length := by
          have := (lat_at (hA2.mb hy2 hb) hi).1
          rw [hl0] at this
          exact this
        rw [nI_clamp (by omega), el, e18']
        refine ⟨fun _ => ⟨hq.1, _, rfl, hq.1, fin _ J2 ?_ hA2⟩, fun z => absurd rfl z⟩
        rw [hs, stI, ek]
      · have hA2 := hA.lk f2
        have hH2 := hH.sc (f2.sc hy2)
        have e18' : pI (pset B J2) r 18 = nI k := by
          have := hH2.1
          rw [List.length_take, Nat.min_eq_left hk] at this
          exact this
        rw [e18']
        refine fin _ J2 ?_ hA2
        rw [hs, stI]
    | succ m ih =>
      intro k J hm hk hA hH hs
      have hkl : k < l.length := by omega
      rw [stI] at hs
      have offd : ∀ pl : List Int32, isInI (rat pl (nI i)) 0 4 = offdI pl (nI i) := fun pl => by
        unfold isInI offdI
        by_cases c1 : rat pl (nI i) < 0
        · rw [if_pos c1, if_pos c1]
        · rw [if_neg c1, if_neg c1]
          by_cases c2 : (4 : Int32) < rat pl (nI i)
          · rw [if_pos c2, if_pos (Int32.not_lt.mp (fun z => (lt_lit (a := 4) (b := 5) (by decide)).mp z c2))]
          · rw [if_neg c2, if_neg (Int32.not_le.mpr ((lt_lit (a := 4) (b := 5) (by decide)).mpr c2))]
      refine bX13_strokesOf_0 ⟨hq.1, c_mlook (by omega) hq (hA.mb hy2 hb) hH (fun J2 f2 k2 => ⟨hq.1, c_mplace (by omega) hq ((hA.lk f2).mb hy2 hb) k2 hi (c_misIn (by omega) ?_)⟩)⟩
      rw [offd]
      have hA2 := hA.lk f2
      have hH2 := hH.sc (f2.sc hy2)
      have e18' : pI (pset B J2) r 18 = nI k := by
        have := hH2.1
        rw [List.length_take, Nat.min_eq_left hk] at this
        exact this
      refine ⟨fun g4 => ⟨hq.1, hq.1, td, p8, sb.1, td + 2, sb.2.1.2.1, 40, sb.2.2.2.1, vp_inN (by omega) (by omega), ?_⟩, fun g4 => ⟨hq.1, _, rfl, hq.1, ?_⟩⟩
      · have g4' : offdI (rkO s.2.2.1 (l.take k) s.2.2.2.2.1 s.2.2.2.2.2.1 s.2.2.2.2.2.2).2.2.1 (nI i) = 0 := g4
        rw [if_pos g4'] at hs
        have el : pI (pset B J2) (td + 2) i = nI l.length := by
          have := (lat_at (hA2.mb hy2 hb) hi).1
          rw [hl0] at this
          exact this
        rw [nI_clamp (by omega), el, e18']
        refine ⟨fun g5 => absurd ((nI_eq (by omega) (by omega)).mp g5) (by omega), fun g5 => ⟨hq.1, td, p8, hq.1, sb.1, c_mbyteOf (ws := s.2.2.1.2.1) (l := l) (by omega) sb (hA2.mb hy2 hb).2.1 h40 b4 b2 hkl (c_misLetter (by omega) ⟨fun g6 => ⟨_, rfl, hq.1, ?_⟩, fun g6 => ⟨hq.1, r + 30, p17, hq.1, 20, K30, ?_, hq.1, hq.1, ?_⟩⟩)⟩⟩
        · refine fin _ J2 ?_ hA2
          rw [hs, if_pos g6]
        · rw [e18']; exact vp_inN (by omega) (by omega)
        · rw [if_neg g6] at hs
          have e3 : pI (psI (pset B J2) (r + 30) (Int32.toNatClampNeg (pI (pset B J2) r 18)) (rat l (nI k))) r 18 = nI k := by
            show u2 J2 (r + 30) _ _ r 18 = _
            rw [u2_a (by omega)]; exact e18'
          rw [e3, e18', nI_clamp (by omega), nI_1, psI_set, psI_set]
          have er := rat_in (List.getElem?_eq_getElem hkl) (show l.length < 2 ^ 31 by omega)
          rw [er]
          refine ih (k + 1) _ (by omega) (by omega) ⟨fun y h1 h2 => by rw [u2_a h1, u2_a (by omega)]; exact hA2.1 y h1 h2, fun f h1 h2 => by rw [u2_j h1, u2_a (by omega)]; exact hA2.2.1 f h1 h2, fun j hj => by rw [u2_a (by omega), u2_a (by omega)]; exact hA2.2.2 j hj⟩ ?_ hs
          obtain ⟨k1, k2', k3, k4, k5, k6⟩ := hH2
          refine ⟨?_, ?_, ?_, by rw [u2_j (by decide), u2_a (by omega)]; exact k4, by rw [u2_j (by decide), u2_a (by omega)]; exact k5, by rw [u2_j (by decide), u2_a (by omega)]; exact k6⟩
          · rw [u2_same, List.length_take, Nat.min_eq_left (by omega)]
          · rw [List.length_take]; omega
          · rw [take1 hkl, u2_a (by omega)]
            refine k3.push _ (fun j hj => u2_j ?_) ?_
            · rw [List.length_take] at hj; omega
            · rw [List.length_take, Nat.min_eq_left (by omega)]; exact u2_same
      · have g4' : ¬ offdI (rkO s.2.2.1 (l.take k) s.2.2.2.2.1 s.2.2.2.2.2.1 s.2.2.2.2.2.2).2.2.1 (nI i) = 0 := g4
        rw [if_neg g4'] at hs
        rw [e18']
        exact fin _ J2 hs.symm hA2
  exact key _ 0 _ rfl (by omega) A0 ⟨u2_same, by simp, (fun j x hx => nomatch hx), (A0.2.1 19 (by decide) (by decide)).trans hh.2.2.2.1, (A0.2.1 20 (by decide) (by decide)).trans hh.2.2.2.2.1, (A0.2.1 21 (by decide) (by decide)).trans hh.2.2.2.2.2⟩ rfl
/-- the least score that leads, as a whole number -/
def lzI (ws : List (List Int32)) (sc pl : List Int32) (x : Int32) : Nat → Int
  | 0 => -2147483648
  | o + 1 => if nI o = x then lzI ws sc pl x o else if rat pl (nI o) < 0 then lzI ws sc pl x o else max (lzI ws sc pl x o) ((rat sc (nI o)).toInt + (if leadsI ws x (nI o) = 0 then 1 else 0))
theorem i64_add {a b : Int64} {x y : Int} (ha : a.toInt = x) (hb : b.toInt = y) (h1 : -9000000000 ≤ x + y) (h2 : x + y ≤ 9000000000) : (a + b).toInt = x + y := by
  rw [Int64.toInt_add, ha, hb]
  exact Int.bmod_eq_of_le (by simp at *; omega) (by simp at *; omega)
theorem i64_sub {a b : Int64} {x y : Int} (ha : a.toInt = x) (hb : b.toInt = y) (h1 : -9000000000 ≤ x - y) (h2 : x - y ≤ 9000000000) : (a - b).toInt = x - y := by
  rw [Int64.toInt_sub, ha, hb]
  exact Int.bmod_eq_of_le (by simp at *; omega) (by simp at *; omega)
theorem i32_b (a : Int32) : -2147483648 ≤ a.toInt ∧ a.toInt ≤ 2147483647 := by
  have h1 := Int32.le_toInt a
  have h2 := Int32.toInt_lt a
  simp at *
  omega
theorem least_z {ws : List (List Int32)} {sc pl : List Int32} {x : Int32} : ∀ n, (leastL ws sc pl x n).toInt = lzI ws sc pl x n ∧ -2147483648 ≤ lzI ws sc pl x n ∧ lzI ws sc pl x n ≤ 2147483648 := by
  intro n
  induction n with
  | zero => exact ⟨rfl, by rw [lzI]; omega, by rw [lzI]; omega⟩
  | succ n ih =>
    obtain ⟨i1, i2, i3⟩ := ih
    have hb := i32_b (rat sc (nI n))
    have es : (rat sc (nI n)).toInt64.toInt = (rat sc (nI n)).toInt := Int32.toInt_toInt64 _
    have es1 : ((rat sc (nI n)).toInt64 + 1).toInt = (rat sc (nI n)).toInt + 1 := i64_add es (show (1 : Int64).toInt = 1 by decide) (by omega) (by omega)
    rw [leastL, lzI]
    split
    · exact ⟨i1, i2, i3⟩
    · split
      · exact ⟨i1, i2, i3⟩
      · split
        · rename_i h3
          refine ⟨?_, by omega, by omega⟩
          by_cases c : (rat sc (nI n)).toInt64 + 1 < leastL ws sc pl x n
          · rw [if_pos c, i1]
            have := Int64.lt_iff_toInt_lt.mp c
            rw [es1, i1] at this
            omega
          · rw [if_neg c, es1]
            have c2 : ¬ ((rat sc (nI n)).toInt64 + 1).toInt < (leastL ws sc pl x n).toInt := fun z => c (Int64.lt_iff_toInt_lt.mpr z)
            rw [es1, i1] at c2
            omega
        · refine ⟨?_, by omega, by omega⟩
          by_cases c : (rat sc (nI n)).toInt64 < leastL ws sc pl x n
          · rw [if_pos c, i1]
            have := Int64.lt_iff_toInt_lt.mp c
            rw [es, i1] at this
            omega
          · rw [if_neg c, es]
            have c2 : ¬ (rat sc (nI n)).toInt64.toInt < (leastL ws sc pl x n).toInt := fun z => c (Int64.lt_iff_toInt_lt.mpr z)
            rw [es, i1] at c2
            omega
/-- the least of the others' claims is the first rival's -/
theorem lz_ge {ws : List (List Int32)} {sc pl : List Int32} {x : Int32} {o : Nat} (ho : nI o ≠ x) (hp : ¬ rat pl (nI o) < 0) : ∀ n, o < n → (rat sc (nI o)).toInt + (if leadsI ws x (nI o) = 0 then 1 else 0) ≤ lzI ws sc pl x n := by
  intro n
  induction n with
  | zero => intro h; exact absurd h (by omega)
  | succ n ih =>
    intro h
    rw [lzI]
    by_cases e : o = n
    · subst e
      rw [if_neg ho, if_neg hp]
      omega
    · have := ih (by omega)
      by_cases c1 : nI n = x
      · rw [if_pos c1]; exact this
      · rw [if_neg c1]
        by_cases c2 : rat pl (nI n) < 0
        · rw [if_pos c2]; exact this
        · rw [if_neg c2]; exact Int.le_trans this (Int.le_max_left _ _)
theorem lz_le {ws : List (List Int32)} {sc pl : List Int32} {x : Int32} {L : Int} (h0 : -2147483648 ≤ L) : ∀ n, (∀ o, o < n → nI o ≠ x → ¬ rat pl (nI o) < 0 → (rat sc (nI o)).toInt + (if leadsI ws x (nI o) = 0 then 1 else 0) ≤ L) → lzI ws sc pl x n ≤ L := by
  intro n
  induction n with
  | zero => intro _; exact h0
  | succ n ih =>
    intro h
    have := ih (fun o ho => h o (by omega))
    rw [lzI]
    by_cases c1 : nI n = x
    · rw [if_pos c1]; exact this
    · rw [if_neg c1]
      by_cases c2 : rat pl (nI n) < 0
      · rw [if_pos c2]; exact this
      · rw [if_neg c2]
        exact Int.max_le.mpr ⟨this, h n (by omega) c1 c2⟩
/-- ahead with a score of its own -/
def AhV (ws : List (List Int32)) (v : Int32) (a : Nat) (sc : Int32) (c : Nat) : Prop := sc < v ∨ (v = sc ∧ ((lat ws (nI a)).length < (lat ws (nI c)).length ∨ ((lat ws (nI a)).length = (lat ws (nI c)).length ∧ a < c)))
theorem c_misAheadV {d : Nat} (hd : 1 ≤ d) {B : pM} {I : pIm} {r td dr a c : Nat} {b : bK} {sc : List Int32} {v : Int32} {K : Int32 → pM → Prop} (hq : mdS B r td dr) (hb : mbD I td b) (ha : a < b.2.1.length) (hc : c < b.2.1.length) (hs : I (r + 34) c = rat sc (nI c)) (h1 : AhV b.2.1 v a (rat sc (nI c)) c → K 1 (pset B I)) (h0 : ¬ AhV b.2.1 v a (rat sc (nI c)) c → K 0 (pset B I)) : pCall_i d mX13_isAhead (0, 0) [.ref r, .int (nI a), .int v, .int (nI c)] (pset B I) K := by
  refine CP_go hd okX13_isAhead (Nat.le_of_ble_eq_true rfl) ?_
  have sb := hq.2.2.2.2.1
  have p8 := hq.2.1.2.2.2.2.2.1
  have p25 := hq.2.2.1.2.2.2.2.2.2.1
  have K34 := hq.2.2.2.1.2.2.2.2.2.2.2.2.2.2.2.1
  have h40 := hb.2.2.2.2.2.1.2.1
  have ca : (nI a).toNatClampNeg = a := nI_clamp (by omega)
  have cc : (nI c).toNatClampNeg = c := nI_clamp (by omega)
  have va : vp_in (nI a) 40 := vp_inN (by omega) (by omega)
  have vc : vp_in (nI c) 40 := vp_inN (by omega) (by omega)
  obtain ⟨la, la2, -⟩ := lat_at hb ha
  obtain ⟨lc, lc2, -⟩ := lat_at hb hc
  have la' : pI (pset B I) (td + 2) a = nI (lat b.2.1 (nI a)).length := la
  have lc' : pI (pset B I) (td + 2) c = nI (lat b.2.1 (nI c)).length := lc
  have hs' : pI (pset B I) (r + 34) c = rat sc (nI c) := hs
  refine bX13_isAhead_0 ⟨hq.1, r + 34, p25, 40, K34, vc, ?_⟩
  rw [ca, cc, hs']
  refine ⟨fun g => ⟨hq.1, td, p8, sb.1, td + 2, sb.2.1.2.1, 40, sb.2.2.2.1, va, hq.1, td, p8, sb.1, td + 2, sb.2.1.2.1, 40, sb.2.2.2.1, vc, ?_⟩, fun g => ⟨hq.1, r + 34, p25, 40, K34, vc, ?_⟩⟩
  · rw [la', lc']
    refine ⟨fun g2 => ⟨fun g3 => ⟨_, rfl, h0 ?_⟩, fun g3 => ⟨_, rfl, h1 ?_⟩⟩, fun g2 => ⟨hq.1, td, p8, sb.1, td + 2, sb.2.1.2.1, 40, sb.2.2.2.1, va, hq.1, td, p8, sb.1, td + 2, sb.2.1.2.1, 40, sb.2.2.2.1, vc, ?_⟩⟩
    · have e2 := (nI_eq (by omega) (by omega)).mp g2
      have e3 := (nI_leI (by omega) (by omega)).mp g3
      unfold AhV; rw [g]; intro z
      rcases z with z | z
      · exact Int32.lt_irrefl z
      · omega
    · have e2 := (nI_eq (by omega) (by omega)).mp g2
      have e3 : ¬ c ≤ a := fun z => g3 (nI_le z (by omega))
      exact Or.inr ⟨g, Or.inr ⟨e2, by omega⟩⟩
    · rw [la', lc']
      refine ⟨fun g3 => ⟨_, rfl, h0 ?_⟩, fun g3 => ⟨_, rfl, h1 ?_⟩⟩
      · have e2 : (lat b.2.1 (nI a)).length ≠ (lat b.2.1 (nI c)).length := fun z => g2 (by rw [z])
        have e3 := (nI_leI (by omega) (by omega)).mp g3
        unfold AhV; rw [g]; intro z
        rcases z with z | z
        · exact Int32.lt_irrefl z
        · omega
      · have e3 : ¬ (lat b.2.1 (nI c)).length ≤ (lat b.2.1 (nI a)).length := fun z => g3 (nI_le z (by omega))
        exact Or.inr ⟨g, Or.inl (by omega)⟩
  · rw [hs']
    refine ⟨fun g2 => ⟨_, rfl, h0 ?_⟩, fun g2 => ⟨_, rfl, h1 ?_⟩⟩
    · intro z
      rcases z with z | z
      · exact absurd g2 (Int32.not_le.mpr z)
      · exact g z.1
    · exact Or.inl (Int32.not_le.mp g2)
theorem ahV_iff {ws : List (List Int32)} {v sc : Int32} {a c : Nat} (h : ∀ l ∈ ws, l.length ≤ 10) (ha : a < 2 ^ 31) (hc : c < 2 ^ 31) : AhV ws v a sc c ↔ sc.toInt + (if leadsI ws (nI a) (nI c) = 0 then 1 else 0) ≤ v.toInt := by
  have hl := leads_iff h hc ha
  unfold AhV
  rw [Int32.lt_iff_toInt_lt, ← Int32.toInt_inj]
  by_cases c1 : leadsI ws (nI a) (nI c) = 0
  · rw [if_pos c1]
    have c2 := fun z => (hl.mpr z) c1
    constructor
    · intro z
      rcases z with z | z
      · omega
      · exact (c2 z.2).elim
    · intro z
      exact Or.inl (by omega)
  · rw [if_neg c1]
    have c2 := hl.mp c1
    constructor
    · intro z
      rcases z with z | z
      · omega
      · omega
    · intro z
      by_cases e : sc.toInt < v.toInt
      · exact Or.inl e
      · exact Or.inr ⟨by omega, c2⟩
theorem i32_add {a : Int32} {k : Nat} (hk : k ≤ 10000) (h : a.toInt + k ≤ 2147483647) : (a + nI k).toInt = a.toInt + k := by
  have hb := i32_b a
  rw [Int32.toInt_add, nI_toInt (by omega)]
  exact Int.bmod_eq_of_le (by simp at *; omega) (by simp at *; omega)
theorem need_spec {L : Int64} {base : Int32} {z : Int} (hL : L.toInt = z) (h1 : -2147483648 ≤ z) (h2 : z ≤ 2147483648) {v : Int32} (hv : v = if lg_cmp L 2147483647 ≤ 0 then (if lg_cmp (if L - base.toInt64 < 0 then 0 else L - base.toInt64) 9999 ≤ 0 then Int64.toInt32 (if L - base.toInt64 < 0 then 0 else L - base.toInt64) else -1) else -1) : (∃ x, x ≤ 9999 ∧ v = nI x ∧ z ≤ (base + nI x).toInt ∧ ∀ k, k < x → ¬ z ≤ (base + nI k).toInt) ∨ (v = -1 ∧ ∀ k, k ≤ 9999 → ¬ z ≤ (base + nI k).toInt) := by
  have hb := i32_b base
  have eb : base.toInt64.toInt = base.toInt := Int32.toInt_toInt64 _
  have ed : (L - base.toInt64).toInt = z - base.toInt := i64_sub hL eb (by omega) (by omega)
  have e1 : lg_cmp L 2147483647 ≤ 0 ↔ z ≤ 2147483647 := by
    rw [lg_cmp_le, Int64.le_iff_toInt_le, hL, show (2147483647 : Int64).toInt = 2147483647 from by decide]
  by_cases c1 : z ≤ 2147483647
  · rw [if_pos (e1.mpr c1)] at hv
    -- the weight that is wanted
    have hx : ∃ x : Nat, (if L - base.toInt64 < 0 then 0 else L - base.toInt64).toInt = (x : Int) ∧ (x : Int) = max 0 (z - base.toInt) := by
      by_cases c2 : L - base.toInt64 < 0
      · rw [if_pos c2]
        have := Int64.lt_iff_toInt_lt.mp c2
        rw [ed, show (0 : Int64).toInt = 0 from by decide] at this
        exact ⟨0, by decide, by omega⟩
      · rw [if_neg c2, ed]
        have c3 : ¬ (L - base.toInt64).toInt < (0 : Int64).toInt := fun y => c2 (Int64.lt_iff_toInt_lt.mpr y)
        rw [ed, show (0 : Int64).toInt = 0 from by decide] at c3
        exact ⟨(z - base.toInt).toNat, by omega, by omega⟩
    obtain ⟨x, ex, ex2⟩ := hx
    generalize (if L - base.toInt64 < 0 then 0 else L - base.toInt64) = X at hv ex
    have e2 : lg_cmp X 9999 ≤ 0 ↔ x ≤ 9999 := by
      rw [lg_cmp_le, Int64.le_iff_toInt_le, ex, show (9999 : Int64).toInt = 9999 from by decide]
      omega
    have small : ∀ k : Nat, k < x → k ≤ 9999 → ¬ z ≤ (base + nI k).toInt := by
      intro k hk hk2
      rw [i32_add (by omega) (by omega)]
      omega
    by_cases c2 : x ≤ 9999
    · rw [if_pos (e2.mpr c2)] at hv
      refine Or.inl ⟨x, c2, ?_, ?_, fun k hk => small k hk (by omega)⟩
      · have eX : X = lN x := by
          apply Int64.toInt_inj.mp
          rw [ex, lN_toInt (by omega)]
        rw [hv, eX, lN_i]
      · rw [i32_add (by omega) (by omega)]
        omega
    · rw [if_neg (fun y => c2 (e2.mp y))] at hv
      exact Or.inr ⟨hv, fun k hk => small k (by omega) hk⟩
  · rw [if_neg (fun y => c1 (e1.mp y))] at hv
    refine Or.inr ⟨hv, fun k hk => ?_⟩
    have := i32_b (base + nI k)
    omega
theorem m_needs {d : Nat} (hd : 408 ≤ d) {B : pM} {I : pIm} {r td dr : Nat} {cd : String → Int32} {s : wS} {w : Int32} {K : Int32 → pM → Prop} (hc : cd xIOB = 1) (hq : mdS B r td dr) (hl : modD I r td s) (h : modO B I r cd (needsO s w) K) : pCall_i d mX13_needs (0, 0) [.ref r, .int w] (pset B I) K := by
  refine CP_go (by omega) okX13_needs (Nat.le_of_ble_eq_true rfl) ?_
  obtain ⟨g1, g2, g3⟩ := hl.th hq (n := 0)
  have hy := hq.lay
  have d1 : 1 ≤ d - 1 := by omega
  have d2 : 2 ≤ d - 1 := by omega
  have d407 : 407 ≤ d - 1 := by omega
  clear hd
  have sb := hq.2.2.2.2.1
  have p8 := hq.2.1.2.2.2.2.2.1
  have p25 := hq.2.2.1.2.2.2.2.2.2.1
  have p26 := hq.2.2.1.2.2.2.2.2.2.2
  have K34 := hq.2.2.2.1.2.2.2.2.2.2.2.2.2.2.2.1
  have K35 := hq.2.2.2.1.2.2.2.2.2.2.2.2.2.2.2.2
  have h40 := g1.2.2.1.2.2.2.2.2.1.2.1
  unfold needsO at h
  refine bX13_needs_0 ⟨hq.1, hq.1, ?_⟩
  rw [psI_set]
  refine c_mthere d2 hq g1.2.2.1 ⟨fun g => ⟨hq.1, ?_⟩, fun g => ⟨hq.1, m_look d407 hq g1 (fun J x1 x2 x3 x4 => ⟨hq.1, ?_⟩)⟩⟩
  · rw [if_pos g] at h
    exact (m_no d1 hq g1 g2 hc.symm h).mono (fun v M1 q => ⟨v, rfl, q⟩)
  rw [if_neg g] at h
  obtain ⟨i, hi, rfl⟩ := inW_of g (by omega)
  have hb := x1.2.2.1
  have h10 : ∀ l ∈ s.2.2.1.2.1, l.length ≤ 10 := fun l hl => (hb.2.2.2.2.2.1.2.2.1 l hl).2
  obtain ⟨O, o1, o2, o3, o4, o5, o6, -, -, o9, -⟩ := lk_O hb x4
  have ans : ∀ v, v = needI s (nI i) → K v (pset B J) := fun v ev => by
    rw [ev]
    exact mod_stay (B := B) hq x1 (g2.tr x2) (x3.trans u2_same) h
  unfold needI at ans
  have f2 : (rkO s.2.2.1 s.2.2.2.1 s.2.2.2.2.1 s.2.2.2.2.2.1 s.2.2.2.2.2.2).2.1.length = s.2.2.1.2.1.length := by
    show ((List.range _).map _).length = _
    rw [List.length_map, List.length_range]
  have esc : ∀ x, x < s.2.2.1.2.1.length → J (r + 34) x = rat (rkO s.2.2.1 s.2.2.2.1 s.2.2.2.2.1 s.2.2.2.2.2.1 s.2.2.2.2.2.2).2.1 (nI x) := fun x hx => x4.2.1.rat (by rw [f2]; exact hx) (by rw [f2]; omega)
  have ewt : J (td + 3) i = rat s.2.2.1.2.2.1 (nI i) := ar_hd hb hi
  have hLz := least_z (ws := s.2.2.1.2.1) (sc := (rkO s.2.2.1 s.2.2.2.1 s.2.2.2.2.1 s.2.2.2.2.2.1 s.2.2.2.2.2.2).2.1) (pl := (rkO s.2.2.1 s.2.2.2.1 s.2.2.2.2.1 s.2.2.2.2.2.1 s.2.2.2.2.2.2).2.2.1) (x := nI i) s.2.2.1.2.1.length
  unfold needX needL at ans
  refine c_mplace (hn := s.2.2.2) d1 hq hb x4 hi ?_
  have o5' : ∀ p x, O[p]? = some x → rat (rkO s.2.2.1 s.2.2.2.1 s.2.2.2.2.1 s.2.2.2.2.2.1 s.2.2.2.2.2.2).2.2.1 (nI x) = nI p := o5
  have o6' : ∀ x, x < s.2.2.1.2.1.length → x ∉ O → rat (rkO s.2.2.1 s.2.2.2.1 s.2.2.2.2.1 s.2.2.2.2.2.1 s.2.2.2.2.2.2).2.2.1 (nI x) = -1 := o6
  have o9' : O.Pairwise (Ah s.2.2.1.2.1 (rkO s.2.2.1 s.2.2.2.1 s.2.2.2.2.1 s.2.2.2.2.2.1 s.2.2.2.2.2.2).2.1) := o9
  clear o5 o6 o9
  show ((rat (rkO s.2.2.1 s.2.2.2.1 s.2.2.2.2.1 s.2.2.2.2.2.1 s.2.2.2.2.2.2).2.2.1 (nI i) = -1 → _) ∧ (¬ rat (rkO s.2.2.1 s.2.2.2.1 s.2.2.2.2.1 s.2.2.2.2.2.1 s.2.2.2.2.2.2).2.2.1 (nI i) = -1 → _))
  generalize (rkO s.2.2.1 s.2.2.2.1 s.2.2.2.2.1 s.2.2.2.2.2.1 s.2.2.2.2.2.2).2.2.1 = pl at o5' o6' ans hLz
  generalize (rkO s.2.2.1 s.2.2.2.1 s.2.2.2.2.1 s.2.2.2.2.2.1 s.2.2.2.2.2.2).2.1 = sc at o9' ans hLz esc
  by_cases hiO : i ∈ O
  · obtain ⟨p, hp⟩ := List.getElem?_of_mem hiO
    have hpl := (List.getElem?_eq_some_iff.mp hp).1
    have epl := o5' p i hp
    have npl : ¬ rat pl (nI i) < 0 := by rw [epl]; exact nI_pos (by omega)
    rw [if_neg npl] at ans
    have ne1 : ¬ rat pl (nI i) = -1 := fun z => npl (by rw [z]; decide)
    have e27 : pI (pset B J) r 27 = nI O.length := o1
    have eO : ∀ q (hq2 : q < O.length), pI (pset B J) (r + 35) q = nI O[q] := fun q hq2 => o2 q _ (by rw [List.getElem?_map, List.getElem?_eq_getElem hq2]; rfl)
    -- the loop over the weights
    have loop : ∀ (rv : Int32) (cond : Nat → Prop), (∀ k, k ≤ 9999 → (cond k → K (nI k) (pset B J)) → (¬ cond k → Go (d - 1) mX13_needs (fun r M1 => ∃ v, r = .inl (some (.int v)) ∧ K v M1) 74 ([some (.ref r), some (.int (nI i)), some (.int rv), some (.int (nI (k + 1)))], [], 0, 0) (pset B J)) → Go (d - 1) mX13_needs (fun r M1 => ∃ v, r = .inl (some (.int v)) ∧ K v M1) 74 ([some (.ref r), some (.int (nI i)), some (.int rv), some (.int (nI k))], [], 0, 0) (pset B J)) → ((∃ x, x ≤ 9999 ∧ K (nI x) (pset B J) ∧ cond x ∧ ∀ k, k < x → ¬ cond k) ∨ (K (-1) (pset B J) ∧ ∀ k, k ≤ 9999 → ¬ cond k)) → Go (d - 1) mX13_needs (fun r M1 => ∃ v, r = .inl (some (.int v)) ∧ K v M1) 74 ([some (.ref r), some (.int (nI i)), some (.int rv), some (.int (nI 0))], [], 0, 0) (pset B J) := by
      intro rv cond step hx
      have key : ∀ (m k : Nat), 10000 - k = m → k ≤ 10000 → (∀ j, j < k → ¬ cond j) → Go (d - 1) mX13_needs (fun r M1 => ∃ v, r = .inl (some (.int v)) ∧ K v M1) 74 ([some (.ref r), some (.int (nI i)), some (.int rv), some (.int (nI k))], [], 0, 0) (pset B J) := by
        intro m
        induction m with
        | zero =>
          intro k hm hk hs
          have ek : k = 10000 := by omega
          subst ek
          rcases hx with ⟨x, hx1, -, hx3, -⟩ | ⟨hx1, -⟩
          · exact absurd hx3 (hs x (by omega))
          · exact bX13_needs_74 ⟨fun _ => ⟨_, rfl, hx1⟩, fun z => absurd (by decide) z⟩
        | succ m ih =>
          intro k hm hk hs
          refine step k (by omega) (fun hck => ?_) (fun hck => ih (k + 1) (by omega) (by omega) (fun j hj => ?_))
          · rcases hx with ⟨x, hx1, hx2, hx3, hx4⟩ | ⟨-, hx2⟩
            · have : x = k := by
                rcases Nat.lt_trichotomy x k with c | c | c
                · exact absurd hx3 (hs x c)
                · exact c
                · exact absurd hck (hx4 k c)
              rw [← this]; exact hx2
            · exact absurd hck (hx2 k (by omega))
          · by_cases c : j = k
            · subst c; exact hck
            · exact hs j (by omega)
      exact key _ 0 rfl (by omega) (fun j hj => absurd hj (by omega))
    -- with a rival
    have withR : ∀ j, j ∈ O → j ≠ i → (∀ o, o ∈ O → o ≠ i → o = j ∨ Ah s.2.2.1.2.1 sc j o) → Go (d - 1) mX13_needs (fun r M1 => ∃ v, r = .inl (some (.int v)) ∧ K v M1) 74 ([some (.ref r), some (.int (nI i)), some (.int (nI j)), some (.int (nI 0))], [], 0, 0) (pset B J) := by
      intro j hj hji hA
      have hjn := o4 j hj
      obtain ⟨pj, hpj⟩ := List.getElem?_of_mem hj
      have hpjl := (List.getElem?_eq_some_iff.mp hpj).1
      have ez : lzI s.2.2.1.2.1 sc pl (nI i) s.2.2.1.2.1.length = (rat sc (nI j)).toInt + (if leadsI s.2.2.1.2.1 (nI i) (nI j) = 0 then 1 else 0) := by
        have hbj := i32_b (rat sc (nI j))
        refine Int.le_antisymm (lz_le (by split <;> omega) _ (fun o ho hoi hop => ?_)) (lz_ge (fun z => hji ((nI_eq (by omega) (by omega)).mp z)) (by rw [o5' pj j hpj]; exact nI_pos (by omega)) _ hjn)
        have hoO : o ∈ O := Decidable.not_not.mp (fun z => hop (by rw [o6' o ho z]; decide))
        have hoi2 : o ≠ i := fun z => hoi (by rw [z])
        rcases hA o hoO hoi2 with e | e
        · rw [e]; exact Int.le_refl _
        · unfold Ah at e
          rw [Int32.lt_iff_toInt_lt, ← Int32.toInt_inj] at e
          have l1 := leads_iff h10 (show o < 2 ^ 31 by omega) (show i < 2 ^ 31 by omega)
          have l2 := leads_iff h10 (show j < 2 ^ 31 by omega) (show i < 2 ^ 31 by omega)
          by_cases c1 : leadsI s.2.2.1.2.1 (nI i) (nI o) = 0
          · rw [if_pos c1]
            by_cases c2 : leadsI s.2.2.1.2.1 (nI i) (nI j) = 0
            · rw [if_pos c2]; omega
            · rw [if_neg c2]
              have t2 := l2.mp c2
              rcases e with e | e
              · omega
              · exact absurd c1 (l1.mpr (by omega))
          · rw [if_neg c1]
            split <;> omega
      refine loop (nI j) (fun k => lzI s.2.2.1.2.1 sc pl (nI i) s.2.2.1.2.1.length ≤ (rat sc (nI i) - rat s.2.2.1.2.2.1 (nI i) + nI k).toInt) (fun k hk yes no => ?_) ?_
      · have nj : ¬ nI j = -1 := fun z => nI_pos (n := j) (by omega) (by rw [z]; decide)
        refine bX13_needs_74 ⟨fun z => absurd z (nI_nlt (a := 9999) (by omega) (by omega)), fun _ => ⟨fun z => absurd z nj, fun _ => ⟨hq.1, r + 34, p25, 40, K34, vp_inN (by omega) (by omega), hq.1, td, p8, sb.1, td + 3, sb.2.1.2.2.1, 40, sb.2.2.2.2.1, vp_inN (by omega) (by omega), hq.1, ?_⟩⟩⟩
        have e1 : pI (pset B J) (r + 34) i = rat sc (nI i) := esc i hi
        have e2 : pI (pset B J) (td + 3) i = rat s.2.2.1.2.2.1 (nI i) := ewt
        rw [nI_clamp (show i < 2 ^ 31 by omega), e1, e2, nI_1]
        refine c_misAheadV (sc := sc) d1 hq hb hi hjn (esc j hjn) (fun z => ⟨fun y => absurd y (by decide), fun _ => ⟨_, rfl, yes ?_⟩⟩) (fun z => ⟨fun _ => no (fun y => z ?_), fun y => absurd rfl y⟩)
        · show lzI _ _ _ _ _ ≤ _
          rw [ez]
          exact (ahV_iff h10 (by omega) (by omega)).mp z
        · have y' : lzI s.2.2.1.2.1 sc pl (nI i) s.2.2.1.2.1.length ≤ (rat sc (nI i) - rat s.2.2.1.2.2.1 (nI i) + nI k).toInt := y
          rw [ez] at y'
          exact (ahV_iff h10 (by omega) (by omega)).mpr y'
      · rcases need_spec hLz.1 hLz.2.1 hLz.2.2 (base := rat sc (nI i) - rat s.2.2.1.2.2.1 (nI i)) rfl with ⟨x, q1, q2, q3, q4⟩ | ⟨q1, q2⟩
        · exact Or.inl ⟨x, q1, ans _ q2.symm, q3, q4⟩
        · exact Or.inr ⟨ans _ q1.symm, q2⟩
    -- and without one
    have without : (∀ o, o ∈ O → o = i) → Go (d - 1) mX13_needs (fun r M1 => ∃ v, r = .inl (some (.int v)) ∧ K v M1) 74 ([some (.ref r), some (.int (nI i)), some (.int (-1)), some (.int (nI 0))], [], 0, 0) (pset B J) := by
      intro hA
      refine bX13_needs_74 ⟨fun z => absurd z (by decide), fun _ => ⟨fun _ => ⟨_, rfl, ans _ ?_⟩, fun z => absurd rfl z⟩⟩
      have ez : lzI s.2.2.1.2.1 sc pl (nI i) s.2.2.1.2.1.length ≤ -2147483648 := by
        refine lz_le (by omega) _ (fun o ho hoi hop => ?_)
        have hoO : o ∈ O := Decidable.not_not.mp (fun z => hop (by rw [o6' o ho z]; decide))
        exact absurd (by rw [hA o hoO]) hoi
      have hb2 := i32_b (rat sc (nI i) - rat s.2.2.1.2.2.1 (nI i) + nI 0)
      rcases need_spec hLz.1 hLz.2.1 hLz.2.2 (base := rat sc (nI i) - rat s.2.2.1.2.2.1 (nI i)) rfl with ⟨x, q1, q2, q3, q4⟩ | ⟨q1, q2⟩
      · have hx0 : x = 0 := by
          refine Nat.eq_zero_of_not_pos (fun z => q4 0 z ?_)
          omega
        rw [hx0] at q2
        exact q2.symm
      · exact absurd (show lzI s.2.2.1.2.1 sc pl (nI i) s.2.2.1.2.1.length ≤ _ by omega) (q2 0 (by omega))
    have h0 : 0 < O.length := by omega
    refine ⟨fun z => absurd z ne1, fun _ => ⟨hq.1, r + 35, p26, 40, K35, vp_inN (j := 0) (by omega) (by omega), ?_⟩⟩
    have e0 : pI (pset B J) (r + 35) (Int32.toNatClampNeg 0) = nI O[0] := eO 0 h0
    have pw := List.pairwise_iff_getElem.mp o9'
    have h0n := o4 O[0] (List.getElem_mem h0)
    rw [e0]
    refine ⟨fun g5 => ⟨hq.1, ?_⟩, fun g5 => ⟨hq.1, r + 35, p26, 40, K35, vp_inN (j := 0) (by omega) (by omega), ?_⟩⟩
    · have e5 : O[0] = i := (nI_eq (by omega) (by omega)).mp g5
      rw [e27]
      refine ⟨fun g6 => without (fun o ho => ?_), fun g6 => ⟨hq.1, r + 35, p26, 40, K35, vp_inN (j := 1) (by omega) (by omega), ?_⟩⟩
      · have hl1 := (nI_leI (b := 1) (by omega) (by omega)).mp g6
        obtain ⟨q, hqo⟩ := List.getElem?_of_mem ho
        have hq1 := (List.getElem?_eq_some_iff.mp hqo).1
        have : q = 0 := by omega
        subst this
        rw [← (List.getElem?_eq_some_iff.mp hqo).2]; exact e5
      · have hl1 : 1 < O.length := Nat.not_le.mp (fun z => g6 (nI_le (b := 1) z (by omega)))
        have e1 : pI (pset B J) (r + 35) (Int32.toNatClampNeg 1) = nI O[1] := eO 1 hl1
        rw [e1]
        have nd : O[1] ≠ i := fun z => by
          have := pw 0 1 h0 hl1 (by omega)
          rw [e5, z] at this
          exact this.asym this
        refine withR O[1] (List.getElem_mem hl1) nd (fun o ho hoi => ?_)
        obtain ⟨q, hqo⟩ := List.getElem?_of_mem ho
        have hq1 := (List.getElem?_eq_some_iff.mp hqo).1
        have eq := (List.getElem?_eq_some_iff.mp hqo).2
        rcases Nat.lt_trichotomy q 1 with c | c | c
        · have : q = 0 := by omega
          subst this
          exact absurd (eq.symm.trans e5) hoi
        · subst c; exact Or.inl eq.symm
        · have := pw 1 q hl1 hq1 c
          rw [eq] at this
          exact Or.inr this
    · rw [e0]
      have n5 : O[0] ≠ i := fun z => g5 (by rw [z])
      refine withR O[0] (List.getElem_mem h0) n5 (fun o ho hoi => ?_)
      obtain ⟨q, hqo⟩ := List.getElem?_of_mem ho
      have hq1 := (List.getElem?_eq_some_iff.mp hqo).1
      have eq := (List.getElem?_eq_some_iff.mp hqo).2
      by_cases c : q = 0
      · subst c; exact Or.inl eq.symm
      · have := pw 0 q h0 hq1 (by omega)
        rw [eq] at this
        exact Or.inr this
  · have epl := o6' i hi hiO
    rw [epl] at ans ⊢
    refine ⟨fun _ => ⟨_, rfl, ans _ ?_⟩, fun z => absurd rfl z⟩
    rw [if_pos (by decide)]
