/-! THE REFERENCE'S CALLS: best, mean, digest, closest, strokes -/
theorem c_mwwith {d : Nat} (hd : 3 ≤ d) {B : pM} {I : pIm} {r td dr : Nat} {b : bK} {hn : List Int32 × Int32 × Int32 × Int32} {le : Int32} {K : Int32 → pM → Prop} (hq : mdS B r td dr) (hb : mbD I td b) (hh : mhD I r hn) (hle : ¬ le = -1) (h : K (wbh hn.1 le b.2.2.1 b.2.1 0 (-1)) (pset B I)) : pCall_i d mX13_weightsWith (0, 0) [.ref r, .int le] (pset B I) K := by
  refine CP_go (by omega) okX13_weightsWith (Nat.le_of_ble_eq_true rfl) ?_
  have sb := hq.2.2.2.2.1
  have p8 := hq.2.1.2.2.2.2.2.1
  have h40 := hb.2.2.2.2.2.1.2.1
  have h20 := hh.2.1
  have e1 : pI (pset B I) td 1 = nI b.2.1.length := hb.1.2.1
  have e18 : pI (pset B I) r 18 = nI hn.1.length := hh.1
  have d2 : 2 ≤ d - 1 := by omega
  have d1 : 1 ≤ d - 1 := by omega
  have key : ∀ (m k : Nat) (a : Int32), b.2.1.length - k = m → k ≤ b.2.1.length → wbh hn.1 le b.2.2.1 b.2.1 0 (-1) = wbh hn.1 le b.2.2.1 (b.2.1.drop k) k a → Go (d - 1) mX13_weightsWith (fun r M1 => ∃ v, r = .inl (some (.int v)) ∧ K v M1) 4 ([some (.ref r), some (.int le), some (.int a), some (.int (nI k))], [], 0, 0) (pset B I) := by
    intro m
    induction m with
    | zero =>
      intro k a hm hk e
      refine bX13_weightsWith_4 ⟨hq.1, td, p8, sb.1, fun _ => ⟨_, rfl, ?_⟩, fun g => absurd (by rw [e1]; exact nI_le (by omega) (by omega)) g⟩
      rw [List.drop_of_length_le (by omega)] at e
      rw [e] at h
      exact h
    | succ m ih =>
      intro k a hm hk e
      have hk2 : k < b.2.1.length := by omega
      have elat : lat b.2.1 (nI k) = b.2.1[k] := lat_in (List.getElem?_eq_getElem hk2) (by omega)
      obtain ⟨a1, a2, a3, a4⟩ := lat_at hb hk2
      rw [List.drop_eq_getElem_cons hk2, wbh, ← elat] at e
      have vk : vp_in (nI k) 40 := vp_inN (by omega) (by omega)
      have ck : (nI k).toNatClampNeg = k := nI_clamp (by omega)
      have next : ∀ x, x = (if rat (lat b.2.1 (nI k)) (nI hn.1.length) = le then (if hn.1 <+: lat b.2.1 (nI k) then (if 0 < a then a else 0) + rat b.2.2.1 (nI k) else a) else a) → Go (d - 1) mX13_weightsWith (fun r M1 => ∃ v, r = .inl (some (.int v)) ∧ K v M1) 71 ([some (.ref r), some (.int le), some (.int x), some (.int (nI k))], [], 0, 0) (pset B I) := by
        intro x ex
        refine bX13_weightsWith_71 ?_
        rw [nI_1]
        exact ih (k + 1) x (by omega) (by omega) (by rw [ex]; exact e)
      refine bX13_weightsWith_4 ⟨hq.1, td, p8, sb.1, fun g => ?_, fun _ => ⟨hq.1, c_misBegin d2 hq hb hh hk2 ⟨fun g => next _ ?_, fun g => ⟨hq.1, td, p8, sb.1, td + 2, sb.2.1.2.1, 40, sb.2.2.2.1, vk, hq.1, ?_⟩⟩⟩⟩
      · exfalso
        rw [e1] at g
        have := (nI_leI (by omega) (by omega)).mp g
        omega
      · rw [if_neg (bI_eq0.mp g)]
        split <;> rfl
      · have hpre := Decidable.not_not.mp (fun z => g (bI_eq0.mpr z))
        have el : pI (pset B I) (td + 2) k = nI (lat b.2.1 (nI k)).length := a1
        rw [ck, el, e18]
        refine ⟨fun g2 => next _ ?_, fun g2 => ⟨hq.1, td, p8, hq.1, sb.1, ?_⟩⟩
        · have := (nI_leI (by omega) (by omega)).mp g2
          rw [rat_out (by omega) (by omega), if_neg (fun z => hle z.symm)]
        · have hlt : hn.1.length < (lat b.2.1 (nI k)).length := Nat.not_le.mp (fun z => g2 (nI_le z (by omega)))
          refine c_mbyteOf (ws := b.2.1) d1 sb hb.2.1 h40 a4 a2 hlt ⟨fun g3 => ⟨hq.1, td, p8, sb.1, td + 3, sb.2.1.2.2.1, 40, sb.2.2.2.2.1, vk, next _ ?_⟩, fun g3 => next _ ?_⟩
          · have ew : pI (pset B I) (td + 3) k = rat b.2.2.1 (nI k) := ar_hd hb hk2
            rw [ew, if_pos g3, if_pos hpre]
          · rw [if_neg g3]
  exact bX13_weightsWith_0 (key _ 0 (-1) rfl (by omega) rfl)
theorem m_best {d : Nat} (hd : 4 ≤ d) {B : pM} {I : pIm} {r td dr : Nat} {cd : String → Int32} {s : wS} {K : Int32 → pM → Prop} (hq : mdS B r td dr) (hl : modD I r td s) (h : modO B I r cd (rI (bestI s 26).1, s) K) : pCall_i d mX13_best (0, 0) [.ref r] (pset B I) K := by
  refine CP_go (by omega) okX13_best (Nat.le_of_ble_eq_true rfl) ?_
  obtain ⟨g1, g2, g3⟩ := hl.th hq (n := 0)
  have d3 : 3 ≤ d - 1 := by omega
  have key : ∀ (m k : Nat), 26 - k = m → k ≤ 26 → Go (d - 1) mX13_best (fun r M1 => ∃ v, r = .inl (some (.int v)) ∧ K v M1) 12 ([some (.ref r), some (.int (bestI s k).1), some (.int (bestI s k).2), some (.int (nI (97 + k))), none], [], 0, 0) (pset B (u2 I r 0 0)) := by
    intro m
    induction m with
    | zero =>
      intro k hm hk
      have e : k = 26 := by omega
      subst e
      exact bX13_best_12 ⟨fun _ => ⟨_, rfl, mod_stay (B := B) hq g1 g2 u2_same h⟩, fun g => absurd (by decide) g⟩
    | succ m ih =>
      intro k hm hk
      refine bX13_best_12 ⟨fun g => absurd g (nI_nlt (a := 122) (by omega) (by omega)), fun _ => ⟨hq.1, c_mwwith d3 hq g1.2.2.1 g1.2.2.2 (fun z => absurd z ?_) ⟨fun g => bX13_best_39 ?_, fun g => bX13_best_39 ?_⟩⟩⟩
      · intro z
        have := nI_pos (n := 97 + k) (by omega)
        rw [z] at this
        exact this (by decide)
      · rw [nI_1]
        have e : bestI s (k + 1) = (nI (97 + k), wbh s.2.2.2.1 (nI (97 + k)) s.2.2.1.2.2.1 s.2.2.1.2.1 0 (-1)) := by rw [bestI, if_neg (Int32.not_le.mpr g)]
        have := ih (k + 1) (by omega) (by omega)
        rw [e] at this
        exact this
      · rw [nI_1]
        have e : bestI s (k + 1) = bestI s k := by rw [bestI, if_pos (Int32.not_lt.mp g)]
        have := ih (k + 1) (by omega) (by omega)
        rw [e] at this
        exact this
  exact bX13_best_0 ⟨hq.1, by rw [psI_set]; exact key 26 0 rfl (by omega)⟩
theorem m_mean {d : Nat} (hd : 2 ≤ d) {B : pM} {I : pIm} {r td dr : Nat} {s : wS} {K : UInt64 → pM → Prop} (hq : mdS B r td dr) (hl : modD I r td s) (hnan : s.2.2.1.2.1.length ≠ 0 → vf_n64 (FP.ddiv (FP.i2d (sumI s.2.2.1.2.2.1)) (FP.i2d (nI s.2.2.1.2.1.length)))) (h : ∀ J, modD J r td s → Fr r (r + 36) I J → K (meanI s) (pset B J)) : pCall_d d mX13_mean (0, 0) [.ref r] (pset B I) K := by
  refine CP_go (by omega) okX13_mean (Nat.le_of_ble_eq_true rfl) ?_
  obtain ⟨g1, g2, g3⟩ := hl.th hq (n := 0)
  have sb := hq.2.2.2.2.1
  have p8 := hq.2.1.2.2.2.2.2.1
  have hb := g1.2.2.1
  have h40 := hb.2.2.2.2.2.1.2.1
  have e1 : pI (pset B (u2 I r 0 0)) td 1 = nI s.2.2.1.2.1.length := hb.1.2.1
  have h1 := h _ g1 g2
  unfold meanI at h1
  refine bX13_mean_0 ⟨hq.1, hq.1, td, p8, sb.1, ?_⟩
  rw [psI_set, e1]
  refine ⟨fun g => ⟨_, rfl, ?_⟩, fun g => ⟨hq.1, c_mweights (by omega) hq hb ⟨hq.1, td, p8, sb.1, ?_⟩⟩⟩
  · rw [if_pos ((nI_eq (b := 0) (by omega) (by omega)).mp g)] at h1
    exact h1
  · have e : ¬ s.2.2.1.2.1.length = 0 := fun z => g (by rw [z]; rfl)
    rw [if_neg e] at h1
    rw [e1]
    exact ⟨hnan e, _, rfl, h1⟩
theorem m_digest {d : Nat} (hd : 408 ≤ d) {B : pM} {I : pIm} {r td dr : Nat} {s : wS} {K : Int64 → pM → Prop} (hq : mdS B r td dr) (hl : modD I r td s) (h : ∀ J, modD J r td s → Fr r (r + 36) I J → K (digI s) (pset B J)) : pCall_l d mX13_digest (0, 0) [.ref r] (pset B I) K := by
  refine CP_go (by omega) okX13_digest (Nat.le_of_ble_eq_true rfl) ?_
  obtain ⟨g1, g2, g3⟩ := hl.th hq (n := 0)
  have d407 : 407 ≤ d - 1 := by omega
  have d4 : 4 ≤ d - 1 := by omega
  have d2 : 2 ≤ d - 1 := by omega
  have d1 : 1 ≤ d - 1 := by omega
  clear hd
  refine bX13_digest_0 ⟨hq.1, hq.1, ?_⟩
  rw [psI_set]
  refine m_look d407 hq g1 (fun J x1 x2 x3 x4 => ?_)
  have fin := h J x1 (g2.tr x2)
  have sb := hq.2.2.2.2.1
  have p8 := hq.2.1.2.2.2.2.2.1
  have p17 := hq.2.2.1.2.2.1
  have K30 := hq.2.2.2.1.2.2.2.2.2.2.2.1
  have p26 := hq.2.2.1.2.2.2.2.2.2.2
  have K35 := hq.2.2.2.1.2.2.2.2.2.2.2.2.2.2.2.2
  have hb := x1.2.2.1
  have hh := x1.2.2.2
  have h40 := hb.2.2.2.2.2.1.2.1
  have h20 : s.2.2.2.1.length ≤ 20 := hh.2.1
  have e1 : pI (pset B J) td 1 = nI s.2.2.1.2.1.length := hb.1.2.1
  have e18 : pI (pset B J) r 18 = nI s.2.2.2.1.length := hh.1
  obtain ⟨O, o1, o2, o3, o4, o5, o6, o7, -⟩ := lk_O hb x4
  have e27 : pI (pset B J) r 27 = nI O.length := o1
  unfold digI at fin
  have addl_app : ∀ (c : Int64) (l : List Int32) (x : Int32), addl c (l ++ [x]) = addl c l * 31 + x.toInt64 := fun c l x => by unfold addl; rw [List.foldl_append]; rfl
  generalize hX : addl (dgA s 773 13) s.2.2.2.1 = X at fin
  have c163 : ∀ (m k : Nat), 5 - k = m → k ≤ 5 → Go (d - 1) mX13_digest (fun r M1 => ∃ v, r = .inl (some (.long v)) ∧ K v M1) 163 ([some (.ref r), some (.long (dgC s (dgB s X s.2.2.1.2.1.length) k)), none, some (.int (nI k)), none], [], 0, 0) (pset B J) := by
    intro m
    induction m with
    | zero =>
      intro k hm hk5
      have e : k = 5 := by omega
      subst e
      exact bX13_digest_163 ⟨fun _ => ⟨_, rfl, fin⟩, fun g => absurd (by decide) g⟩
    | succ m ih =>
      intro k hm hk5
      have nx := ih (k + 1) (by omega) (by omega)
      rw [dgC] at nx
      have e7 := o7 k (by omega)
      refine bX13_digest_163 ⟨fun g => absurd ((nI_leI (a := 5) (by omega) (by omega)).mp g) (by omega), fun _ => ⟨hq.1, ?_⟩⟩
      rw [e27]
      refine ⟨fun g => ?_, fun g => ⟨hq.1, r + 35, p26, 40, K35, vp_inN (by omega) (by omega), ?_⟩⟩
      · rw [List.getElem?_eq_none ((nI_leI (by omega) (by omega)).mp g)] at e7
        have e7' : rat (rkO s.2.2.1 s.2.2.2.1 s.2.2.2.2.1 s.2.2.2.2.2.1 s.2.2.2.2.2.2).2.2.2.1 (nI k) = -1 := e7
        rw [e7'] at nx
        rw [nI_1]
        exact nx
      · have hpO : k < O.length := Nat.not_le.mp (fun z => g (nI_le z (by omega)))
        have ep := List.getElem?_eq_getElem hpO
        rw [ep] at e7
        have e7' : rat (rkO s.2.2.1 s.2.2.2.1 s.2.2.2.2.1 s.2.2.2.2.2.1 s.2.2.2.2.2.2).2.2.2.1 (nI k) = nI O[k] := e7
        have er : pI (pset B J) (r + 35) k = nI O[k] := o2 k _ (by rw [List.getElem?_map, ep]; rfl)
        rw [nI_clamp (by omega), er, nI_1]
        rw [e7'] at nx
        exact nx
  have c117 : ∀ (w : Nat) (hw : w < s.2.2.1.2.1.length) (Y : Int64), Go (d - 1) mX13_digest (fun r M1 => ∃ v, r = .inl (some (.long v)) ∧ K v M1) 72 ([some (.ref r), some (.long (addl Y (lat s.2.2.1.2.1 (nI w)))), none, some (.int (nI (w + 1))), none], [], 0, 0) (pset B J) → ∀ (m k : Nat), (lat s.2.2.1.2.1 (nI w)).length - k = m → k ≤ (lat s.2.2.1.2.1 (nI w)).length → Go (d - 1) mX13_digest (fun r M1 => ∃ v, r = .inl (some (.long v)) ∧ K v M1) 117 ([some (.ref r), some (.long (addl Y ((lat s.2.2.1.2.1 (nI w)).take k))), none, some (.int (nI w)), some (.int (nI k))], [], 0, 0) (pset B J) := by
    intro w hw Y go m
    obtain ⟨a1, a2, a3, a4⟩ := lat_at hb hw
    have el : pI (pset B J) (td + 2) w = nI (lat s.2.2.1.2.1 (nI w)).length := a1
    induction m with
    | zero =>
      intro k hm hk
      refine bX13_digest_117 ⟨hq.1, td, p8, sb.1, td + 2, sb.2.1.2.1, 40, sb.2.2.2.1, vp_inN (by omega) (by omega), ?_⟩
      rw [nI_clamp (by omega), el]
      refine ⟨fun _ => ?_, fun g => absurd (nI_le (by omega) (by omega)) g⟩
      rw [nI_1, List.take_of_length_le (by omega)]
      exact go
    | succ m ih =>
      intro k hm hk
      have hk2 : k < (lat s.2.2.1.2.1 (nI w)).length := by omega
      refine bX13_digest_117 ⟨hq.1, td, p8, sb.1, td + 2, sb.2.1.2.1, 40, sb.2.2.2.1, vp_inN (by omega) (by omega), ?_⟩
      rw [nI_clamp (by omega), el]
      refine ⟨fun g => absurd ((nI_leI (by omega) (by omega)).mp g) (by omega), fun _ => ⟨hq.1, td, p8, sb.1, c_mbyteOf (ws := s.2.2.1.2.1) d1 sb hb.2.1 h40 a4 a2 hk2 ?_⟩⟩
      have nx := ih (k + 1) (by omega) (by omega)
      rw [take1 hk2, addl_app] at nx
      rw [nI_1, rat_in (List.getElem?_eq_getElem hk2) (by omega)]
      exact nx
  have c86 : ∀ (w : Nat), w < s.2.2.1.2.1.length → Go (d - 1) mX13_digest (fun r M1 => ∃ v, r = .inl (some (.long v)) ∧ K v M1) 72 ([some (.ref r), some (.long (dgB s X (w + 1))), none, some (.int (nI (w + 1))), none], [], 0, 0) (pset B J) → ∀ (m k : Nat), 6 - k = m → k ≤ 6 → Go (d - 1) mX13_digest (fun r M1 => ∃ v, r = .inl (some (.long v)) ∧ K v M1) 86 ([some (.ref r), some (.long (dgW s w (dgB s X w) k)), none, some (.int (nI w)), some (.int (nI k))], [], 0, 0) (pset B J) := by
    intro w hw go m
    induction m with
    | zero =>
      intro k hm hk6
      have e : k = 6 := by omega
      subst e
      refine bX13_digest_86 ⟨fun _ => ?_, fun g => absurd (by decide) g⟩
      have := c117 w hw (dgW s w (dgB s X w) 6) go _ 0 rfl (by omega)
      rw [List.take_zero] at this
      exact this
    | succ m ih =>
      intro k hm hk6
      refine bX13_digest_86 ⟨fun g => absurd ((nI_leI (a := 6) (by omega) (by omega)).mp g) (by omega), fun _ => ⟨hq.1, c_mwordTold d2 hq x1 x4 hw ?_⟩⟩
      rw [nI_1]
      exact ih (k + 1) (by omega) (by omega)
  have c72 : ∀ (m w : Nat), s.2.2.1.2.1.length - w = m → w ≤ s.2.2.1.2.1.length → Go (d - 1) mX13_digest (fun r M1 => ∃ v, r = .inl (some (.long v)) ∧ K v M1) 72 ([some (.ref r), some (.long (dgB s X w)), none, some (.int (nI w)), none], [], 0, 0) (pset B J) := by
    intro m
    induction m with
    | zero =>
      intro w hm hw
      refine bX13_digest_72 ⟨hq.1, td, p8, sb.1, fun _ => ?_, fun g => absurd (by rw [e1]; exact nI_le (by omega) (by omega)) g⟩
      have e : w = s.2.2.1.2.1.length := by omega
      rw [e]
      exact c163 5 0 rfl (by omega)
    | succ m ih =>
      intro w hm hw
      refine bX13_digest_72 ⟨hq.1, td, p8, sb.1, fun g => ?_, fun _ => ?_⟩
      · exfalso
        rw [e1] at g
        have := (nI_leI (by omega) (by omega)).mp g
        omega
      · exact c86 w (by omega) (ih (w + 1) (by omega) (by omega)) 6 0 rfl (by omega)
  have c42 : ∀ (m k : Nat), s.2.2.2.1.length - k = m → k ≤ s.2.2.2.1.length → Go (d - 1) mX13_digest (fun r M1 => ∃ v, r = .inl (some (.long v)) ∧ K v M1) 42 ([some (.ref r), some (.long (addl (dgA s 773 13) (s.2.2.2.1.take k))), none, some (.int (nI k)), none], [], 0, 0) (pset B J) := by
    intro m
    induction m with
    | zero =>
      intro k hm hk
      refine bX13_digest_42 ⟨hq.1, ?_⟩
      rw [e18]
      refine ⟨fun _ => ?_, fun g => absurd (nI_le (by omega) (by omega)) g⟩
      rw [List.take_of_length_le (by omega), hX]
      exact c72 _ 0 rfl (by omega)
    | succ m ih =>
      intro k hm hk
      have hk2 : k < s.2.2.2.1.length := by omega
      refine bX13_digest_42 ⟨hq.1, ?_⟩
      rw [e18]
      refine ⟨fun g => absurd ((nI_leI (by omega) (by omega)).mp g) (by omega), fun _ => ⟨hq.1, r + 30, p17, 20, K30, vp_inN (by omega) (by omega), ?_⟩⟩
      have ety : pI (pset B J) (r + 30) k = s.2.2.2.1[k] := hh.2.2.1 k _ (List.getElem?_eq_getElem hk2)
      have nx := ih (k + 1) (by omega) (by omega)
      rw [take1 hk2, addl_app] at nx
      rw [nI_clamp (by omega), ety, nI_1]
      exact nx
  have c15 : ∀ (m k : Nat), 13 - k = m → k ≤ 13 → Go (d - 1) mX13_digest (fun r M1 => ∃ v, r = .inl (some (.long v)) ∧ K v M1) 15 ([some (.ref r), some (.long (dgA s 773 k)), none, some (.int (nI k)), none], [], 0, 0) (pset B J) := by
    intro m
    induction m with
    | zero =>
      intro k hm hk13
      have e : k = 13 := by omega
      subst e
      refine bX13_digest_15 ⟨fun _ => ?_, fun g => absurd (by decide) g⟩
      have := c42 _ 0 rfl (by omega)
      rw [List.take_zero] at this
      exact this
    | succ m ih =>
      intro k hm hk13
      refine bX13_digest_15 ⟨fun g => absurd ((nI_leI (a := 13) (by omega) (by omega)).mp g) (by omega), fun _ => ⟨hq.1, c_mcounted d4 hq x1 x4 ?_⟩⟩
      rw [nI_1]
      exact ih (k + 1) (by omega) (by omega)
  exact c15 13 0 rfl (by omega)
/-- typed bytes put aside and back -/
theorem dist_nI {ro po ty w : List Int32} (h10 : w.length ≤ 10) (h20 : ty.length ≤ 20) : ∃ n, n ≤ 90 ∧ distI ro po ty w = nI n := by
  unfold distI
  have bd := disR_bd (ro := ro) (po := po) (ty := ty) (w := w) h10 ty.length h20
  have hl : (disR ro po ty w ty.length).length = w.length + 1 := disR_len
  have key : ∀ j, j ≤ w.length → ∃ n, n ≤ 90 ∧ minL (disR ro po ty w ty.length) j = nI n := by
    intro j
    induction j with
    | zero =>
      intro _
      have e := List.getElem?_eq_getElem (l := disR ro po ty w ty.length) (i := 0) (by omega)
      obtain ⟨n, hn, en⟩ := bd 0 _ e
      exact ⟨n, by omega, (rat_in (j := 0) e (by omega)).trans en⟩
    | succ j ih =>
      intro hj
      have e := List.getElem?_eq_getElem (l := disR ro po ty w ty.length) (i := j + 1) (by omega)
      obtain ⟨n, hn, en⟩ := bd (j + 1) _ e
      have er : rat (disR ro po ty w ty.length) (nI (j + 1)) = nI n := (rat_in e (by omega)).trans en
      rw [minL, er]
      split
      · exact ⟨n, by omega, rfl⟩
      · exact ih (by omega)
  exact key w.length (Nat.le_refl _)
theorem c_maside {d : Nat} (hd : 1 ≤ d) {B : pM} {I : pIm} {r td dr : Nat} {K : pM → Prop} (hq : mdS B r td dr) (h : ∀ J, (∀ y, y ≠ r + 31 → J y = I y) → (∀ j, j < 20 → J (r + 31) j = I (r + 30) j) → K (pset B J)) : pCall_v d mX13_putAside (0, 0) [.ref r] (pset B I) K := by
  refine CP_go hd okX13_putAside (Nat.le_of_ble_eq_true rfl) ?_
  have p17 := hq.2.2.1.2.2.1
  have p22 := hq.2.2.1.2.2.2.1
  have K30 := hq.2.2.2.1.2.2.2.2.2.2.2.1
  have K31 := hq.2.2.2.1.2.2.2.2.2.2.2.2.1
  refine bX13_putAside_0 ⟨hq.1, r + 30, p17, hq.1, r + 31, p22, 20, 20, K30, K31, by omega, by decide, by decide, rfl, ?_⟩
  refine h (fun x y => if x = r + 31 ∧ 0 ≤ y ∧ y < 0 + 20 then I (r + 30) (0 + (y - 0)) else I x y) (fun y hy => ?_) (fun j hj => ?_)
  · funext x
    rw [if_neg (fun z => hy z.1)]
  · show (if r + 31 = r + 31 ∧ 0 ≤ j ∧ j < 0 + 20 then I (r + 30) (0 + (j - 0)) else I (r + 31) j) = _
    rw [if_pos ⟨rfl, by omega, by omega⟩]
    congr 1
    omega
theorem c_mputBack {d : Nat} (hd : 1 ≤ d) {B : pM} {I : pIm} {r td dr : Nat} {n : Int32} {K : pM → Prop} (hq : mdS B r td dr) (h : ∀ J, (∀ y, y ≠ r → y ≠ r + 30 → J y = I y) → (∀ f, f ≠ 18 → J r f = I r f) → J r 18 = n → (∀ j, j < 20 → J (r + 30) j = I (r + 31) j) → K (pset B J)) : pCall_v d mX13_putBack (0, 0) [.ref r, .int n] (pset B I) K := by
  refine CP_go hd okX13_putBack (Nat.le_of_ble_eq_true rfl) ?_
  have p17 := hq.2.2.1.2.2.1
  have p22 := hq.2.2.1.2.2.2.1
  have K30 := hq.2.2.2.1.2.2.2.2.2.2.2.1
  have K31 := hq.2.2.2.1.2.2.2.2.2.2.2.2.1
  refine bX13_putBack_0 ⟨hq.1, r + 31, p22, hq.1, r + 30, p17, 20, 20, K31, K30, by omega, by decide, by decide, hq.1, rfl, ?_⟩
  refine h (u2 (fun x y => if x = r + 30 ∧ 0 ≤ y ∧ y < 0 + 20 then I (r + 31) (0 + (y - 0)) else I x y) r 18 n) (fun y hy hy2 => ?_) (fun f hf => ?_) u2_same (fun j hj => ?_)
  · rw [u2_a hy]
    funext x
    rw [if_neg (fun z => hy2 z.1)]
  · rw [u2_j hf]
    show (if r = r + 30 ∧ 0 ≤ f ∧ f < 0 + 20 then I (r + 31) (0 + (f - 0)) else I r f) = _
    rw [if_neg (fun z => by omega)]
  · rw [u2_a (by omega)]
    show (if r + 30 = r + 30 ∧ 0 ≤ j ∧ j < 0 + 20 then I (r + 31) (0 + (j - 0)) else I (r + 30) j) = _
    rw [if_pos ⟨rfl, by omega, by omega⟩]
    congr 1
    omega
/-- while other letters stand in the typed ones' place -/
def asD (I J : pIm) (r td : Nat) : Prop := (∀ y, y ≠ r → (y < r + 30 ∨ r + 36 ≤ y) → J y = I y) ∧ (∀ f, f ≠ 18 → f ≠ 27 → J r f = I r f) ∧ ∀ j, j < 20 → J (r + 31) j = I (r + 30) j
theorem asD.lk {I J L : pIm} {r td : Nat} (h : asD I J r td) (g : LkF r J L) : asD I L r td := ⟨fun y h1 h2 => (g.1 y h1 (by omega)).trans (h.1 y h1 h2), fun f h1 h2 => (g.2 f h2).trans (h.2.1 f h1 h2), fun j hj => by rw [g.1 (r + 31) (by omega) (by omega)]; exact h.2.2 j hj⟩
theorem asD.mb {I J : pIm} {r td : Nat} {b : bK} (h : asD I J r td) (ht : td = r + 6 ∨ td = r + 17) (hb : mbD I td b) : mbD J td b := hb.cg (fun x h1 h2 => h.1 x (by omega) (by omega))
theorem asD.back {I J L : pIm} {r td : Nat} {s : wS} (h : asD I J r td) (ht : td = r + 6 ∨ td = r + 17) (hl : modD I r td s) (f1 : ∀ y, y ≠ r → y ≠ r + 30 → L y = J y) (f2 : ∀ f, f ≠ 18 → L r f = J r f) (f3 : L r 18 = I r 18) (f4 : ∀ j, j < 20 → L (r + 30) j = J (r + 31) j) : modD L r td s ∧ Fr r (r + 36) I L ∧ L r 0 = I r 0 := by
  obtain ⟨h1, h2, h3, h4⟩ := h.elim (fun a b => And.intro a (And.intro b.1 (And.intro b.2 hl)))
  obtain ⟨l1, l2, l3, l4⟩ := hl
  have hf : ∀ f, f ≠ 18 → f ≠ 27 → L r f = I r f := fun f g1 g2 => (f2 f g1).trans (h2 f g1 g2)
  refine ⟨⟨l1.cg (hf 2 (by decide) (by decide)) (by rw [f1 _ (by omega) (by omega), h1 _ (by omega) (by omega)]), (hf 3 (by decide) (by decide)).trans l2, l3.cg (fun x g1 g2 => by rw [f1 _ (by omega) (by omega), h1 _ (by omega) (by omega)]), ?_⟩, fun y hy => by rw [f1 _ (by omega) (by omega), h1 _ (by omega) (by omega)], hf 0 (by decide) (by decide)⟩
  obtain ⟨k1, k2, k3, k4, k5, k6⟩ := l4
  refine ⟨f3.trans k1, k2, fun j x hx => ?_, (hf 19 (by decide) (by decide)).trans k4, (hf 20 (by decide) (by decide)).trans k5, (hf 21 (by decide) (by decide)).trans k6⟩
  have hj := (List.getElem?_eq_some_iff.mp hx).1
  rw [f4 j (by omega), h3 j (by omega)]
  exact k3 j x hx
theorem m_closest {d : Nat} (hd : 6 ≤ d) {B : pM} {I : pIm} {r td dr : Nat} {cd : String → Int32} {s : wS} {w : Int32} {K : Int32 → pM → Prop} (hc : cd xIOB = 1) (hq : mdS B r td dr) (hl : modD I r td s) (h : modO B I r cd (closestO s w) K) : pCall_i d mX13_closest (0, 0) [.ref r, .int w] (pset B I) K := by
  refine CP_go (by omega) okX13_closest (Nat.le_of_ble_eq_true rfl) ?_
  obtain ⟨g1, g2, g3⟩ := hl.th hq (n := 0)
  have hy := hq.lay
  have hy2 : td = r + 6 ∨ td = r + 17 := by omega
  have d1 : 1 ≤ d - 1 := by omega
  have d2 : 2 ≤ d - 1 := by omega
  have d4 : 4 ≤ d - 1 := by omega
  have sb := hq.2.2.2.2.1
  have p8 := hq.2.1.2.2.2.2.2.1
  have p17 := hq.2.2.1.2.2.1
  have K30 := hq.2.2.2.1.2.2.2.2.2.2.2.1
  generalize hI0 : u2 I r 0 0 = I0 at g1 g2
  have z0 : I0 r 0 = 0 := by rw [← hI0]; exact u2_same
  have ep : psI (pset B I) r 0 0 = pset B I0 := by rw [psI_set, hI0]
  have hb := g1.2.2.1
  have hh := g1.2.2.2
  have h40 := hb.2.2.2.2.2.1.2.1
  have e18 : pI (pset B I0) r 18 = nI s.2.2.2.1.length := hh.1
  unfold closestO at h
  refine bX13_closest_0 ⟨hq.1, hq.1, ?_⟩
  rw [ep]
  refine c_mthere d2 hq hb ⟨fun g => ⟨hq.1, ?_⟩, fun g => ⟨hq.1, hq.1, c_maside d1 hq (fun J1 f1 a1 => ⟨hq.1, td, p8, sb.1, td + 2, sb.2.1.2.1, 40, sb.2.2.2.1, ?_⟩)⟩⟩
  · rw [if_pos g] at h
    exact (m_no d1 hq g1 g2 hc.symm h).mono (fun v M1 q => ⟨v, rfl, q⟩)
  rw [if_neg g] at h
  obtain ⟨i, hi, rfl⟩ := inW_of g (by omega)
  obtain ⟨b1, b2, b3, b4⟩ := lat_at hb hi
  refine ⟨vp_inN (by omega) (by omega), hq.1, ?_⟩
  have el : pI (pset B J1) (td + 2) i = nI (lat s.2.2.1.2.1 (nI i)).length := by
    show J1 (td + 2) i = _
    rw [f1 _ (by omega)]; exact b1
  rw [nI_clamp (by omega), el, psI_set, e18]
  have A0 : asD I0 (u2 J1 r 18 (nI (lat s.2.2.1.2.1 (nI i)).length)) r td := ⟨fun y h1 h2 => by rw [u2_a h1, f1 y (by omega)], fun f h1 h2 => by rw [u2_j h1, f1 r (by omega)], fun j hj => by rw [u2_a (by omega)]; exact a1 j hj⟩
  -- the words that are left
  have c77 : ∀ (m o : Nat) (J : pIm), s.2.2.1.2.1.length - o = m → o ≤ s.2.2.1.2.1.length → asD I0 J r td → mhD J r (lat s.2.2.1.2.1 (nI i), s.2.2.2.2) → (clI s.2.2.1 (nI i) o = -1 ∨ 0 ≤ clI s.2.2.1 (nI i) o) → Go (d - 1) mX13_closest (fun r M1 => ∃ v, r = .inl (some (.int v)) ∧ K v M1) 77 ([some (.ref r), some (.int (nI i)), some (.int (nI s.2.2.2.1.length)), some (.int (clI s.2.2.1 (nI i) o)), some (.int (nI o)), none], [], 0, 0) (pset B J) := by
    intro m
    induction m with
    | zero =>
      intro o J hm ho hA hH hs
      have e1 : pI (pset B J) td 1 = nI s.2.2.1.2.1.length := (hA.mb hy2 hb).1.2.1
      refine bX13_closest_77 ⟨hq.1, td, p8, sb.1, fun _ => ⟨hq.1, c_mputBack d1 hq (fun L q1 q2 q3 q4 => ⟨_, rfl, ?_⟩)⟩, fun g => absurd (by rw [e1]; exact nI_le (by omega) (by omega)) g⟩
      obtain ⟨x1, x2, x3⟩ := hA.back hy2 g1 q1 q2 (q3.trans hh.1.symm) q4
      have e : o = s.2.2.1.2.1.length := by omega
      rw [e]
      exact mod_stay (B := B) hq x1 (g2.tr x2) (x3.trans z0) h
    | succ m ih =>
      intro o J hm ho hA hH hs
      have hoN : o < s.2.2.1.2.1.length := by omega
      have e1 : pI (pset B J) td 1 = nI s.2.2.1.2.1.length := (hA.mb hy2 hb).1.2.1
      have eo : lat s.2.2.1.2.1 (nI o) = s.2.2.1.2.1.getD o [] := lat_nI (by omega)
      have next : ∀ (x : Int32) (J2 : pIm), x = clI s.2.2.1 (nI i) (o + 1) → (x = -1 ∨ 0 ≤ x) → LkF r J J2 → Go (d - 1) mX13_closest (fun r M1 => ∃ v, r = .inl (some (.int v)) ∧ K v M1) 123 ([some (.ref r), some (.int (nI i)), some (.int (nI s.2.2.2.1.length)), some (.int x), some (.int (nI o)), none], [], 0, 0) (pset B J2) := by
        intro x J2 ex hx f2
        refine bX13_closest_123 ?_
        rw [nI_1, ex]
        exact ih (o + 1) J2 (by omega) (by omega) (hA.lk f2) (hH.sc (f2.sc hy2)) (by rw [← ex]; exact hx)
      refine bX13_closest_77 ⟨hq.1, td, p8, sb.1, fun g2 => ?_, fun _ => ⟨fun g3 => next _ J ?_ hs LkF.rf, fun g3 => ⟨hq.1, c_mfar d4 hq (hA.mb hy2 hb) hH hoN (fun J2 f2 => ?_)⟩⟩⟩
      · exfalso
        rw [e1] at g2
        have := (nI_leI (by omega) (by omega)).mp g2
        omega
      · rw [clI, if_pos g3]
      · have f2' : LkF r J J2 := LkF.f f2 (by omega) (by omega)
        have ed : faO s.2.2.1 (lat s.2.2.1.2.1 (nI i)) o = distI s.2.2.1.2.2.2.2.1.1 s.2.2.1.2.2.2.2.1.2.1 (lat s.2.2.1.2.1 (nI i)) (lat s.2.2.1.2.1 (nI o)) := by unfold faO; rw [eo]
        obtain ⟨n, hn, en⟩ := dist_nI (ro := s.2.2.1.2.2.2.2.1.1) (po := s.2.2.1.2.2.2.2.1.2.1) (ty := lat s.2.2.1.2.1 (nI i)) (w := lat s.2.2.1.2.1 (nI o)) (lat_at hb hoN).2.1 (by omega)
        have en0 : (0 : Int32) ≤ nI n := nI_pos' (by omega)
        show ((clI s.2.2.1 (nI i) o = -1 → Go (d - 1) mX13_closest _ 123 ([some (.ref r), some (.int (nI i)), some (.int (nI s.2.2.2.1.length)), some (.int (faO s.2.2.1 (lat s.2.2.1.2.1 (nI i)) o)), some (.int (nI o)), none], [], 0, 0) (pset B J2)) ∧ (¬ clI s.2.2.1 (nI i) o = -1 → Go (d - 1) mX13_closest _ 123 ([some (.ref r), some (.int (nI i)), some (.int (nI s.2.2.2.1.length)), some (.int (if faO s.2.2.1 (lat s.2.2.1.2.1 (nI i)) o < clI s.2.2.1 (nI i) o then faO s.2.2.1 (lat s.2.2.1.2.1 (nI i)) o else clI s.2.2.1 (nI i) o)), some (.int (nI o)), none], [], 0, 0) (pset B J2)))
        have eN : clI s.2.2.1 (nI i) (o + 1) = if 0 ≤ clI s.2.2.1 (nI i) o then (if nI n < clI s.2.2.1 (nI i) o then nI n else clI s.2.2.1 (nI i) o) else nI n := by
          rw [clI, if_neg g3, en]
        rw [ed, en]
        refine ⟨fun g4 => next _ J2 ?_ (Or.inr en0) f2', fun g4 => ?_⟩
        · rw [eN, g4, if_neg (by decide)]
        · have h0 := hs.resolve_left g4
          refine next _ J2 (by rw [eN, if_pos h0]) (Or.inr ?_) f2'
          split
          · exact en0
          · exact h0
  -- its own letters
  have c43 : ∀ (m k : Nat) (J : pIm), (lat s.2.2.1.2.1 (nI i)).length - k = m → k ≤ (lat s.2.2.1.2.1 (nI i)).length → asD I0 J r td → J r 18 = nI (lat s.2.2.1.2.1 (nI i)).length → (∀ j x, (lat s.2.2.1.2.1 (nI i))[j]? = some x → j < k → J (r + 30) j = x) → Go (d - 1) mX13_closest (fun r M1 => ∃ v, r = .inl (some (.int v)) ∧ K v M1) 43 ([some (.ref r), some (.int (nI i)), some (.int (nI s.2.2.2.1.length)), some (.int (nI k)), none, none], [], 0, 0) (pset B J) := by
    intro m
    induction m with
    | zero =>
      intro k J hm hk hA e18J hT
      have e18' : pI (pset B J) r 18 = nI (lat s.2.2.1.2.1 (nI i)).length := e18J
      refine bX13_closest_43 ⟨hq.1, fun _ => ?_, fun g2 => absurd (by rw [e18']; exact nI_le (by omega) (by omega)) g2⟩
      refine c77 _ 0 J rfl (by omega) hA ⟨e18J, by show (lat s.2.2.1.2.1 (nI i)).length ≤ 20; omega, fun j x hx => hT j x hx ?_, ?_, ?_, ?_⟩ (Or.inl rfl)
      · have : j < (lat s.2.2.1.2.1 (nI i)).length := (List.getElem?_eq_some_iff.mp hx).1
        omega
      · exact (hA.2.1 19 (by decide) (by decide)).trans hh.2.2.2.1
      · exact (hA.2.1 20 (by decide) (by decide)).trans hh.2.2.2.2.1
      · exact (hA.2.1 21 (by decide) (by decide)).trans hh.2.2.2.2.2
    | succ m ih =>
      intro k J hm hk hA e18J hT
      have hk2 : k < (lat s.2.2.1.2.1 (nI i)).length := by omega
      have e18' : pI (pset B J) r 18 = nI (lat s.2.2.1.2.1 (nI i)).length := e18J
      refine bX13_closest_43 ⟨hq.1, fun g2 => ?_, fun _ => ⟨hq.1, r + 30, p17, hq.1, td, p8, sb.1, c_mbyteOf (ws := s.2.2.1.2.1) d1 sb (hA.mb hy2 hb).2.1 h40 b4 b2 hk2 ⟨20, K30, vp_inN (by omega) (by omega), ?_⟩⟩⟩
      · exfalso
        rw [e18'] at g2
        have := (nI_leI (by omega) (by omega)).mp g2
        omega
      · rw [nI_clamp (by omega), nI_1, psI_set]
        refine ih (k + 1) _ (by omega) (by omega) ⟨fun y h1 h2 => by rw [u2_a (by omega)]; exact hA.1 y h1 h2, fun f h1 h2 => by rw [u2_a (by omega)]; exact hA.2.1 f h1 h2, fun j hj => by rw [u2_a (by omega)]; exact hA.2.2 j hj⟩ (by rw [u2_a (by omega)]; exact e18J) (fun j x hx hj => ?_)
        by_cases c : j = k
        · subst c
          rw [u2_same]
          exact rat_in hx (by omega)
        · rw [u2_j c]
          exact hT j x hx (by omega)
  exact c43 _ 0 _ rfl (by omega) A0 u2_same (fun j x _ hj => absurd hj (by omega))
