/-! THE REFERENCE'S CALLS: count, offer, word, letter, digest -/
theorem lt_lit {k a b : Int32} (e : a.toInt + 1 = b.toInt) : k < b ↔ ¬ a < k := by
  rw [Int32.lt_iff_toInt_lt, Int32.lt_iff_toInt_lt]
  omega
/-- what the order of a look says of the ranking -/
theorem lk_O {J : pIm} {r td : Nat} {b : bK} {h : List Int32 × Int32 × Int32 × Int32} (hb : mbD J td b) (hk : lkD J r b h) : ∃ O : List Nat, J r 27 = nI O.length ∧ Ar (J (r + 35)) (O.map nI) ∧ O.length ≤ 40 ∧ (∀ x ∈ O, x < b.2.1.length) ∧ (∀ p x, O[p]? = some x → rat (rkO b h.1 h.2.1 h.2.2.1 h.2.2.2).2.2.1 (nI x) = nI p) ∧ (∀ x, x < b.2.1.length → x ∉ O → rat (rkO b h.1 h.2.1 h.2.2.1 h.2.2.2).2.2.1 (nI x) = -1) ∧ (∀ p, p < 5 → rat (rkO b h.1 h.2.1 h.2.2.1 h.2.2.2).2.2.2.1 (nI p) = match O[p]? with
    | some x => nI x
    | none => -1) ∧ (rkO b h.1 h.2.1 h.2.2.1 h.2.2.2).2.2.2.2 = nI O.length ∧ O.Pairwise (Ah b.2.1 (rkO b h.1 h.2.1 h.2.2.1 h.2.2.2).2.1) ∧ O.Perm (nearL (rkO b h.1 h.2.1 h.2.2.1 h.2.2.2).1 h.2.2.2 b.2.1.length) := by
  obtain ⟨-, -, O, h27, h35, hP, hS⟩ := hk
  have h40 := hb.2.2.2.2.2.1.2.1
  have h10 : ∀ l ∈ b.2.1, l.length ≤ 10 := fun l hl => (hb.2.2.2.2.2.1.2.2.1 l hl).2
  have hlen : O.length ≤ b.2.1.length := by
    rw [hP.length_eq]; exact nearL_len
  have hm : ∀ x ∈ O, x < b.2.1.length := fun x hx => (nearL_mem.mp (hP.mem_iff.mp hx)).1
  refine ⟨O, h27, h35, by omega, hm, fun p x hx => ?_, fun x hx hx2 => ?_, fun p hp => ?_, ?_, hS, hP⟩
  · have hxm := List.mem_of_getElem? hx
    have hx2 := hm x hxm
    have hx3 := (nearL_mem.mp (hP.mem_iff.mp hxm)).2
    have e : (rkO b h.1 h.2.1 h.2.2.1 h.2.2.2).2.2.1[x]? = some (nI p) := by
      show (plW b.2.1 (rkO b h.1 h.2.1 h.2.2.1 h.2.2.2).1 (rkO b h.1 h.2.1 h.2.2.1 h.2.2.2).2.1 h.2.2.2 b.2.1.length).1[x]? = _
      rw [pl_1, map_at hx2, if_pos hx3, wa_pos h10 h40 hP hS hx]
    refine rat_in e ?_
    show (plW b.2.1 (rkO b h.1 h.2.1 h.2.2.1 h.2.2.2).1 (rkO b h.1 h.2.1 h.2.2.1 h.2.2.2).2.1 h.2.2.2 b.2.1.length).1.length < _
    rw [plW_len.1]; omega
  · have e : (rkO b h.1 h.2.1 h.2.2.1 h.2.2.2).2.2.1[x]? = some (-1) := by
      show (plW b.2.1 (rkO b h.1 h.2.1 h.2.2.1 h.2.2.2).1 (rkO b h.1 h.2.1 h.2.2.1 h.2.2.2).2.1 h.2.2.2 b.2.1.length).1[x]? = _
      rw [pl_1, map_at hx, if_neg (fun z => hx2 (hP.mem_iff.mpr (nearL_mem.mpr ⟨hx, z⟩)))]
    refine rat_in e ?_
    show (plW b.2.1 (rkO b h.1 h.2.1 h.2.2.1 h.2.2.2).1 (rkO b h.1 h.2.1 h.2.2.1 h.2.2.2).2.1 h.2.2.2 b.2.1.length).1.length < _
    rw [plW_len.1]; omega
  · have e : (rkO b h.1 h.2.1 h.2.2.1 h.2.2.2).2.2.2.1[p]? = some (atO O b.2.1.length p) := pl_2 h10 h40 hP hS _ (Nat.le_refl _) p hp
    have e2 : atO O b.2.1.length p = match O[p]? with
      | some x => nI x
      | none => -1 := by
      unfold atO
      cases ho : O[p]? with
      | none => rfl
      | some x =>
        show (if x < b.2.1.length then nI x else -1) = nI x
        rw [if_pos (hm x (List.mem_of_getElem? ho))]
    rw [e2] at e
    refine rat_in e ?_
    show (plW b.2.1 (rkO b h.1 h.2.1 h.2.2.1 h.2.2.2).1 (rkO b h.1 h.2.1 h.2.2.1 h.2.2.2).2.1 h.2.2.2 b.2.1.length).2.1.length < _
    rw [plW_len.2]; omega
  · show (plW b.2.1 (rkO b h.1 h.2.1 h.2.2.1 h.2.2.2).1 (rkO b h.1 h.2.1 h.2.2.1 h.2.2.2).2.1 h.2.2.2 b.2.1.length).2.2 = _
    rw [pl_3, hP.length_eq]
theorem c_mcounted {d : Nat} (hd : 4 ≤ d) {B : pM} {I : pIm} {r td dr : Nat} {s : wS} {k : Int32} {K : Int32 → pM → Prop} (hq : mdS B r td dr) (hl : modD I r td s) (hk : lkD I r s.2.2.1 s.2.2.2) (h : K (figI s k) (pset B I)) : pCall_i d mX13_counted (0, 0) [.ref r, .int k] (pset B I) K := by
  refine CP_go (by omega) okX13_counted (Nat.le_of_ble_eq_true rfl) ?_
  obtain ⟨l1, l2, hb, hh⟩ := id hl
  have sb := hq.2.2.2.2.1
  have p8 := hq.2.1.2.2.2.2.2.1
  obtain ⟨O, o1, -, -, -, -, -, -, o8, -⟩ := lk_O hb hk
  have d3 : 3 ≤ d - 1 := by omega
  have d1 : 1 ≤ d - 1 := by omega
  unfold figI at h
  refine bX13_counted_0 ⟨fun g => ?_, fun g => ?_⟩
  · rw [if_pos g] at h
    exact ⟨hq.1, td, p8, sb.1, _, rfl, by rw [show pI (pset B I) td 1 = _ from hb.1.2.1]; exact h⟩
  rw [if_neg g] at h
  refine ⟨fun g => ?_, fun g => ?_⟩
  · rw [if_pos g] at h
    exact ⟨hq.1, td, p8, sb.1, _, rfl, by rw [show pI (pset B I) td 0 = _ from hb.1.1]; exact h⟩
  rw [if_neg g] at h
  refine ⟨fun g => ?_, fun g => ?_⟩
  · rw [if_pos g] at h
    exact ⟨hq.1, td, p8, sb.1, _, rfl, by rw [show pI (pset B I) td 2 = _ from hb.1.2.2.1]; exact h⟩
  rw [if_neg g] at h
  refine ⟨fun g => ?_, fun g => ?_⟩
  · rw [if_pos g] at h
    exact ⟨hq.1, td, p8, sb.1, _, rfl, by rw [show pI (pset B I) td 3 = _ from hb.1.2.2.2]; exact h⟩
  rw [if_neg g] at h
  refine ⟨fun g => ?_, fun g => ?_⟩
  · rw [if_pos g] at h
    exact ⟨hq.1, _, rfl, by rw [show pI (pset B I) r 18 = _ from hh.1]; exact h⟩
  rw [if_neg g] at h
  refine ⟨fun g => ?_, fun g => ?_⟩
  · rw [if_pos g] at h
    exact ⟨hq.1, _, rfl, by rw [show pI (pset B I) r 19 = _ from hh.2.2.2.1]; exact h⟩
  rw [if_neg g] at h
  refine ⟨fun g => ?_, fun g => ?_⟩
  · rw [if_pos g] at h
    exact ⟨hq.1, _, rfl, by rw [show pI (pset B I) r 21 = _ from hh.2.2.2.2.2]; exact h⟩
  rw [if_neg g] at h
  refine ⟨fun g => ?_, fun g => ?_⟩
  · rw [if_pos g] at h
    exact ⟨hq.1, c_mweights d1 hq hb ⟨_, rfl, h⟩⟩
  rw [if_neg g] at h
  refine ⟨fun g => ?_, fun g => ?_⟩
  · rw [if_pos g] at h
    exact ⟨hq.1, _, rfl, by rw [show pI (pset B I) r 27 = _ from o1, ← o8]; exact h⟩
  rw [if_neg g] at h
  refine ⟨fun g => ?_, fun g => ?_⟩
  · rw [if_pos g] at h
    exact ⟨hq.1, c_mbegins d3 hq hb hh ⟨_, rfl, h⟩⟩
  rw [if_neg g] at h
  refine ⟨fun g => ?_, fun g => ?_⟩
  · rw [if_pos g] at h
    exact ⟨hq.1, c_mnodes d3 hq hb ⟨_, rfl, h⟩⟩
  rw [if_neg g] at h
  refine ⟨fun g => ?_, fun g => ?_⟩
  · rw [if_pos g] at h
    exact ⟨hq.1, _, rfl, by rw [show pI (pset B I) r 20 = _ from hh.2.2.2.2.1]; exact h⟩
  rw [if_neg g] at h
  exact ⟨hq.1, _, rfl, by rw [show pI (pset B I) r 2 = _ from l1.1]; exact h⟩
theorem c_mplace {d : Nat} (hd : 1 ≤ d) {B : pM} {I : pIm} {r td dr w : Nat} {b : bK} {hn : List Int32 × Int32 × Int32 × Int32} {K : Int32 → pM → Prop} (hq : mdS B r td dr) (hb : mbD I td b) (hk : lkD I r b hn) (hw : w < b.2.1.length) (h : K (rat (rkO b hn.1 hn.2.1 hn.2.2.1 hn.2.2.2).2.2.1 (nI w)) (pset B I)) : pCall_i d mX13_placeOf (0, 0) [.ref r, .int (nI w)] (pset B I) K := by
  refine CP_go (by omega) okX13_placeOf (Nat.le_of_ble_eq_true rfl) ?_
  obtain ⟨O, o1, o2, o3, o4, o5, o6, -⟩ := lk_O hb hk
  have p26 := hq.2.2.1.2.2.2.2.2.2.2
  have K35 := hq.2.2.2.1.2.2.2.2.2.2.2.2.2.2.2.2
  have h40 := hb.2.2.2.2.2.1.2.1
  have e27 : pI (pset B I) r 27 = nI O.length := o1
  have key : ∀ (m k : Nat), O.length - k = m → k ≤ O.length → (∀ j, j < k → O[j]? ≠ some w) → Go (d - 1) mX13_placeOf (fun r M1 => ∃ v, r = .inl (some (.int v)) ∧ K v M1) 2 ([some (.ref r), some (.int (nI w)), some (.int (nI k))], [], 0, 0) (pset B I) := by
    intro m
    induction m with
    | zero =>
      intro k hm hkO hs
      refine bX13_placeOf_2 ⟨hq.1, fun _ => ⟨_, rfl, ?_⟩, fun g => absurd (by rw [e27]; exact nI_le (by omega) (by omega)) g⟩
      rw [o6 w hw (fun z => ?_)] at h
      · exact h
      · obtain ⟨i, hi⟩ := List.getElem?_of_mem z
        have := (List.getElem?_eq_some_iff.mp hi).1
        exact hs i (by omega) hi
    | succ m ih =>
      intro k hm hkO hs
      have hk2 : k < O.length := by omega
      have ek := List.getElem?_eq_getElem hk2
      have er : pI (pset B I) (r + 35) k = nI O[k] := o2 k _ (by rw [List.getElem?_map, ek]; rfl)
      have hOk := o4 _ (List.mem_of_getElem? ek)
      refine bX13_placeOf_2 ⟨hq.1, fun g => ?_, fun _ => ⟨hq.1, r + 35, p26, 40, K35, vp_inN (by omega) (by omega), ?_⟩⟩
      · exfalso
        rw [e27] at g
        have := (nI_leI (by omega) (by omega)).mp g
        omega
      · rw [nI_clamp (by omega), er, nI_1]
        refine ⟨fun g => ⟨_, rfl, ?_⟩, fun g => ih (k + 1) (by omega) (by omega) (fun j hj => ?_)⟩
        · have e := (nI_eq (by omega) (by omega)).mp g
          rw [e] at ek
          rw [o5 k w ek] at h
          exact h
        · by_cases c : j = k
          · subst c
            rw [ek]
            intro z
            exact g (by rw [Option.some.inj z])
          · exact hs j (by omega)
  exact bX13_placeOf_0 (key _ 0 rfl (by omega) (fun j hj => absurd hj (by omega)))
theorem c_mwordTold {d : Nat} (hd : 2 ≤ d) {B : pM} {I : pIm} {r td dr w : Nat} {s : wS} {k : Int32} {K : Int32 → pM → Prop} (hq : mdS B r td dr) (hl : modD I r td s) (hk : lkD I r s.2.2.1 s.2.2.2) (hw : w < s.2.2.1.2.1.length) (h : K (wfI s (nI w) k) (pset B I)) : pCall_i d mX13_wordTold (0, 0) [.ref r, .int (nI w), .int k] (pset B I) K := by
  refine CP_go (by omega) okX13_wordTold (Nat.le_of_ble_eq_true rfl) ?_
  obtain ⟨l1, l2, hb, hh⟩ := id hl
  have sb := hq.2.2.2.2.1
  have p8 := hq.2.1.2.2.2.2.2.1
  have p24 := hq.2.2.1.2.2.2.2.2.1
  have p25 := hq.2.2.1.2.2.2.2.2.2.1
  have K33 := hq.2.2.2.1.2.2.2.2.2.2.2.2.2.2.1
  have K34 := hq.2.2.2.1.2.2.2.2.2.2.2.2.2.2.2.1
  have h40 := hb.2.2.2.2.2.1.2.1
  have cw : (nI w).toNatClampNeg = w := nI_clamp (by omega)
  have vw : vp_in (nI w) 40 := vp_inN (by omega) (by omega)
  have hlt := hb.2.2.2.2.2.1.2.2.2.2
  have e0 : pI (pset B I) (td + 3) w = rat s.2.2.1.2.2.1 (nI w) := ar_hd hb hw
  have e1 : pI (pset B I) (td + 4) w = rat s.2.2.1.2.2.2.1 (nI w) := hb.2.2.2.2.1.rat (by rw [hlt]; exact hw) (by rw [hlt]; omega)
  have e2 : pI (pset B I) (td + 2) w = nI (lat s.2.2.1.2.1 (nI w)).length := (lat_at hb hw).1
  have f1 : (rkO s.2.2.1 s.2.2.2.1 s.2.2.2.2.1 s.2.2.2.2.2.1 s.2.2.2.2.2.2).1.length = s.2.2.1.2.1.length := by
    show ((List.range _).map _).length = _
    rw [List.length_map, List.length_range]
  have f2 : (rkO s.2.2.1 s.2.2.2.1 s.2.2.2.2.1 s.2.2.2.2.2.1 s.2.2.2.2.2.2).2.1.length = s.2.2.1.2.1.length := by
    show ((List.range _).map _).length = _
    rw [List.length_map, List.length_range]
  have e3 : pI (pset B I) (r + 33) w = rat (rkO s.2.2.1 s.2.2.2.1 s.2.2.2.2.1 s.2.2.2.2.2.1 s.2.2.2.2.2.2).1 (nI w) := hk.1.rat (by rw [f1]; exact hw) (by rw [f1]; omega)
  have e4 : pI (pset B I) (r + 34) w = rat (rkO s.2.2.1 s.2.2.2.1 s.2.2.2.2.1 s.2.2.2.2.2.1 s.2.2.2.2.2.2).2.1 (nI w) := hk.2.1.rat (by rw [f2]; exact hw) (by rw [f2]; omega)
  unfold wfI at h
  refine bX13_wordTold_0 ⟨fun g => ?_, fun g => ?_⟩
  · rw [if_pos g] at h
    exact ⟨hq.1, td, p8, sb.1, td + 3, sb.2.1.2.2.1, 40, sb.2.2.2.2.1, vw, _, rfl, by rw [cw, e0]; exact h⟩
  rw [if_neg g] at h
  refine ⟨fun g => ?_, fun g => ?_⟩
  · rw [if_pos g] at h
    exact ⟨hq.1, td, p8, sb.1, td + 4, sb.2.1.2.2.2.1, 40, sb.2.2.2.2.2.1, vw, _, rfl, by rw [cw, e1]; exact h⟩
  rw [if_neg g] at h
  refine ⟨fun g => ?_, fun g => ?_⟩
  · rw [if_pos g] at h
    exact ⟨hq.1, td, p8, sb.1, td + 2, sb.2.1.2.1, 40, sb.2.2.2.1, vw, _, rfl, by rw [cw, e2]; exact h⟩
  rw [if_neg g] at h
  refine ⟨fun g => ?_, fun g => ?_⟩
  · rw [if_pos g] at h
    exact ⟨hq.1, r + 33, p24, 40, K33, vw, _, rfl, by rw [cw, e3]; exact h⟩
  rw [if_neg g] at h
  refine ⟨fun g => ?_, fun g => ?_⟩
  · rw [if_pos g] at h
    exact ⟨hq.1, r + 34, p25, 40, K34, vw, _, rfl, by rw [cw, e4]; exact h⟩
  rw [if_neg g] at h
  exact ⟨hq.1, c_mplace (hn := s.2.2.2) (by omega) hq hb hk hw ⟨_, rfl, h⟩⟩
/-- look, over all that the reference holds -/
theorem m_look {d : Nat} (hd : 407 ≤ d) {B : pM} {I : pIm} {r td dr : Nat} {s : wS} {K : pM → Prop} (hq : mdS B r td dr) (hl : modD I r td s) (h : ∀ J, modD J r td s → Fr r (r + 36) I J → J r 0 = I r 0 → lkD J r s.2.2.1 s.2.2.2 → K (pset B J)) : pCall_v d mX13_look (0, 0) [.ref r] (pset B I) K := by
  have hy := hq.lay
  refine c_mlook hd hq hl.2.2.1 hl.2.2.2 (fun J f k => h J (hl.sc (f.sc (by omega))) (f.sc (td := td) (by omega)).2.2.2.2 (f.2 0 (by decide)) k)
theorem m_count {d : Nat} (hd : 408 ≤ d) {B : pM} {I : pIm} {r td dr : Nat} {cd : String → Int32} {s : wS} {k : Int32} {K : Int32 → pM → Prop} (hc : cd xIOB = 1) (hq : mdS B r td dr) (hl : modD I r td s) (h : modO B I r cd (countO s k) K) : pCall_i d mX13_count (0, 0) [.ref r, .int k] (pset B I) K := by
  refine CP_go (by omega) okX13_count (Nat.le_of_ble_eq_true rfl) ?_
  obtain ⟨g1, g2, g3⟩ := hl.th hq (n := 0)
  have d1 : 1 ≤ d - 1 := by omega
  have d4 : 4 ≤ d - 1 := by omega
  have d407 : 407 ≤ d - 1 := by omega
  unfold countO at h
  refine bX13_count_0 ⟨hq.1, c_misIn d1 ?_⟩
  rw [psI_set]
  by_cases c1 : k < 0
  · rw [if_pos c1] at h
    rw [isInI_f (Or.inl c1)]
    exact ⟨fun _ => ⟨hq.1, (m_no d1 hq g1 g2 hc.symm h).mono (fun v M1 q => ⟨v, rfl, q⟩)⟩, fun z => absurd rfl z⟩
  rw [if_neg c1] at h
  by_cases c2 : k < 13
  · rw [if_pos c2] at h
    rw [isInI_t c1 ((lt_lit (by decide)).mp c2)]
    refine ⟨fun z => absurd z (by decide), fun _ => ⟨hq.1, m_look d407 hq g1 (fun J x1 x2 x3 x4 => ⟨hq.1, c_mcounted d4 hq x1 x4 ⟨_, rfl, mod_stay (B := B) hq x1 (g2.tr x2) (x3.trans u2_same) h⟩⟩)⟩⟩
  · rw [if_neg c2] at h
    rw [isInI_f (Or.inr (Decidable.not_not.mp (fun z => c2 ((lt_lit (by decide)).mpr z))))]
    exact ⟨fun _ => ⟨hq.1, (m_no d1 hq g1 g2 hc.symm h).mono (fun v M1 q => ⟨v, rfl, q⟩)⟩, fun z => absurd rfl z⟩
theorem m_offer {d : Nat} (hd : 408 ≤ d) {B : pM} {I : pIm} {r td dr : Nat} {cd : String → Int32} {s : wS} {k : Int32} {K : Int32 → pM → Prop} (hc : cd xIOB = 1) (hq : mdS B r td dr) (hl : modD I r td s) (h : modO B I r cd (offerO s k) K) : pCall_i d mX13_offer (0, 0) [.ref r, .int k] (pset B I) K := by
  refine CP_go (by omega) okX13_offer (Nat.le_of_ble_eq_true rfl) ?_
  obtain ⟨g1, g2, g3⟩ := hl.th hq (n := 0)
  have d1 : 1 ≤ d - 1 := by omega
  have d407 : 407 ≤ d - 1 := by omega
  have p26 := hq.2.2.1.2.2.2.2.2.2.2
  have K35 := hq.2.2.2.1.2.2.2.2.2.2.2.2.2.2.2.2
  unfold offerO at h
  refine bX13_offer_0 ⟨hq.1, c_misIn d1 ?_⟩
  rw [psI_set]
  by_cases c1 : k < 0
  · rw [if_pos c1] at h
    rw [isInI_f (Or.inl c1)]
    exact ⟨fun _ => ⟨hq.1, (m_no d1 hq g1 g2 hc.symm h).mono (fun v M1 q => ⟨v, rfl, q⟩)⟩, fun z => absurd rfl z⟩
  rw [if_neg c1] at h
  by_cases c2 : k < 5
  · rw [if_pos c2] at h
    rw [isInI_t c1 ((lt_lit (by decide)).mp c2)]
    refine ⟨fun z => absurd z (by decide), fun _ => ⟨hq.1, m_look d407 hq g1 (fun J x1 x2 x3 x4 => ⟨hq.1, ?_⟩)⟩⟩
    obtain ⟨O, o1, o2, o3, o4, o5, o6, o7, -⟩ := lk_O x1.2.2.1 x4
    obtain ⟨p, hp, rfl⟩ := nI_of c1
    have hp5 : p < 5 := (nI_ltI hp (by omega)).mp c2
    have e27 : pI (pset B J) r 27 = nI O.length := o1
    have e7 := o7 p hp5
    rw [e27]
    refine ⟨fun g => ⟨_, rfl, ?_⟩, fun g => ⟨hq.1, r + 35, p26, 40, K35, vp_inN (by omega) (by omega), _, rfl, ?_⟩⟩
    · rw [List.getElem?_eq_none ((nI_leI (by omega) hp).mp g)] at e7
      refine mod_stay (B := B) (cd := cd) hq x1 (g2.tr x2) (x3.trans u2_same) ?_
      rw [e7] at h
      exact h
    · have hpO : p < O.length := Nat.not_le.mp (fun z => g (nI_le z hp))
      have ep := List.getElem?_eq_getElem hpO
      rw [ep] at e7
      have er : pI (pset B J) (r + 35) p = nI O[p] := o2 p _ (by rw [List.getElem?_map, ep]; rfl)
      rw [nI_clamp hp, er]
      refine mod_stay (B := B) (cd := cd) hq x1 (g2.tr x2) (x3.trans u2_same) ?_
      rw [e7] at h
      exact h
  · rw [if_neg c2] at h
    rw [isInI_f (Or.inr (Decidable.not_not.mp (fun z => c2 ((lt_lit (by decide)).mpr z))))]
    exact ⟨fun _ => ⟨hq.1, (m_no d1 hq g1 g2 hc.symm h).mono (fun v M1 q => ⟨v, rfl, q⟩)⟩, fun z => absurd rfl z⟩
theorem m_word {d : Nat} (hd : 408 ≤ d) {B : pM} {I : pIm} {r td dr : Nat} {cd : String → Int32} {s : wS} {w k : Int32} {K : Int32 → pM → Prop} (hc : cd xIOB = 1) (hq : mdS B r td dr) (hl : modD I r td s) (h : modO B I r cd (wordO s w k) K) : pCall_i d mX13_word (0, 0) [.ref r, .int w, .int k] (pset B I) K := by
  refine CP_go (by omega) okX13_word (Nat.le_of_ble_eq_true rfl) ?_
  obtain ⟨g1, g2, g3⟩ := hl.th hq (n := 0)
  have d1 : 1 ≤ d - 1 := by omega
  have d2 : 2 ≤ d - 1 := by omega
  have d407 : 407 ≤ d - 1 := by omega
  have h40 := hl.2.2.1.2.2.2.2.2.1.2.1
  unfold wordO at h
  have no : ∀ {x : wS}, modO B I r cd (.inr xIOB, x) K → x = s → Go (d - 1) mX13_word (fun r M1 => ∃ v, r = .inl (some (.int v)) ∧ K v M1) 22 ([some (.ref r), none, none], [], 0, 0) (pset B (u2 I r 0 0)) := fun hx ex => by
    subst ex
    exact bX13_word_22 ⟨hq.1, (m_no d1 hq g1 g2 hc.symm hx).mono (fun v M1 q => ⟨v, rfl, q⟩)⟩
  refine bX13_word_0 ⟨hq.1, hq.1, ?_⟩
  rw [psI_set]
  refine c_mthere d2 hq g1.2.2.1 ⟨fun g => ?_, fun g => c_misIn d1 ?_⟩
  · rw [if_pos g] at h; exact no h rfl
  rw [if_neg g] at h
  obtain ⟨i, hi, rfl⟩ := inW_of g (by omega)
  by_cases c1 : k < 0
  · rw [if_pos c1] at h
    rw [isInI_f (Or.inl c1)]
    exact ⟨fun _ => no h rfl, fun z => absurd rfl z⟩
  rw [if_neg c1] at h
  by_cases c2 : k < 6
  · rw [if_pos c2] at h
    rw [isInI_t c1 ((lt_lit (by decide)).mp c2)]
    exact ⟨fun z => absurd z (by decide), fun _ => ⟨hq.1, m_look d407 hq g1 (fun J x1 x2 x3 x4 => ⟨hq.1, c_mwordTold d2 hq x1 x4 hi ⟨_, rfl, mod_stay (B := B) hq x1 (g2.tr x2) (x3.trans u2_same) h⟩⟩)⟩⟩
  · rw [if_neg c2] at h
    rw [isInI_f (Or.inr (Decidable.not_not.mp (fun z => c2 ((lt_lit (by decide)).mpr z))))]
    exact ⟨fun _ => no h rfl, fun z => absurd rfl z⟩
theorem m_letter {d : Nat} (hd : 3 ≤ d) {B : pM} {I : pIm} {r td dr : Nat} {cd : String → Int32} {s : wS} {w k : Int32} {K : Int32 → pM → Prop} (hc : cd xIOB = 1) (hq : mdS B r td dr) (hl : modD I r td s) (h : modO B I r cd (letterO s w k) K) : pCall_i d mX13_letter (0, 0) [.ref r, .int w, .int k] (pset B I) K := by
  refine CP_go (by omega) okX13_letter (Nat.le_of_ble_eq_true rfl) ?_
  obtain ⟨g1, g2, g3⟩ := hl.th hq (n := 0)
  have d1 : 1 ≤ d - 1 := by omega
  have d2 : 2 ≤ d - 1 := by omega
  have sb := hq.2.2.2.2.1
  have p8 := hq.2.1.2.2.2.2.2.1
  have hb := g1.2.2.1
  have h40 := hb.2.2.2.2.2.1.2.1
  unfold letterO at h
  have no : ∀ {x : wS}, modO B I r cd (.inr xIOB, x) K → x = s → Go (d - 1) mX13_letter (fun r M1 => ∃ v, r = .inl (some (.int v)) ∧ K v M1) 32 ([some (.ref r), none, none], [], 0, 0) (pset B (u2 I r 0 0)) := fun hx ex => by
    subst ex
    exact bX13_letter_32 ⟨hq.1, (m_no d1 hq g1 g2 hc.symm hx).mono (fun v M1 q => ⟨v, rfl, q⟩)⟩
  refine bX13_letter_0 ⟨hq.1, hq.1, ?_⟩
  rw [psI_set]
  refine c_mthere d2 hq hb ⟨fun g => ?_, fun g => ?_⟩
  · rw [if_pos g] at h; exact no h rfl
  rw [if_neg g] at h
  obtain ⟨i, hi, rfl⟩ := inW_of g (by omega)
  obtain ⟨a1, a2, a3, a4⟩ := lat_at hb hi
  refine ⟨hq.1, td, p8, sb.1, td + 2, sb.2.1.2.1, 40, sb.2.2.2.1, vp_inN (by omega) (by omega), ?_⟩
  have el : pI (pset B (u2 I r 0 0)) (td + 2) i = nI (lat s.2.2.1.2.1 (nI i)).length := a1
  rw [nI_clamp (by omega), el]
  refine c_misIn d1 ?_
  rw [in_W (by omega)]
  by_cases c1 : k < 0
  · rw [if_pos c1] at h
    have e0 : inW (lat s.2.2.1.2.1 (nI i)).length k = 0 := if_pos c1
    rw [e0]
    exact ⟨fun _ => no h rfl, fun z => absurd rfl z⟩
  rw [if_neg c1] at h
  by_cases c2 : k < nI (lat s.2.2.1.2.1 (nI i)).length
  · rw [if_pos c2] at h
    have e0 : inW (lat s.2.2.1.2.1 (nI i)).length k = 1 := by
      unfold inW
      rw [if_neg c1, if_neg (Int32.not_le.mpr c2)]
    rw [e0]
    obtain ⟨j, hj, rfl⟩ := nI_of c1
    have hj2 := (nI_ltI hj (by omega)).mp c2
    exact ⟨fun z => absurd z (by decide), fun _ => ⟨hq.1, td, p8, sb.1, c_mbyteOf (ws := s.2.2.1.2.1) d1 sb hb.2.1 h40 a4 a2 hj2 ⟨_, rfl, mod_stay (B := B) hq g1 g2 u2_same h⟩⟩⟩
  · rw [if_neg c2] at h
    have e0 : inW (lat s.2.2.1.2.1 (nI i)).length k = 0 := by
      unfold inW
      rw [if_neg c1, if_pos (Int32.not_lt.mp c2)]
    rw [e0]
    exact ⟨fun _ => no h rfl, fun z => absurd rfl z⟩
