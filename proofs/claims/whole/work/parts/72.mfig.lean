/-! THE REFERENCE: figures -/
theorem begN_app {ty : List Int32} {a b : List (List Int32)} : begN ty (a ++ b) = begN ty a + begN ty b := by
  induction a with
  | nil => simp [begN]
  | cons x a ih => rw [List.cons_append, begN, begN, ih]; omega
theorem sumI_app {a : List Int32} {x : Int32} : sumI (a ++ [x]) = sumI a + x := by unfold sumI; rw [List.foldl_append]; rfl
theorem shr_ap1 {w x : List Int32} {a : List (List Int32)} : shr w (a ++ [x]) = max (shr w a) (cpl w x) := by
  induction a with
  | nil => simp [shr]
  | cons y a ih => rw [List.cons_append, shr, shr, ih]; omega
theorem cpl_comm {l m : List Int32} : cpl l m = cpl m l := by
  induction l generalizing m with
  | nil => cases m <;> rfl
  | cons a l ih =>
    cases m with
    | nil => rfl
    | cons b m =>
      unfold cpl
      by_cases e : a = b
      · rw [if_pos e, if_pos e.symm, ih]
      · rw [if_neg e, if_neg (fun z => e z.symm)]
theorem shr_len {w : List Int32} {a : List (List Int32)} : shr w a ≤ w.length := by
  induction a with
  | nil => simp [shr]
  | cons y a ih => have := (cpl_le (l := w) (m := y)).1; unfold shr; omega
theorem take1 {α : Type} {l : List α} {k : Nat} (h : k < l.length) : l.take (k + 1) = l.take k ++ [l[k]] := List.take_succ_eq_append_getElem h
theorem in_W {n : Nat} {w : Int32} (hn : n < 1000) : isInI w 0 (nI n - 1) = inW n w := by
  unfold isInI inW
  by_cases c : w < 0
  · rw [if_pos c, if_pos c]
  · rw [if_neg c, if_neg c]
    obtain ⟨k, hk, rfl⟩ := nI_of c
    match n with
    | 0 =>
      rw [if_pos (show nI 0 - 1 < nI k from Int32.lt_of_lt_of_le (show nI 0 - 1 < 0 by decide) (nI_pos' hk)), if_pos (nI_le (by omega) hk)]
    | n + 1 =>
      rw [nI_pred]
      by_cases c2 : n < k
      · rw [if_pos (nI_lt c2 hk), if_pos (nI_le (by omega) hk)]
      · rw [if_neg (nI_nlt (by omega) (by omega)), if_neg (fun z => by have := (nI_leI (by omega) hk).mp z; omega)]
theorem c_mthere {d : Nat} (hd : 2 ≤ d) {B : pM} {I : pIm} {r td dr : Nat} {b : bK} {w : Int32} {K : Int32 → pM → Prop} (hq : mdS B r td dr) (hb : mbD I td b) (h : K (inW b.2.1.length w) (pset B I)) : pCall_i d mX13_isThere (0, 0) [.ref r, .int w] (pset B I) K := by
  refine CP_go (by omega) okX13_isThere (Nat.le_of_ble_eq_true rfl) ?_
  have h40 := hb.2.2.2.2.2.1.2.1
  have e : pI (pset B I) td 1 = nI b.2.1.length := hb.1.2.1
  refine bX13_isThere_0 ⟨hq.1, td, hq.2.1.2.2.2.2.2.1, hq.2.2.2.2.1.1, ?_⟩
  rw [e]
  refine c_misIn (by omega) ?_
  rw [in_W (by omega)]
  refine ⟨?_, _, rfl, h⟩
  unfold inW
  split
  · exact Or.inl rfl
  · split
    · exact Or.inl rfl
    · exact Or.inr rfl
theorem inW_of {n : Nat} {w : Int32} (h : ¬ inW n w = 0) (hn : n < 1000) : ∃ k, k < n ∧ w = nI k := by
  unfold inW at h
  by_cases c : w < 0
  · rw [if_pos c] at h; exact absurd rfl h
  · rw [if_neg c] at h
    obtain ⟨k, hk, rfl⟩ := nI_of c
    refine ⟨k, Nat.not_le.mp (fun z => h ?_), rfl⟩
    rw [if_pos (nI_le z hk)]
theorem c_misBegin {d : Nat} (hd : 2 ≤ d) {B : pM} {I : pIm} {r td dr w : Nat} {b : bK} {hn : List Int32 × Int32 × Int32 × Int32} {K : Int32 → pM → Prop} (hq : mdS B r td dr) (hb : mbD I td b) (hh : mhD I r hn) (hw : w < b.2.1.length) (h : K (bI (hn.1 <+: lat b.2.1 (nI w))) (pset B I)) : pCall_i d mX13_isBeginning (0, 0) [.ref r, .int (nI w)] (pset B I) K := by
  refine CP_go (by omega) okX13_isBeginning (Nat.le_of_ble_eq_true rfl) ?_
  have sb := hq.2.2.2.2.1
  have p8 := hq.2.1.2.2.2.2.2.1
  have p17 := hq.2.2.1.2.2.1
  have K30 := hq.2.2.2.1.2.2.2.2.2.2.2.1
  have h40 := hb.2.2.2.2.2.1.2.1
  obtain ⟨l1, l2, l3, l4⟩ := lat_at hb hw
  obtain ⟨k1, k2, k3, -⟩ := hh
  have e18 : pI (pset B I) r 18 = nI hn.1.length := k1
  have d1 : 1 ≤ d - 1 := by omega
  generalize lat b.2.1 (nI w) = l at h l1 l2 l3 l4
  have el : pI (pset B I) (td + 2) w = nI l.length := l1
  refine bX13_isBeginning_0 ⟨hq.1, hq.1, td, p8, sb.1, td + 2, sb.2.1.2.1, 40, sb.2.2.2.1, vp_inN (by omega) (by omega), ?_⟩
  rw [nI_clamp (by omega), e18, el]
  refine ⟨fun g => ?_, fun g => ⟨_, rfl, ?_⟩⟩
  · have hle : hn.1.length ≤ l.length := (nI_leI (by omega) (by omega)).mp g
    have key : ∀ (m k : Nat), hn.1.length - k = m → k ≤ hn.1.length → (∀ j, j < k → hn.1[j]? = l[j]?) → Go (d - 1) mX13_isBeginning (fun r M1 => ∃ v, r = .inl (some (.int v)) ∧ K v M1) 20 ([some (.ref r), some (.int (nI w)), some (.int (nI k))], [], 0, 0) (pset B I) := by
      intro m
      induction m with
      | zero =>
        intro k hm hk hs
        refine bX13_isBeginning_20 ⟨hq.1, fun _ => ⟨_, rfl, ?_⟩, fun g2 => absurd (by rw [e18]; exact nI_le (by omega) (by omega)) g2⟩
        rw [bI_t ?_] at h
        · exact h
        · rw [List.prefix_iff_eq_take]
          apply List.ext_getElem?
          intro j
          rw [List.getElem?_take]
          by_cases c : j < hn.1.length
          · rw [if_pos c]; exact hs j (by omega)
          · rw [if_neg c, List.getElem?_eq_none (by omega)]
      | succ m ih =>
        intro k hm hk hs
        have hkl : k < hn.1.length := by omega
        have e1 := List.getElem?_eq_getElem hkl
        have e2 : l[k]? = some (l[k]'(by omega)) := List.getElem?_eq_getElem (by omega)
        refine bX13_isBeginning_20 ⟨hq.1, fun g2 => ?_, fun _ => ⟨hq.1, td, p8, sb.1, ?_⟩⟩
        · exfalso
          rw [e18] at g2
          have := (nI_leI (by omega) (by omega)).mp g2
          omega
        · refine c_mbyteOf (ws := b.2.1) (l := l) d1 sb hb.2.1 h40 l4 l2 (by omega) ⟨hq.1, r + 30, p17, 20, K30, vp_inN (by omega) (by omega), ?_⟩
          have f1 : pI (pset B I) (r + 30) k = hn.1[k] := k3 k _ e1
          rw [nI_clamp (by omega), f1, rat_in e2 (by omega), nI_1]
          refine ⟨fun g3 => ih (k + 1) (by omega) (by omega) (fun j hj => ?_), fun g3 => ⟨_, rfl, ?_⟩⟩
          · by_cases c : j = k
            · subst c; rw [e1, e2, g3]
            · exact hs j (by omega)
          · rw [bI_f ?_] at h
            · exact h
            · intro z
              rw [List.prefix_iff_eq_take] at z
              have := congrArg (fun x => x[k]?) z
              simp only [List.getElem?_take, if_pos hkl] at this
              rw [e1, e2] at this
              exact g3 (Option.some.inj this).symm
    exact key _ 0 rfl (by omega) (fun j hj => absurd hj (by omega))
  · rw [bI_f (fun z => g (nI_le z.length_le (by omega)))] at h
    exact h
theorem c_mweights {d : Nat} (hd : 1 ≤ d) {B : pM} {I : pIm} {r td dr : Nat} {b : bK} {K : Int32 → pM → Prop} (hq : mdS B r td dr) (hb : mbD I td b) (h : K (sumI b.2.2.1) (pset B I)) : pCall_i d mX13_weights (0, 0) [.ref r] (pset B I) K := by
  refine CP_go (by omega) okX13_weights (Nat.le_of_ble_eq_true rfl) ?_
  have sb := hq.2.2.2.2.1
  have p8 := hq.2.1.2.2.2.2.2.1
  have h40 := hb.2.2.2.2.2.1.2.1
  have hl := hb.2.2.2.2.2.1.2.2.2.1
  have e1 : pI (pset B I) td 1 = nI b.2.1.length := hb.1.2.1
  have key : ∀ (m k : Nat), b.2.1.length - k = m → k ≤ b.2.1.length → Go (d - 1) mX13_weights (fun r M1 => ∃ v, r = .inl (some (.int v)) ∧ K v M1) 4 ([some (.ref r), some (.int (sumI (b.2.2.1.take k))), some (.int (nI k))], [], 0, 0) (pset B I) := by
    intro m
    induction m with
    | zero =>
      intro k hm hk
      refine bX13_weights_4 ⟨hq.1, td, p8, sb.1, fun _ => ⟨_, rfl, ?_⟩, fun g => absurd (by rw [e1]; exact nI_le (by omega) (by omega)) g⟩
      rw [List.take_of_length_le (by omega)]
      exact h
    | succ m ih =>
      intro k hm hk
      refine bX13_weights_4 ⟨hq.1, td, p8, sb.1, fun g => ?_, fun _ => ⟨hq.1, td, p8, sb.1, td + 3, sb.2.1.2.2.1, 40, sb.2.2.2.2.1, vp_inN (by omega) (by omega), ?_⟩⟩
      · exfalso
        rw [e1] at g
        have := (nI_leI (by omega) (by omega)).mp g
        omega
      · have hk2 : k < b.2.2.1.length := by omega
        have e2 : pI (pset B I) (td + 3) k = b.2.2.1[k] := hb.2.2.2.1 k _ (List.getElem?_eq_getElem hk2)
        rw [nI_clamp (by omega), nI_1, e2, ← sumI_app, ← take1 hk2]
        exact ih (k + 1) (by omega) (by omega)
  exact bX13_weights_0 (key _ 0 rfl (by omega))
theorem c_mbegins {d : Nat} (hd : 3 ≤ d) {B : pM} {I : pIm} {r td dr : Nat} {b : bK} {hn : List Int32 × Int32 × Int32 × Int32} {K : Int32 → pM → Prop} (hq : mdS B r td dr) (hb : mbD I td b) (hh : mhD I r hn) (h : K (nI (begN hn.1 b.2.1)) (pset B I)) : pCall_i d mX13_beginnings (0, 0) [.ref r] (pset B I) K := by
  refine CP_go (by omega) okX13_beginnings (Nat.le_of_ble_eq_true rfl) ?_
  have sb := hq.2.2.2.2.1
  have p8 := hq.2.1.2.2.2.2.2.1
  have h40 := hb.2.2.2.2.2.1.2.1
  have e1 : pI (pset B I) td 1 = nI b.2.1.length := hb.1.2.1
  have d2 : 2 ≤ d - 1 := by omega
  have key : ∀ (m k : Nat), b.2.1.length - k = m → k ≤ b.2.1.length → Go (d - 1) mX13_beginnings (fun r M1 => ∃ v, r = .inl (some (.int v)) ∧ K v M1) 4 ([some (.ref r), some (.int (nI (begN hn.1 (b.2.1.take k)))), some (.int (nI k))], [], 0, 0) (pset B I) := by
    intro m
    induction m with
    | zero =>
      intro k hm hk
      refine bX13_beginnings_4 ⟨hq.1, td, p8, sb.1, fun _ => ⟨_, rfl, ?_⟩, fun g => absurd (by rw [e1]; exact nI_le (by omega) (by omega)) g⟩
      rw [List.take_of_length_le (by omega)]
      exact h
    | succ m ih =>
      intro k hm hk
      have hk2 : k < b.2.1.length := by omega
      refine bX13_beginnings_4 ⟨hq.1, td, p8, sb.1, fun g => ?_, fun _ => ⟨hq.1, c_misBegin d2 hq hb hh hk2 ?_⟩⟩
      · exfalso
        rw [e1] at g
        have := (nI_leI (by omega) (by omega)).mp g
        omega
      · have e2 : lat b.2.1 (nI k) = b.2.1[k] := lat_in (List.getElem?_eq_getElem hk2) (by omega)
        have nx : begN hn.1 (b.2.1.take (k + 1)) = begN hn.1 (b.2.1.take k) + (if hn.1 <+: b.2.1[k] then 1 else 0) := by rw [take1 hk2, begN_app, begN, begN, Nat.add_zero]
        have := ih (k + 1) (by omega) (by omega)
        rw [nx] at this
        rw [e2, nI_1]
        refine ⟨fun g => ?_, fun g => ?_⟩
        · rw [if_neg (bI_eq0.mp g), Nat.add_zero] at this
          rw [Int32.add_zero]
          exact this
        · rw [if_pos (Decidable.not_not.mp (fun z => g (bI_eq0.mpr z)))] at this
          rw [nI_1]
          exact this
  exact bX13_beginnings_0 (key _ 0 rfl (by omega))
theorem c_mshared {d : Nat} (hd : 2 ≤ d) {B : pM} {I : pIm} {r td dr x y : Nat} {b : bK} {K : Int32 → pM → Prop} (hq : mdS B r td dr) (hb : mbD I td b) (hx : x < b.2.1.length) (hy : y < b.2.1.length) (h : K (nI (cpl (lat b.2.1 (nI x)) (lat b.2.1 (nI y)))) (pset B I)) : pCall_i d mX13_shared (0, 0) [.ref r, .int (nI x), .int (nI y)] (pset B I) K := by
  refine CP_go (by omega) okX13_shared (Nat.le_of_ble_eq_true rfl) ?_
  have sb := hq.2.2.2.2.1
  have p8 := hq.2.1.2.2.2.2.2.1
  have h40 := hb.2.2.2.2.2.1.2.1
  have d1 : 1 ≤ d - 1 := by omega
  obtain ⟨a1, a2, a3, a4⟩ := lat_at hb hx
  obtain ⟨c1, c2, c3, c4⟩ := lat_at hb hy
  generalize lat b.2.1 (nI x) = l at h a1 a2 a3 a4
  generalize lat b.2.1 (nI y) = m at h c1 c2 c3 c4
  have ea : pI (pset B I) (td + 2) x = nI l.length := a1
  have ec : pI (pset B I) (td + 2) y = nI m.length := c1
  have hc := cpl_le (l := l) (m := m)
  have key : ∀ (f k : Nat), l.length - k = f → k ≤ l.length → k ≤ m.length → cpl l m = k + cpl (l.drop k) (m.drop k) → Go (d - 1) mX13_shared (fun r M1 => ∃ v, r = .inl (some (.int v)) ∧ K v M1) 2 ([some (.ref r), some (.int (nI x)), some (.int (nI y)), some (.int (nI k))], [], 0, 0) (pset B I) := by
    intro f
    induction f with
    | zero =>
      intro k hm hk hk2 e
      refine bX13_shared_2 ⟨hq.1, td, p8, sb.1, td + 2, sb.2.1.2.1, 40, sb.2.2.2.1, vp_inN (by omega) (by omega), ?_⟩
      rw [nI_clamp (by omega), ea]
      refine ⟨fun _ => ⟨_, rfl, ?_⟩, fun g => absurd (nI_le (by omega) (by omega)) g⟩
      rw [e, List.drop_of_length_le (by omega)] at h
      exact h
    | succ f ih =>
      intro k hm hk hk2 e
      have hkl : k < l.length := by omega
      refine bX13_shared_2 ⟨hq.1, td, p8, sb.1, td + 2, sb.2.1.2.1, 40, sb.2.2.2.1, vp_inN (by omega) (by omega), ?_⟩
      rw [nI_clamp (by omega), ea]
      refine ⟨fun g => absurd ((nI_leI (by omega) (by omega)).mp g) (by omega), fun _ => ⟨hq.1, td, p8, sb.1, td + 2, sb.2.1.2.1, 40, sb.2.2.2.1, vp_inN (by omega) (by omega), ?_⟩⟩
      rw [nI_clamp (by omega), ec]
      refine ⟨fun g => ⟨_, rfl, ?_⟩, fun g => ⟨hq.1, td, p8, sb.1, ?_⟩⟩
      · have hml := (nI_leI (by omega) (by omega)).mp g
        rw [e, List.drop_of_length_le (show m.length ≤ k by omega)] at h
        cases hd : l.drop k with
        | nil => rw [hd] at h; exact h
        | cons p q => rw [hd] at h; exact h
      · have hkm : k < m.length := Nat.not_le.mp (fun z => g (nI_le z (by omega)))
        have e1 := List.getElem?_eq_getElem hkl
        have e2 := List.getElem?_eq_getElem hkm
        refine c_mbyteOf (ws := b.2.1) (l := l) d1 sb hb.2.1 h40 a4 a2 (by omega) ⟨hq.1, td, p8, sb.1, c_mbyteOf (ws := b.2.1) (l := m) d1 sb hb.2.1 h40 c4 c2 (by omega) ?_⟩
        rw [rat_in e1 (by omega), rat_in e2 (by omega), nI_1]
        rw [cpl_drop e1 e2] at e
        refine ⟨fun g2 => ih (k + 1) (by omega) (by omega) (by omega) ?_, fun g2 => ⟨_, rfl, ?_⟩⟩
        · rw [if_pos g2] at e; omega
        · rw [if_neg g2] at e; rw [e] at h; exact h
  exact bX13_shared_0 (key _ 0 rfl (by omega) (by omega) (by simp))
theorem c_mnodes {d : Nat} (hd : 3 ≤ d) {B : pM} {I : pIm} {r td dr : Nat} {b : bK} {K : Int32 → pM → Prop} (hq : mdS B r td dr) (hb : mbD I td b) (h : K (triN b.2.1 b.2.1.length) (pset B I)) : pCall_i d mX13_nodes (0, 0) [.ref r] (pset B I) K := by
  refine CP_go (by omega) okX13_nodes (Nat.le_of_ble_eq_true rfl) ?_
  have sb := hq.2.2.2.2.1
  have p8 := hq.2.1.2.2.2.2.2.1
  have h40 := hb.2.2.2.2.2.1.2.1
  have e1 : pI (pset B I) td 1 = nI b.2.1.length := hb.1.2.1
  have d2 : 2 ≤ d - 1 := by omega
  have inner : ∀ (k : Nat), k < b.2.1.length → Go (d - 1) mX13_nodes (fun r M1 => ∃ v, r = .inl (some (.int v)) ∧ K v M1) 4 ([some (.ref r), some (.int (triN b.2.1 (k + 1))), some (.int (nI (k + 1))), none, none], [], 0, 0) (pset B I) → ∀ (m i : Nat), k - i = m → i ≤ k → Go (d - 1) mX13_nodes (fun r M1 => ∃ v, r = .inl (some (.int v)) ∧ K v M1) 20 ([some (.ref r), some (.int (triN b.2.1 k)), some (.int (nI k)), some (.int (nI (shr (lat b.2.1 (nI k)) (b.2.1.take i)))), some (.int (nI i))], [], 0, 0) (pset B I) := by
    intro k hk go m
    have e2 : lat b.2.1 (nI k) = b.2.1[k] := lat_in (List.getElem?_eq_getElem hk) (by omega)
    obtain ⟨a1, a2, a3, a4⟩ := lat_at hb hk
    induction m with
    | zero =>
      intro i hm hi
      refine bX13_nodes_20 ⟨fun _ => ⟨hq.1, td, p8, sb.1, td + 2, sb.2.1.2.1, 40, sb.2.2.2.1, vp_inN (by omega) (by omega), ?_⟩, fun g => absurd (nI_le (by omega) (by omega)) g⟩
      have e : i = k := by omega
      have el : pI (pset B I) (td + 2) k = nI (lat b.2.1 (nI k)).length := a1
      rw [nI_clamp (by omega), el, nI_1, e]
      rw [triN, List.getD_eq_getElem?_getD, List.getElem?_eq_getElem hk, Option.getD_some, ← e2] at go
      exact go
    | succ m ih =>
      intro i hm hi
      refine bX13_nodes_20 ⟨fun g => absurd ((nI_leI (by omega) (by omega)).mp g) (by omega), fun _ => ⟨hq.1, c_mshared d2 hq hb (by omega) hk ?_⟩⟩
      have hi2 : i < b.2.1.length := by omega
      have e3 : lat b.2.1 (nI i) = b.2.1[i] := lat_in (List.getElem?_eq_getElem hi2) (by omega)
      have nx : shr (lat b.2.1 (nI k)) (b.2.1.take (i + 1)) = max (shr (lat b.2.1 (nI k)) (b.2.1.take i)) (cpl (lat b.2.1 (nI i)) (lat b.2.1 (nI k))) := by rw [take1 hi2, shr_ap1, e3, cpl_comm (l := b.2.1[i])]
      have := ih (i + 1) (by omega) (by omega)
      have b1 := shr_len (w := lat b.2.1 (nI k)) (a := b.2.1.take i)
      have b2 := (cpl_le (l := lat b.2.1 (nI i)) (m := lat b.2.1 (nI k))).2
      rw [nx] at this
      have em : (if nI (shr (lat b.2.1 (nI k)) (b.2.1.take i)) < nI (cpl (lat b.2.1 (nI i)) (lat b.2.1 (nI k))) then nI (cpl (lat b.2.1 (nI i)) (lat b.2.1 (nI k))) else nI (shr (lat b.2.1 (nI k)) (b.2.1.take i))) = nI (max (shr (lat b.2.1 (nI k)) (b.2.1.take i)) (cpl (lat b.2.1 (nI i)) (lat b.2.1 (nI k)))) := by
        by_cases c : shr (lat b.2.1 (nI k)) (b.2.1.take i) < cpl (lat b.2.1 (nI i)) (lat b.2.1 (nI k))
        · rw [if_pos (nI_lt c (by omega)), Nat.max_eq_right (by omega)]
        · rw [if_neg (nI_nlt (by omega) (by omega)), Nat.max_eq_left (by omega)]
      rw [em, nI_1]
      exact this
  have key : ∀ (m k : Nat), b.2.1.length - k = m → k ≤ b.2.1.length → Go (d - 1) mX13_nodes (fun r M1 => ∃ v, r = .inl (some (.int v)) ∧ K v M1) 4 ([some (.ref r), some (.int (triN b.2.1 k)), some (.int (nI k)), none, none], [], 0, 0) (pset B I) := by
    intro m
    induction m with
    | zero =>
      intro k hm hk
      refine bX13_nodes_4 ⟨hq.1, td, p8, sb.1, fun _ => ⟨_, rfl, ?_⟩, fun g => absurd (by rw [e1]; exact nI_le (by omega) (by omega)) g⟩
      have e : k = b.2.1.length := by omega
      rw [e]
      exact h
    | succ m ih =>
      intro k hm hk
      refine bX13_nodes_4 ⟨hq.1, td, p8, sb.1, fun g => ?_, fun _ => ?_⟩
      · exfalso
        rw [e1] at g
        have := (nI_leI (by omega) (by omega)).mp g
        omega
      · exact inner k (by omega) (ih (k + 1) (by omega) (by omega)) k 0 rfl (by omega)
  exact bX13_nodes_0 (key _ 0 rfl (by omega))
