/-! THE REFERENCE: how far a word is -/
theorem nI_mul (a b : Nat) : nI a * nI b = nI (a * b) := (Int32.ofNat_mul a b).symm
theorem Ar.rat {f : Nat → Int32} {l : List Int32} {j : Nat} (h : Ar f l) (hj : j < l.length) (hl : l.length < 2 ^ 31) : f j = rat l (nI j) := by
  have e := List.getElem?_eq_getElem hj
  rw [rat_in e hl]
  exact h j _ e
theorem Ar.put {I : pIm} {q j : Nat} {l : List Int32} {v : Int32} (h : Ar (I q) l) (hj : j < 2 ^ 31) : Ar (u2 I q j v q) (rput l (nI j) v) := by
  rw [rput_nI hj]
  intro k x hx
  by_cases e : k = j
  · subst e
    rw [u2_same]
    rw [List.getElem?_set_self'] at hx
    cases hk : l[k]? with
    | none => rw [hk] at hx; exact nomatch hx
    | some y => rw [hk] at hx; exact Option.some.inj hx
  · rw [u2_j e]
    rw [List.getElem?_set_ne (fun z => e z.symm)] at hx
    exact h k x hx
theorem min_nI {a b : Nat} (ha : a < 2 ^ 31) (hb : b < 2 ^ 31) : (if nI a < nI b then nI a else nI b) = nI (min a b) := by
  by_cases c : a < b
  · rw [if_pos (nI_lt c hb), Nat.min_eq_left (by omega)]
  · rw [if_neg (nI_nlt (by omega) ha), Nat.min_eq_right (by omega)]
def tomN (ro po : List Int32) (le key : Int32) (s a b : Nat) : Nat := if key = le then min s (min a b + 3) else if nbr ro po key le = 0 then min a b + 3 else min (s + 2) (min a b + 3)
theorem tomC_nI {ro po : List Int32} {le key : Int32} {s a b : Nat} (hs : s ≤ 900) (ha : a ≤ 900) (hb : b ≤ 900) : tomC ro po le key (nI s) (nI a) (nI b) = nI (tomN ro po le key s a b) := by
  unfold tomC tomN
  rw [min_nI (by omega) (by omega), show nI (min a b) + 3 = nI (min a b + 3) from nI_add _ 3, show nI s + 2 = nI (s + 2) from nI_add _ 2, min_nI (by omega) (by omega), min_nI (by omega) (by omega)]
  split
  · rfl
  · split <;> rfl
theorem refC_nI {s a b X : Nat} (hs : s ≤ 900) (ha : a ≤ 900) (hb : b ≤ 900) (hX : X ≤ 999) : (if 3 + (if nI a < nI b then nI a else nI b) < nI s + nI X then 3 + (if nI a < nI b then nI a else nI b) else nI s + nI X) = nI (min (s + X) (min a b + 3)) := by
  rw [min_nI (by omega) (by omega), Int32.add_comm 3, show nI (min a b) + 3 = nI (min a b + 3) from nI_add _ 3, nI_add, min_nI (by omega) (by omega), Nat.min_comm]
theorem tomL_bd {ro po : List Int32} {le : Int32} {w cs : List Int32} {c : Nat} (hc : c ≤ 500) (hlen : cs.length = w.length + 1) (h10 : w.length ≤ 10) (h : ∀ (k : Nat) (x : Int32), cs[k]? = some x → ∃ n, n ≤ c ∧ x = nI n) : ∀ j, j ≤ w.length → (∀ (k : Nat) (x : Int32), (tomL ro po le w cs j).1[k]? = some x → ∃ n, n ≤ (if k ≤ j then c + 3 else c) ∧ x = nI n) ∧ ∃ n, n ≤ c ∧ (tomL ro po le w cs j).2 = nI n := by
  intro j
  induction j with
  | zero =>
    intro _
    have e0 : cs[0]? = some (cs[0]'(by omega)) := List.getElem?_eq_getElem (by omega)
    obtain ⟨n0, hn0, en0⟩ := h 0 _ e0
    have er : rat cs 0 = nI n0 := by
      have := rat_in (j := 0) e0 (by omega)
      exact this.trans en0
    rw [tomL]
    refine ⟨fun k x hx => ?_, n0, hn0, er⟩
    have hx' : (rput cs (nI 0) (rat cs 0 + 3))[k]? = some x := hx
    rw [rput_nI (by omega)] at hx'
    by_cases e : k = 0
    · subst e
      rw [List.getElem?_set_self (by omega)] at hx'
      refine ⟨n0 + 3, by rw [if_pos (Nat.le_refl _)]; omega, ?_⟩
      rw [← Option.some.inj hx', er]
      exact nI_add _ 3
    · rw [List.getElem?_set_ne (fun z => e z.symm)] at hx'
      obtain ⟨n, hn, en⟩ := h k x hx'
      exact ⟨n, by split <;> omega, en⟩
  | succ j ih =>
    intro hj
    obtain ⟨i1, s0, hs0, es0⟩ := ih (by omega)
    have hL : (tomL ro po le w cs j).1.length = w.length + 1 := by rw [tomL_len, hlen]
    have ea : (tomL ro po le w cs j).1[j]? = some ((tomL ro po le w cs j).1[j]'(by omega)) := List.getElem?_eq_getElem (by omega)
    have eb : (tomL ro po le w cs j).1[j + 1]? = some ((tomL ro po le w cs j).1[j + 1]'(by omega)) := List.getElem?_eq_getElem (by omega)
    obtain ⟨a, ha, ea2⟩ := i1 j _ ea
    obtain ⟨b, hb, eb2⟩ := i1 (j + 1) _ eb
    rw [if_pos (Nat.le_refl _)] at ha
    rw [if_neg (by omega)] at hb
    have ra : rat (tomL ro po le w cs j).1 (nI j) = nI a := (rat_in ea (by omega)).trans ea2
    have rb : rat (tomL ro po le w cs j).1 (nI (j + 1)) = nI b := (rat_in eb (by omega)).trans eb2
    rw [tomL]
    refine ⟨fun k x hx => ?_, b, hb, rb⟩
    have hx' : (rput (tomL ro po le w cs j).1 (nI (j + 1)) (tomC ro po le (rat w (nI j)) (tomL ro po le w cs j).2 (rat (tomL ro po le w cs j).1 (nI j)) (rat (tomL ro po le w cs j).1 (nI (j + 1)))))[k]? = some x := hx
    rw [ra, rb, es0, tomC_nI (by omega) (by omega) (by omega), rput_nI (by omega)] at hx'
    by_cases e : k = j + 1
    · subst e
      rw [List.getElem?_set_self (by omega)] at hx'
      refine ⟨_, ?_, (Option.some.inj hx').symm⟩
      rw [if_pos (Nat.le_refl _)]
      unfold tomN
      split
      · omega
      · split <;> omega
    · rw [List.getElem?_set_ne (fun z => e z.symm)] at hx'
      obtain ⟨n, hn, en⟩ := i1 k x hx'
      refine ⟨n, ?_, en⟩
      by_cases e2 : k ≤ j
      · rw [if_pos e2] at hn; rw [if_pos (by omega)]; exact hn
      · rw [if_neg e2] at hn; rw [if_neg (by omega)]; exact hn
theorem disR_bd {ro po ty w : List Int32} (h10 : w.length ≤ 10) : ∀ i, i ≤ 20 → ∀ (k : Nat) (x : Int32), (disR ro po ty w i)[k]? = some x → ∃ n, n ≤ 30 + 3 * i ∧ x = nI n := by
  intro i
  induction i with
  | zero =>
    intro _ k x hx
    unfold disR cst0 at hx
    rw [List.getElem?_map] at hx
    by_cases hk : k < w.length + 1
    · rw [List.getElem?_range hk] at hx
      refine ⟨k * 3, by omega, ?_⟩
      rw [← Option.some.inj hx]
      exact nI_mul k 3
    · rw [List.getElem?_eq_none (by rw [List.length_range]; omega)] at hx
      exact nomatch hx
  | succ i ih =>
    intro hi k x hx
    rw [disR] at hx
    obtain ⟨n, hn, en⟩ := (tomL_bd (c := 30 + 3 * i) (by omega) (by rw [disR_len]) h10 (ih (by omega)) w.length (Nat.le_refl _)).1 k x hx
    exact ⟨n, by split at hn <;> omega, en⟩
theorem c_mbyteOf {d : Nat} (hd : 1 ≤ d) {B : pM} {I : pIm} {q w k : Nat} {ws : List (List Int32)} {l : List Int32} {K : Int32 → pM → Prop} (hq : mbS B q) (hl : Wb (I (q + 1)) ws) (h40 : ws.length ≤ 40) (hw : ws[w]? = some l) (h10 : l.length ≤ 10) (hk : k < l.length) (h : K (rat l (nI k)) (pset B I)) : pCall_i d mX12_byteOf (0, 0) [.ref q, .int (nI w), .int (nI k)] (pset B I) K := by
  refine CP_go hd okX12_byteOf (Nat.le_of_ble_eq_true rfl) ?_
  have hw2 : w < ws.length := (List.getElem?_eq_some_iff.mp hw).1
  have e : 10 * nI w + nI k = nI (10 * w + k) := by
    rw [show (10 : Int32) * nI w = nI (10 * w) from nI_mul 10 w, nI_add]
  have ek := List.getElem?_eq_getElem hk
  have e2 : I (q + 1) (10 * w + k) = rat l (nI k) := by rw [rat_in ek (by omega)]; exact hl w l hw k _ ek
  refine bX12_byteOf_0 ⟨hq.1, q + 1, hq.2.1.1, 400, hq.2.2.1, ?_, _, rfl, ?_⟩
  · rw [e]; exact vp_inN (by omega) (by omega)
  · rw [e, nI_clamp (by omega)]
    show K (I (q + 1) (10 * w + k)) _
    rw [e2]; exact h
theorem Sc.fr {r td : Nat} {I J : pIm} (ht : td + 11 ≤ r + 28) (f : Fr (r + 31) (r + 36) I J) : Sc r td I J := ⟨fun g _ => by rw [f r (by omega)], f _ (by omega), f _ (by omega), fun x h1 h2 => f x (by omega), f.mono (by omega) (by omega)⟩
theorem wlen {I : pIm} {td w : Nat} {b : bK} {l : List Int32} (hb : mbD I td b) (hw : b.2.1[w]? = some l) : I (td + 2) w = nI l.length ∧ 1 ≤ l.length ∧ l.length ≤ 10 ∧ w < 40 := by
  have h40 := hb.2.2.2.2.2.1.2.1
  have h3 := hb.2.2.2.2.2.1.2.2.1 l (List.mem_of_getElem? hw)
  have hw2 : w < b.2.1.length := (List.getElem?_eq_some_iff.mp hw).1
  refine ⟨hb.2.2.1 w _ ?_, h3.1, h3.2, by omega⟩
  rw [List.getElem?_map, hw]
  rfl
theorem c_mfar {d : Nat} (hd : 4 ≤ d) {B : pM} {I : pIm} {r td dr w : Nat} {b : bK} {hn : List Int32 × Int32 × Int32 × Int32} {K : Int32 → pM → Prop} (hq : mdS B r td dr) (hb : mbD I td b) (hh : mhD I r hn) (hw : w < b.2.1.length) (h : ∀ J, Fr (r + 32) (r + 33) I J → K (faO b hn.1 w) (pset B J)) : pCall_i d mX13_farOf (0, 0) [.ref r, .int (nI w)] (pset B I) K := by
  refine CP_go (by omega) okX13_farOf (Nat.le_of_ble_eq_true rfl) ?_
  have hy := hq.lay
  have sb := hq.2.2.2.2.1
  have ew := List.getElem?_eq_getElem hw
  unfold faO at h
  rw [List.getD_eq_getElem?_getD, ew, Option.getD_some] at h
  obtain ⟨w1, w2, w3, w4⟩ := wlen hb ew
  have h40 := hb.2.2.2.2.2.1.2.1
  have hk := hb.2.2.2.2.2.2.1
  have hby := hb.2.1
  obtain ⟨k1, k2, k3, -⟩ := hh
  revert w1 w2 w3 h
  generalize b.2.1[w] = l at ew ⊢
  intro h w1 w2 w3
  have p8 := hq.2.1.2.2.2.2.2.1
  have p23 := hq.2.2.1.2.2.2.2.1
  have p17 := hq.2.2.1.2.2.1
  have K30 := hq.2.2.2.1.2.2.2.2.2.2.2.1
  have K32 := hq.2.2.2.1.2.2.2.2.2.2.2.2.2.1
  have d1 : 1 ≤ d - 1 := by omega
  have d3 : 3 ≤ d - 1 := by omega
  generalize hro : b.2.2.2.2.1.1 = ro at hk h
  generalize hpo : b.2.2.2.2.1.2.1 = po at hk h
  have hL : ∀ i, (disR ro po hn.1 l i).length = l.length + 1 := fun i => disR_len
  -- the size, whatever has become of the costs
  have sz : ∀ J, Fr (r + 32) (r + 33) I J → J (td + 2) w = nI l.length := fun J f => by rw [f (td + 2) (by omega)]; exact w1
  have e0 : (Int32.toNatClampNeg 0) = 0 := rfl
  have c191 : ∀ (J : pIm) (cs : List Int32), Fr (r + 32) (r + 33) I J → cs = disR ro po hn.1 l hn.1.length → Ar (J (r + 32)) cs → ∀ (m j : Nat), l.length - j = m → j ≤ l.length → Go (d - 1) mX13_farOf (fun r M1 => ∃ v, r = .inl (some (.int v)) ∧ K v M1) 191 ([some (.ref r), some (.int (nI w)), some (.int (minL cs j)), some (.int (nI (j + 1))), none, none, none], [], 0, 0) (pset B J) := by
    intro J cs hf ecs hA m
    have hcl : cs.length = l.length + 1 := by rw [ecs]; exact hL _
    induction m with
    | zero =>
      intro j hm hj
      refine bX13_farOf_191 ⟨hq.1, td, p8, sb.1, td + 2, sb.2.1.2.1, 40, sb.2.2.2.1, vp_inN w4 (by omega), fun g => ⟨_, rfl, ?_⟩, fun g => ?_⟩
      · have e : j = l.length := by omega
        rw [e, ecs]
        exact h J hf
      · exfalso
        refine g ?_
        rw [nI_clamp (by omega)]
        show J (td + 2) w < _
        rw [sz J hf]
        exact nI_lt (by omega) (by omega)
    | succ m ih =>
      intro j hm hj
      refine bX13_farOf_191 ⟨hq.1, td, p8, sb.1, td + 2, sb.2.1.2.1, 40, sb.2.2.2.1, vp_inN w4 (by omega), fun g => ?_, fun g => ⟨hq.1, r + 32, p23, 11, K32, vp_inN (by omega) (by omega), ?_⟩⟩
      · exfalso
        rw [nI_clamp (by omega)] at g
        have g' : nI l.length < nI (j + 1) := by rw [← sz J hf]; exact g
        exact nI_nlt (by omega) (by omega) g'
      · rw [nI_clamp (by omega), nI_1]
        have e : pI (pset B J) (r + 32) (j + 1) = rat cs (nI (j + 1)) := hA.rat (by omega) (by omega)
        rw [e]
        have := ih (j + 1) (by omega) (by omega)
        rw [minL] at this
        exact this
  have c60 : ∀ (i : Nat), i < hn.1.length → (∀ J, Fr (r + 32) (r + 33) I J → Ar (J (r + 32)) (disR ro po hn.1 l (i + 1)) → Go (d - 1) mX13_farOf (fun r M1 => ∃ v, r = .inl (some (.int v)) ∧ K v M1) 32 ([some (.ref r), some (.int (nI w)), some (.int (nI (i + 1))), none, none, none, none], [], 0, 0) (pset B J)) → ∀ (m j : Nat) (J : pIm), l.length - j = m → j ≤ l.length → Fr (r + 32) (r + 33) I J → Ar (J (r + 32)) (tomL ro po (rat hn.1 (nI i)) l (disR ro po hn.1 l i) j).1 → Go (d - 1) mX13_farOf (fun r M1 => ∃ v, r = .inl (some (.int v)) ∧ K v M1) 60 ([some (.ref r), some (.int (nI w)), some (.int (nI i)), some (.int (tomL ro po (rat hn.1 (nI i)) l (disR ro po hn.1 l i) j).2), some (.int (nI (j + 1))), none, none], [], 0, 0) (pset B J) := by
    intro i hi go m
    have bd := disR_bd (ro := ro) (po := po) (ty := hn.1) (w := l) w3 i (by omega)
    induction m with
    | zero =>
      intro j J hm hj hf hA
      refine bX13_farOf_60 ⟨hq.1, td, p8, sb.1, td + 2, sb.2.1.2.1, 40, sb.2.2.2.1, vp_inN w4 (by omega), fun g => ?_, fun g => ?_⟩
      · rw [nI_1]
        refine go J hf ?_
        rw [disR]
        have e : j = l.length := by omega
        rw [e] at hA
        exact hA
      · exfalso
        refine g ?_
        rw [nI_clamp (by omega)]
        show J (td + 2) w < _
        rw [sz J hf]
        exact nI_lt (by omega) (by omega)
    | succ m ih =>
      intro j J hm hj hf hA
      obtain ⟨B1, s0, hs0, es0⟩ := tomL_bd (le := rat hn.1 (nI i)) (c := 30 + 3 * i) (by omega) (hL i) w3 bd j hj
      have hLL : (tomL ro po (rat hn.1 (nI i)) l (disR ro po hn.1 l i) j).1.length = l.length + 1 := by rw [tomL_len, hL]
      have ea : (tomL ro po (rat hn.1 (nI i)) l (disR ro po hn.1 l i) j).1[j]? = some ((tomL ro po (rat hn.1 (nI i)) l (disR ro po hn.1 l i) j).1[j]'(by omega)) := List.getElem?_eq_getElem (by omega)
      have eb : (tomL ro po (rat hn.1 (nI i)) l (disR ro po hn.1 l i) j).1[j + 1]? = some ((tomL ro po (rat hn.1 (nI i)) l (disR ro po hn.1 l i) j).1[j + 1]'(by omega)) := List.getElem?_eq_getElem (by omega)
      obtain ⟨a, ha, ea2⟩ := B1 j _ ea
      obtain ⟨b', hb', eb2⟩ := B1 (j + 1) _ eb
      rw [if_pos (Nat.le_refl _)] at ha
      rw [if_neg (by omega)] at hb'
      have ra := (rat_in ea (by omega)).trans ea2
      have rb := (rat_in eb (by omega)).trans eb2
      have va : pI (pset B J) (r + 32) j = nI a := (hA j _ ea).trans ea2
      have vb : pI (pset B J) (r + 32) (j + 1) = nI b' := (hA (j + 1) _ eb).trans eb2
      have nx : tomL ro po (rat hn.1 (nI i)) l (disR ro po hn.1 l i) (j + 1) = (rput (tomL ro po (rat hn.1 (nI i)) l (disR ro po hn.1 l i) j).1 (nI (j + 1)) (nI (tomN ro po (rat hn.1 (nI i)) (rat l (nI j)) s0 a b')), nI b') := by
        rw [tomL, ra, rb, es0, tomC_nI (by omega) (by omega) (by omega)]
      have ej : nI (j + 1) - 1 = nI j := nI_sub (b := 1) (by omega)
      have fin : ∀ v, v = nI (tomN ro po (rat hn.1 (nI i)) (rat l (nI j)) s0 a b') → Go (d - 1) mX13_farOf (fun r M1 => ∃ v, r = .inl (some (.int v)) ∧ K v M1) 60 ([some (.ref r), some (.int (nI w)), some (.int (nI i)), some (.int (nI b')), some (.int (nI (j + 1) + 1)), none, none], [], 0, 0) (pset B (u2 J (r + 32) (j + 1) v)) := by
        intro v ev
        have := ih (j + 1) (u2 J (r + 32) (j + 1) v) (by omega) (by omega) (hf.tr (Fr.u (by omega) (by omega))) (by rw [nx, ev]; exact hA.put (by omega))
        rw [nx] at this
        rw [nI_1]
        exact this
      refine bX13_farOf_60 ⟨hq.1, td, p8, sb.1, td + 2, sb.2.1.2.1, 40, sb.2.2.2.1, vp_inN w4 (by omega), fun g => ?_, fun g => ⟨hq.1, td, p8, sb.1, ?_⟩⟩
      · exfalso
        rw [nI_clamp (by omega)] at g
        have g' : nI l.length < nI (j + 1) := by rw [← sz J hf]; exact g
        exact nI_nlt (by omega) (by omega) g'
      · rw [ej]
        have ety : pI (pset B J) (r + 30) i = rat hn.1 (nI i) := by
          show J (r + 30) i = _
          rw [hf (r + 30) (by omega)]
          exact k3.rat hi (by omega)
        refine c_mbyteOf (ws := b.2.1) (l := l) d1 sb (by rw [hf (td + 1) (by omega)]; exact hby) h40 ew w3 (by omega) ⟨hq.1, r + 30, p17, 20, K30, vp_inN (by omega) (by omega), ?_⟩
        rw [nI_clamp (show i < 2 ^ 31 by omega), nI_clamp (show j + 1 < 2 ^ 31 by omega), nI_clamp (show j < 2 ^ 31 by omega), ety, es0]
        refine ⟨fun g2 => ⟨hq.1, r + 32, p23, 11, K32, vp_inN (by omega) (by omega), hq.1, r + 32, p23, hq.1, r + 32, p23, 11, K32, vp_inN (by omega) (by omega), hq.1, r + 32, p23, 11, K32, vp_inN (by omega) (by omega), 11, K32, vp_inN (by omega) (by omega), ?_⟩, fun g2 => ⟨hq.1, r + 30, p17, 20, K30, vp_inN (by omega) (by omega), hq.1, c_misNear d3 hq (ro := ro) (po := po) (by rw [hf (td + 5) (by omega)]; exact hk) ?_⟩⟩
        · rw [va, vb]
          refine fin _ ?_
          have := refC_nI (s := s0) (a := a) (b := b') (X := 0) (by omega) (by omega) (by omega) (by omega)
          refine Eq.trans this ?_
          unfold tomN
          rw [if_pos g2]
          rfl
        · refine ⟨fun g3 => ⟨hq.1, r + 32, p23, 11, K32, vp_inN (by omega) (by omega), hq.1, r + 32, p23, hq.1, r + 32, p23, 11, K32, vp_inN (by omega) (by omega), hq.1, r + 32, p23, 11, K32, vp_inN (by omega) (by omega), 11, K32, vp_inN (by omega) (by omega), ?_⟩, fun g3 => ⟨hq.1, r + 32, p23, 11, K32, vp_inN (by omega) (by omega), hq.1, r + 32, p23, hq.1, r + 32, p23, 11, K32, vp_inN (by omega) (by omega), hq.1, r + 32, p23, 11, K32, vp_inN (by omega) (by omega), 11, K32, vp_inN (by omega) (by omega), ?_⟩⟩
          · rw [ety] at g3
            rw [va, vb]
            refine fin _ ?_
            have := refC_nI (s := s0) (a := a) (b := b') (X := 999) (by omega) (by omega) (by omega) (by omega)
            refine Eq.trans this ?_
            unfold tomN
            rw [if_neg g2, if_pos g3]
            rw [Nat.min_eq_right (by omega)]
          · rw [ety] at g3
            rw [va, vb]
            refine fin _ ?_
            have := refC_nI (s := s0) (a := a) (b := b') (X := 2) (by omega) (by omega) (by omega) (by omega)
            refine Eq.trans this ?_
            unfold tomN
            rw [if_neg g2, if_neg g3]
  have c32 : ∀ (m i : Nat) (J : pIm), hn.1.length - i = m → i ≤ hn.1.length → Fr (r + 32) (r + 33) I J → Ar (J (r + 32)) (disR ro po hn.1 l i) → Go (d - 1) mX13_farOf (fun r M1 => ∃ v, r = .inl (some (.int v)) ∧ K v M1) 32 ([some (.ref r), some (.int (nI w)), some (.int (nI i)), none, none, none, none], [], 0, 0) (pset B J) := by
    intro m
    induction m with
    | zero =>
      intro i J hm hi hf hA
      have ei : i = hn.1.length := by omega
      have e18 : pI (pset B J) r 18 = nI hn.1.length := by
        show J r 18 = _
        rw [hf r (by omega)]; exact k1
      refine bX13_farOf_32 ⟨hq.1, fun g => ⟨hq.1, r + 32, p23, 11, K32, vp_inN (j := 0) (by omega) (by omega), ?_⟩, fun g => absurd (by rw [e18]; exact nI_le (by omega) (by omega)) g⟩
      have e : pI (pset B J) (r + 32) (Int32.toNatClampNeg 0) = minL (disR ro po hn.1 l i) 0 := by
        have := hA.rat (j := 0) (by rw [hL]; omega) (by rw [hL]; omega)
        exact this
      rw [e]
      exact c191 J _ hf (by rw [ei]) hA l.length 0 rfl (by omega)
    | succ m ih =>
      intro i J hm hi hf hA
      have e18 : pI (pset B J) r 18 = nI hn.1.length := by
        show J r 18 = _
        rw [hf r (by omega)]; exact k1
      have e : pI (pset B J) (r + 32) (Int32.toNatClampNeg 0) = rat (disR ro po hn.1 l i) 0 := by
        have := hA.rat (j := 0) (by rw [hL]; omega) (by rw [hL]; omega)
        exact this
      refine bX13_farOf_32 ⟨hq.1, fun g => absurd ((nI_leI (a := hn.1.length) (b := i) (by omega) (by omega)).mp (by rw [← e18]; exact g)) (by omega), fun g => ⟨hq.1, r + 32, p23, 11, K32, vp_inN (j := 0) (by omega) (by omega), hq.1, r + 32, p23, 11, K32, vp_inN (j := 0) (by omega) (by omega), 11, K32, vp_inN (j := 0) (by omega) (by omega), ?_⟩⟩
      rw [e, psI_set]
      refine c60 i (by omega) (fun J2 f2 A2 => ih (i + 1) J2 (by omega) (by omega) f2 A2) l.length 0 _ rfl (by omega) (hf.tr (Fr.u (by omega) (by omega))) ?_
      rw [tomL]
      exact hA.put (j := 0) (by omega)
  have c2 : ∀ (m j : Nat) (J : pIm), l.length + 1 - j = m → j ≤ l.length + 1 → Fr (r + 32) (r + 33) I J → (∀ k, k < j → J (r + 32) k = nI k * 3) → Go (d - 1) mX13_farOf (fun r M1 => ∃ v, r = .inl (some (.int v)) ∧ K v M1) 2 ([some (.ref r), some (.int (nI w)), some (.int (nI j)), none, none, none, none], [], 0, 0) (pset B J) := by
    intro m
    induction m with
    | zero =>
      intro j J hm hj hf hA
      refine bX13_farOf_2 ⟨hq.1, td, p8, sb.1, td + 2, sb.2.1.2.1, 40, sb.2.2.2.1, vp_inN w4 (by omega), fun g => ?_, fun g => ?_⟩
      · refine c32 _ 0 J rfl (by omega) hf ?_
        intro k x hx
        unfold disR cst0 at hx
        rw [List.getElem?_map] at hx
        by_cases hk : k < l.length + 1
        · rw [List.getElem?_range hk] at hx
          rw [hA k (by omega)]
          exact Option.some.inj hx
        · rw [List.getElem?_eq_none (by rw [List.length_range]; omega)] at hx
          exact nomatch hx
      · exfalso
        refine g ?_
        rw [nI_clamp (by omega)]
        show J (td + 2) w < _
        rw [sz J hf]
        exact nI_lt (by omega) (by omega)
    | succ m ih =>
      intro j J hm hj hf hA
      refine bX13_farOf_2 ⟨hq.1, td, p8, sb.1, td + 2, sb.2.1.2.1, 40, sb.2.2.2.1, vp_inN w4 (by omega), fun g => ?_, fun g => ⟨hq.1, r + 32, p23, 11, K32, vp_inN (by omega) (by omega), ?_⟩⟩
      · exfalso
        rw [nI_clamp (by omega)] at g
        have g' : nI l.length < nI j := by rw [← sz J hf]; exact g
        exact nI_nlt (by omega) (by omega) g'
      · rw [nI_clamp (show j < 2 ^ 31 by omega), nI_1, psI_set]
        refine ih (j + 1) _ (by omega) (by omega) (hf.tr (Fr.u (by omega) (by omega))) (fun k hk => ?_)
        by_cases e : k = j
        · subst e; rw [u2_same]; exact Int32.mul_comm _ _
        · rw [u2_j e]; exact hA k (by omega)
  exact bX13_farOf_0 (c2 _ 0 I rfl (by omega) Fr.rf (fun k hk => absurd hk (by omega)))
