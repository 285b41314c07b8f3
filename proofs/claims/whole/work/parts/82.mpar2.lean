/-! THE REFERENCE'S PARSER: tokens are taken -/
theorem kd_at {B : pM} {J : pIm} {r td dr n0 a : Nat} {tp : List Int32} {t : tK} (h : tkE B J r td dr tp t n0) (ha : a ≤ n0) : kdR (kfT t a) (J (r + 2) a) (J (r + 3) a) (nmT tp t a) := by
  have e := List.getElem?_eq_getElem (l := t.1) (i := a) (by have := h.2.2.2.2.1; omega)
  have := h.2.2.2.1.2.2.2.2 a _ e
  unfold kfT nmT
  rw [List.getD_eq_getElem?_getD, e]
  exact this
theorem kdR_S {kd so va nu x : Int32} (h : kdR kd so va nu) (hx : sgn x ∨ x = 108 ∨ x = 103) : (so = 4 ∧ va = x) ↔ kd = cmpK x := by
  unfold sgn at hx
  have n19 : ∀ k, k < 19 → nI k ≠ cmpK x := by
    rcases hx with (e | e | e | e | e | e | e | e | e | e | e | e | e) | e | e <;> subst e <;> decide
  have n4 : cmpK x ≠ 24 ∧ cmpK x ≠ 25 ∧ cmpK x ≠ 20 ∧ cmpK x ≠ 21 ∧ (cmpK x = 22 ↔ x = 108) ∧ (cmpK x = 23 ↔ x = 103) := by
    rcases hx with (e | e | e | e | e | e | e | e | e | e | e | e | e) | e | e <;> subst e <;> decide
  rcases h with ⟨e, e'⟩ | ⟨e, e'⟩ | ⟨e, e'⟩ | ⟨e, e', -⟩ | ⟨e, e', e''⟩ | ⟨e, e', e''⟩ | ⟨k, hk, e, e', -⟩ | ⟨e, e', e''⟩
  · subst e e'; exact ⟨fun z => absurd z.1 (by decide), fun z => absurd z.symm n4.1⟩
  · subst e e'; exact ⟨fun z => absurd z.1 (by decide), fun z => absurd z.symm n4.2.1⟩
  · subst e e'; exact ⟨fun z => absurd z.1 (by decide), fun z => absurd z.symm n4.2.2.1⟩
  · subst e e'; exact ⟨fun z => absurd z.1 (by decide), fun z => absurd z.symm n4.2.2.2.1⟩
  · subst e e' e''; exact ⟨fun z => (n4.2.2.2.2.1.mpr z.2.symm).symm, fun z => ⟨rfl, (n4.2.2.2.2.1.mp z.symm).symm⟩⟩
  · subst e e' e''; exact ⟨fun z => (n4.2.2.2.2.2.mpr z.2.symm).symm, fun z => ⟨rfl, (n4.2.2.2.2.2.mp z.symm).symm⟩⟩
  · subst e'; rw [e]; exact ⟨fun z => absurd z.1 (by decide), fun z => absurd z (n19 k hk)⟩
  · subst e' e''
    have e8 : va ≠ 108 ∧ va ≠ 103 ∧ va ≠ 22 ∧ va ≠ 23 := by
      unfold sgn at e
      rcases e with e | e | e | e | e | e | e | e | e | e | e | e | e <;> subst e <;> decide
    have ec : x ≠ 108 → x ≠ 103 → cmpK x = x := fun h1 h2 => by unfold cmpK; rw [if_neg h1, if_neg h2]
    constructor
    · intro z
      rw [ec (fun y => e8.1 (z.2.trans y)) (fun y => e8.2.1 (z.2.trans y))]
      exact z.2
    · intro z
      refine ⟨rfl, ?_⟩
      rw [ec (fun y => e8.2.2.1 (z.trans (n4.2.2.2.2.1.mpr y))) (fun y => e8.2.2.2 (z.trans (n4.2.2.2.2.2.mpr y)))] at z
      exact z
theorem kdR_K {kd so va nu x : Int32} {k : Nat} (h : kdR kd so va nu) (hk : k < 19) (hx : x = nI k) : (so = 2 ∧ va = x) ↔ kd = x := by
  subst hx
  have n4 : nI k ≠ 24 ∧ nI k ≠ 25 ∧ nI k ≠ 20 ∧ nI k ≠ 21 ∧ nI k ≠ 22 ∧ nI k ≠ 23 ∧ ¬ sgn (nI k) := by
    have : ∀ k, k < 19 → nI k ≠ 24 ∧ nI k ≠ 25 ∧ nI k ≠ 20 ∧ nI k ≠ 21 ∧ nI k ≠ 22 ∧ nI k ≠ 23 ∧ ¬ (nI k = 40 ∨ nI k = 41 ∨ nI k = 91 ∨ nI k = 93 ∨ nI k = 59 ∨ nI k = 44 ∨ nI k = 43 ∨ nI k = 45 ∨ nI k = 42 ∨ nI k = 47 ∨ nI k = 60 ∨ nI k = 62 ∨ nI k = 61) := by decide
    exact this k hk
  rcases h with ⟨e, e'⟩ | ⟨e, e'⟩ | ⟨e, e'⟩ | ⟨e, e', -⟩ | ⟨e, e', e''⟩ | ⟨e, e', e''⟩ | ⟨k', hk', e, e', e''⟩ | ⟨e, e', e''⟩
  · subst e e'; exact ⟨fun z => absurd z.1 (by decide), fun z => absurd z.symm n4.1⟩
  · subst e e'; exact ⟨fun z => absurd z.1 (by decide), fun z => absurd z.symm n4.2.1⟩
  · subst e e'; exact ⟨fun z => absurd z.1 (by decide), fun z => absurd z.symm n4.2.2.1⟩
  · subst e e'; exact ⟨fun z => absurd z.1 (by decide), fun z => absurd z.symm n4.2.2.2.1⟩
  · subst e e'; exact ⟨fun z => absurd z.1 (by decide), fun z => absurd z.symm n4.2.2.2.2.1⟩
  · subst e e'; exact ⟨fun z => absurd z.1 (by decide), fun z => absurd z.symm n4.2.2.2.2.2.1⟩
  · rw [e, e', e'']; exact ⟨fun z => z.2, fun z => ⟨rfl, z⟩⟩
  · subst e'; exact ⟨fun z => absurd z.1 (by decide), fun z => absurd e (by rw [z]; exact n4.2.2.2.2.2.2)⟩
theorem kdR_N {kd so va nu : Int32} (h : kdR kd so va nu) : (so = 1 ↔ kd = 20) ∧ (so = 3 ↔ kd = 21) ∧ (kd = 21 → va = nu) := by
  rcases h with ⟨e, e'⟩ | ⟨e, e'⟩ | ⟨e, e'⟩ | ⟨e, e', e''⟩ | ⟨e, e', -⟩ | ⟨e, e', -⟩ | ⟨k, hk, e, e', -⟩ | ⟨e, e', -⟩
  · subst e e'; exact ⟨by decide, by decide, fun z => absurd z (by decide)⟩
  · subst e e'; exact ⟨by decide, by decide, fun z => absurd z (by decide)⟩
  · subst e e'; exact ⟨by decide, by decide, fun z => absurd z (by decide)⟩
  · subst e e'; exact ⟨by decide, by decide, fun _ => e''⟩
  · subst e e'; exact ⟨by decide, by decide, fun z => absurd z (by decide)⟩
  · subst e e'; exact ⟨by decide, by decide, fun z => absurd z (by decide)⟩
  · subst e'
    have n1 : kd ≠ 20 := fun z => by rw [e] at z; have := (nI_eq (b := 20) (by omega) (by omega)).mp z; omega
    have n2 : kd ≠ 21 := fun z => by rw [e] at z; have := (nI_eq (b := 21) (by omega) (by omega)).mp z; omega
    exact ⟨⟨fun z => absurd z (by decide), fun z => absurd z n1⟩, ⟨fun z => absurd z (by decide), fun z => absurd z n2⟩, fun z => absurd z n2⟩
  · subst e'
    have n1 : kd ≠ 20 := fun z => by rw [z] at e; exact absurd e (by unfold sgn; decide)
    have n2 : kd ≠ 21 := fun z => by rw [z] at e; exact absurd e (by unfold sgn; decide)
    exact ⟨⟨fun z => absurd z (by decide), fun z => absurd z n1⟩, ⟨fun z => absurd z (by decide), fun z => absurd z n2⟩, fun z => absurd z n2⟩
theorem c_mis1 {d : Nat} (hd : 2 ≤ d) {B : pM} {J : pIm} {r td dr a : Nat} {x y : Int32} {K : Int32 → pM → Prop} (hq : mdS B r td dr) (h12 : J r 12 = nI a) (h14 : J r 14 = -1) (ha : a < 402) (h1 : (J (r + 2) a = x ∧ J (r + 3) a = y) → K 1 (pset B J)) (h0 : ¬ (J (r + 2) a = x ∧ J (r + 3) a = y) → K 0 (pset B J)) : pCall_i d mX13_is (0, 0) [.ref r, .int x, .int y] (pset B J) K := by
  refine CP_go (by omega) okX13_is (Nat.le_of_ble_eq_true rfl) ?_
  have e12 : pI (pset B J) r 12 = nI a := h12
  have va : vp_in (nI a) 402 := vp_inN ha (by omega)
  have ca : (nI a).toNatClampNeg = a := nI_clamp (by omega)
  refine bX13_is_0 ⟨hq.1, c_misOk1 (by omega) hq.1 h14 ⟨fun z => absurd z (by decide), fun _ => ⟨hq.1, r + 2, hq.2.1.2.1, hq.1, 402, hq.2.2.2.1.2.1, by rw [e12]; exact va, ?_⟩⟩⟩
  rw [e12, ca]
  refine ⟨fun g => ⟨hq.1, r + 3, hq.2.1.2.2.1, hq.1, 402, hq.2.2.2.1.2.2.1, va, ?_⟩, fun g => ⟨_, rfl, h0 (fun z => g z.1)⟩⟩
  exact ⟨fun g2 => ⟨_, rfl, h1 ⟨g, g2⟩⟩, fun g2 => ⟨_, rfl, h0 (fun z => g2 z.2)⟩⟩
theorem c_misS {d : Nat} (hd : 2 ≤ d) {B : pM} {J : pIm} {r td dr n0 a : Nat} {tp : List Int32} {t : tK} {x : Int32} {K : Int32 → pM → Prop} (hE : tkE B J r td dr tp t n0) (ha : a ≤ n0) (h12 : J r 12 = nI a) (h14 : J r 14 = -1) (hx : sgn x ∨ x = 108 ∨ x = 103) (h1 : kfT t a = cmpK x → K 1 (pset B J)) (h0 : kfT t a ≠ cmpK x → K 0 (pset B J)) : pCall_i d mX13_is (0, 0) [.ref r, .int 4, .int x] (pset B J) K := by
  have hk := kdR_S (kd_at hE ha) hx
  have h400 := hE.2.2.2.2.2.1
  exact c_mis1 hd hE.1 h12 h14 (by omega) (fun z => h1 (hk.mp z)) (fun z => h0 (fun y => z (hk.mpr y)))
theorem c_misK {d : Nat} (hd : 2 ≤ d) {B : pM} {J : pIm} {r td dr n0 a : Nat} {tp : List Int32} {t : tK} {x : Int32} {K : Int32 → pM → Prop} (k : Nat) (hE : tkE B J r td dr tp t n0) (ha : a ≤ n0) (h12 : J r 12 = nI a) (h14 : J r 14 = -1) (hk : k < 19) (hx : x = nI k) (h1 : kfT t a = x → K 1 (pset B J)) (h0 : kfT t a ≠ x → K 0 (pset B J)) : pCall_i d mX13_is (0, 0) [.ref r, .int 2, .int x] (pset B J) K := by
  have hk := kdR_K (kd_at hE ha) hk hx
  have h400 := hE.2.2.2.2.2.1
  exact c_mis1 hd hE.1 h12 h14 (by omega) (fun z => h1 (hk.mp z)) (fun z => h0 (fun y => z (hk.mpr y)))
theorem c_mtakeS {d : Nat} (hd : 3 ≤ d) {B : pM} {J : pIm} {r td dr n0 a : Nat} {tp : List Int32} {t : tK} {x : Int32} {K : pM → Prop} (hE : tkE B J r td dr tp t n0) (ha : a ≤ n0) (h12 : J r 12 = nI a) (h14 : J r 14 = -1) (hx : sgn x ∨ x = 108 ∨ x = 103) (h1 : kfT t a = cmpK x → K (pset B (u2 J r 12 (nI (a + 1))))) (h0 : kfT t a ≠ cmpK x → K (pset B (u2 J r 14 (nI a)))) : pCall_v d mX13_take (0, 0) [.ref r, .int 4, .int x] (pset B J) K := by
  refine CP_go (by omega) okX13_take (Nat.le_of_ble_eq_true rfl) ?_
  have hk := hE.1.1
  have e12 : pI (pset B J) r 12 = nI a := h12
  refine bX13_take_0 ⟨hk, c_misS (by omega) hE ha h12 h14 hx (fun z => ⟨fun y => absurd y (by decide), fun _ => ⟨hk, hk, rfl, ?_⟩⟩) (fun z => ⟨fun _ => ⟨hk, c_mfail1 (by omega) hk h14 ⟨rfl, ?_⟩⟩, fun y => absurd rfl y⟩)⟩
  · rw [e12, nI_1]; exact h1 z
  · rw [h12]; exact h0 z
theorem c_mtakeK {d : Nat} (hd : 3 ≤ d) {B : pM} {J : pIm} {r td dr n0 a : Nat} {tp : List Int32} {t : tK} {x : Int32} {K : pM → Prop} (k : Nat) (hE : tkE B J r td dr tp t n0) (ha : a ≤ n0) (h12 : J r 12 = nI a) (h14 : J r 14 = -1) (hk : k < 19) (hx : x = nI k) (h1 : kfT t a = x → K (pset B (u2 J r 12 (nI (a + 1))))) (h0 : kfT t a ≠ x → K (pset B (u2 J r 14 (nI a)))) : pCall_v d mX13_take (0, 0) [.ref r, .int 2, .int x] (pset B J) K := by
  refine CP_go (by omega) okX13_take (Nat.le_of_ble_eq_true rfl) ?_
  have hk1 := hE.1.1
  have e12 : pI (pset B J) r 12 = nI a := h12
  refine bX13_take_0 ⟨hk1, c_misK (by omega) k hE ha h12 h14 hk hx (fun z => ⟨fun y => absurd y (by decide), fun _ => ⟨hk1, hk1, rfl, ?_⟩⟩) (fun z => ⟨fun _ => ⟨hk1, c_mfail1 (by omega) hk1 h14 ⟨rfl, ?_⟩⟩, fun y => absurd rfl y⟩)⟩
  · rw [e12, nI_1]; exact h1 z
  · rw [h12]; exact h0 z
theorem c_mdeep {d : Nat} (hd : 2 ≤ d) {B : pM} {J : pIm} {r a dd : Nat} {K : pM → Prop} (hk : pK B r = (1, 13)) (h12 : J r 12 = nI a) (h13 : J r 13 = nI dd) (h14 : J r 14 = -1) (hdd : dd ≤ 8) (h1 : dd < 8 → K (pset B (u2 J r 13 (nI (dd + 1))))) (h0 : ¬ dd < 8 → K (pset B (u2 (u2 J r 14 (nI a)) r 13 (nI (dd + 1))))) : pCall_v d mX13_deeper (0, 0) [.ref r] (pset B J) K := by
  refine CP_go (by omega) okX13_deeper (Nat.le_of_ble_eq_true rfl) ?_
  have e13 : pI (pset B J) r 13 = nI dd := h13
  refine bX13_deeper_0 ⟨hk, ?_⟩
  rw [e13]
  refine ⟨fun g => ⟨hk, c_mfail1 (by omega) hk h14 (bX13_deeper_13 ⟨hk, hk, rfl, ?_⟩)⟩, fun g => bX13_deeper_13 ⟨hk, hk, rfl, ?_⟩⟩
  · have := (nI_eq (b := 8) (by omega) (by omega)).mp g
    have e : pI (pset B (u2 J r 14 (J r 12))) r 13 = nI dd := by
      show u2 J r 14 (J r 12) r 13 = _
      rw [u2_j (by decide)]; exact h13
    rw [e, nI_1, psI_set, h12]
    exact h0 (by omega)
  · have : dd ≠ 8 := fun z => g (by rw [z]; rfl)
    rw [e13, nI_1, psI_set]
    exact h1 (by omega)
theorem c_mtell1 {d : Nat} (hd : 1 ≤ d) {B : pM} {J : pIm} {r : Nat} {n x : Int32} {K : pM → Prop} (hk : pK B r = (1, 13)) (h15 : J r 15 = 0) (h : K (pset B (u2 (u2 J r 15 n) r 16 x))) : pCall_v d mX13_tell (0, 0) [.ref r, .int n, .int x] (pset B J) K := by
  refine CP_go hd okX13_tell (Nat.le_of_ble_eq_true rfl) ?_
  exact bX13_tell_0 ⟨hk, fun _ => bX13_tell_24 ⟨hk, hk, rfl, h⟩, fun z => absurd h15 z⟩
theorem c_mtell0 {d : Nat} (hd : 1 ≤ d) {B : pM} {J : pIm} {r : Nat} {n x : Int32} {K : pM → Prop} (hk : pK B r = (1, 13)) (h15 : ¬ J r 15 = 0) (h16 : J r 16 = x → ¬ n < J r 15) (h : K (pset B J)) : pCall_v d mX13_tell (0, 0) [.ref r, .int n, .int x] (pset B J) K := by
  refine CP_go hd okX13_tell (Nat.le_of_ble_eq_true rfl) ?_
  exact bX13_tell_0 ⟨hk, fun z => absurd z h15, fun _ => ⟨hk, fun g => ⟨hk, fun g2 => absurd g2 (h16 g), fun _ => ⟨rfl, h⟩⟩, fun _ => ⟨rfl, h⟩⟩⟩
theorem c_mname1 {d : Nat} (hd : 2 ≤ d) {B : pM} {J : pIm} {r td dr n0 a : Nat} {tp : List Int32} {t : tK} {K : Int32 → pM → Prop} (hE : tkE B J r td dr tp t n0) (ha : a ≤ n0) (h12 : J r 12 = nI a) (h14 : J r 14 = -1) (h1 : kfT t a = 20 → K (nI a) (pset B (u2 J r 12 (nI (a + 1))))) (h0 : kfT t a ≠ 20 → K 0 (pset B (u2 J r 14 (nI a)))) : pCall_i d mX13_name (0, 0) [.ref r] (pset B J) K := by
  refine CP_go (by omega) okX13_name (Nat.le_of_ble_eq_true rfl) ?_
  have hk := hE.1.1
  have h400 := hE.2.2.2.2.2.1
  have e12 : pI (pset B J) r 12 = nI a := h12
  have hN := (kdR_N (kd_at hE ha)).1
  have va : vp_in (nI a) 402 := vp_inN (by omega) (by omega)
  have ca : (nI a).toNatClampNeg = a := nI_clamp (by omega)
  have ek : pI (pset B J) (r + 2) a = J (r + 2) a := rfl
  refine bX13_name_0 ⟨hk, c_misOk1 (by omega) hk h14 ⟨fun z => absurd z (by decide), fun _ => ⟨hk, r + 2, hE.1.2.1.2.1, hk, 402, hE.1.2.2.2.1.2.1, by rw [e12]; exact va, ?_⟩⟩⟩
  rw [e12, ca, ek]
  refine ⟨fun g => ⟨hk, hk, hk, ?_⟩, fun g => bX13_name_37 ⟨hk, c_mfail1 (by omega) hk h14 ⟨_, rfl, ?_⟩⟩⟩
  · rw [nI_1, psI_set]
    have e : pI (pset B (u2 J r 12 (nI (a + 1)))) r 12 = nI (a + 1) := u2_same
    rw [e, nI_pred]
    exact ⟨_, rfl, h1 (hN.mp g)⟩
  · rw [h12]; exact h0 (fun z => g (hN.mpr z))
/-- the names of tags or words: their tokens -/
def nmV (t : tK) (n0 : Nat) (J : pIm) (q : Nat) (cnt : Int32) (mx : Nat) (N : List Nat) : Prop := cnt = nI N.length ∧ N.length ≤ mx ∧ ∀ k x, N[k]? = some x → J q k = nI x ∧ x ≤ n0 ∧ kfT t x = 20
theorem c_misSame {d : Nat} (hd : 1 ≤ d) {B : pM} {J : pIm} {r td dr n0 a c : Nat} {tp : List Int32} {t : tK} {K : Int32 → pM → Prop} (hE : tkE B J r td dr tp t n0) (ha : kfT t a = 20) (hc : kfT t c = 20) (h1 : spl tp t (nI a) = spl tp t (nI c) → K 1 (pset B J)) (h0 : ¬ spl tp t (nI a) = spl tp t (nI c) → K 0 (pset B J)) : pCall_i d mX13_isSame (0, 0) [.ref r, .int (nI a), .int (nI c)] (pset B J) K := by
  refine CP_go hd okX13_isSame (Nat.le_of_ble_eq_true rfl) ?_
  obtain ⟨hq, hl, hb, hT, hn, h400, hkm, p, hg⟩ := hE
  have h2000 := hl.2.1
  obtain ⟨a1, a2, a3, a4, a5⟩ := name_tok h2000 hb hg (by omega) ha
  obtain ⟨c1, c2, c3, c4, c5⟩ := name_tok h2000 hb hg (by omega) hc
  obtain ⟨qa1, qa2, qa3, -⟩ := hg.2.2.1 a a1
  obtain ⟨qc1, qc2, qc3, -⟩ := hg.2.2.1 c c1
  rw [a5, c5] at h1 h0
  have K1 := hq.2.2.2.1.1
  have K4 := hq.2.2.2.1.2.2.2.1
  have K5 := hq.2.2.2.1.2.2.2.2.1
  have p1 := hq.2.1.1
  have p6 := hq.2.1.2.2.2.1
  have p7 := hq.2.1.2.2.2.2.1
  have va : vp_in (nI a) 402 := vp_inN (by omega) (by omega)
  have vc : vp_in (nI c) 402 := vp_inN (by omega) (by omega)
  have ca : (nI a).toNatClampNeg = a := nI_clamp (by omega)
  have cc : (nI c).toNatClampNeg = c := nI_clamp (by omega)
  have ea5 : pI (pset B J) (r + 5) a = nI (lT tp t a) := hT.2.2.2.1 a _ qa3
  have ec5 : pI (pset B J) (r + 5) c = nI (lT tp t c) := hT.2.2.2.1 c _ qc3
  have ea4 : pI (pset B J) (r + 4) a = nI (sT t a) := hT.2.2.1 a _ qa1
  have ec4 : pI (pset B J) (r + 4) c = nI (sT t c) := hT.2.2.1 c _ qc1
  refine bX13_isSame_0 ⟨hq.1, r + 5, p7, 402, K5, va, hq.1, r + 5, p7, 402, K5, vc, ?_⟩
  rw [ca, cc, ea5, ec5]
  refine ⟨fun g => ?_, fun g => ⟨_, rfl, h0 (fun z => g ?_)⟩⟩
  · have el : lT tp t a = lT tp t c := (nI_eq (by omega) (by omega)).mp g
    have key : ∀ (m k : Nat), lT tp t a - k = m → k ≤ lT tp t a → (∀ j, j < k → (copyl tp (nI (sT t a)) (lT tp t a))[j]? = (copyl tp (nI (sT t c)) (lT tp t c))[j]?) → Go (d - 1) mX13_isSame (fun r M1 => ∃ v, r = .inl (some (.int v)) ∧ K v M1) 19 ([some (.ref r), some (.int (nI a)), some (.int (nI c)), some (.int (nI k))], [], 0, 0) (pset B J) := by
      intro m
      induction m with
      | zero =>
        intro k hm hk hs
        refine bX13_isSame_19 ⟨hq.1, r + 5, p7, 402, K5, va, ?_⟩
        rw [ca, ea5]
        refine ⟨fun _ => ⟨_, rfl, h1 ?_⟩, fun g2 => absurd (nI_le (by omega) (by omega)) g2⟩
        apply List.ext_getElem?
        intro j
        by_cases c : j < lT tp t a
        · exact hs j (by omega)
        · rw [List.getElem?_eq_none (by rw [copyl_len]; omega), List.getElem?_eq_none (by rw [copyl_len]; omega)]
      | succ m ih =>
        intro k hm hk hs
        refine bX13_isSame_19 ⟨hq.1, r + 5, p7, 402, K5, va, ?_⟩
        rw [ca, ea5]
        refine ⟨fun g2 => absurd ((nI_leI (by omega) (by omega)).mp g2) (by omega), fun _ => ⟨hq.1, r + 1, p1, hq.1, r + 4, p6, 402, K4, va, ?_⟩⟩
        rw [ea4]
        refine ⟨2000, K1, ?_, hq.1, r + 1, p1, hq.1, r + 4, p6, 402, K4, vc, ?_⟩
        · rw [nI_add]; exact vp_inN (by omega) (by omega)
        rw [cc, ec4]
        refine ⟨2000, K1, ?_, ?_⟩
        · rw [nI_add]; exact vp_inN (by omega) (by omega)
        rw [nI_add, nI_add, nI_clamp (show sT t a + k < 2 ^ 31 by omega), nI_clamp (show sT t c + k < 2 ^ 31 by omega), nI_1]
        have byt : ∀ i, i < tp.length → pI (pset B J) (r + 1) i = rat tp (nI i) := fun i hi => by
          have e := List.getElem?_eq_getElem hi
          rw [rat_in e (by omega)]
          exact hl.2.2 i _ e
        rw [byt _ (by omega), byt _ (by omega)]
        have e1 : (copyl tp (nI (sT t a)) (lT tp t a))[k]? = some (rat tp (nI (sT t a + k))) := copyl_at (by omega) (by omega)
        have e2 : (copyl tp (nI (sT t c)) (lT tp t c))[k]? = some (rat tp (nI (sT t c + k))) := copyl_at (by omega) (by omega)
        refine ⟨fun g3 => ih (k + 1) (by omega) (by omega) (fun j hj => ?_), fun g3 => ⟨_, rfl, h0 (fun z => g3 ?_)⟩⟩
        · by_cases c : j = k
          · subst c; rw [e1, e2, g3]
          · exact hs j (by omega)
        · rw [z, e2] at e1
          exact (Option.some.inj e1).symm
    exact key _ 0 rfl (by omega) (fun j hj => absurd hj (by omega))
  · have := congrArg List.length z
    rw [copyl_len, copyl_len] at this
    rw [this]
theorem c_mfind {d : Nat} (hd : 2 ≤ d) {B : pM} {J : pIm} {r td dr n0 a q mx : Nat} {tp : List Int32} {t : tK} {cnt : Int32} {N : List Nat} {K : Int32 → pM → Prop} (hE : tkE B J r td dr tp t n0) (hq : pK B q = (2, mx)) (hmx : mx ≤ 40) (hN : nmV t n0 J q cnt mx N) (ha : kfT t a = 20) (h : K (fidx (N.map (fun x => spl tp t (nI x))) (spl tp t (nI a)) 0) (pset B J)) : pCall_i d mX13_find (0, 0) [.ref r, .ref q, .int cnt, .int (nI a)] (pset B J) K := by
  refine CP_go (by omega) okX13_find (Nat.le_of_ble_eq_true rfl) ?_
  obtain ⟨n1, n2, n3⟩ := hN
  subst n1
  have key : ∀ (m k : Nat), N.length - k = m → k ≤ N.length → fidx (N.map (fun x => spl tp t (nI x))) (spl tp t (nI a)) 0 = fidx ((N.drop k).map (fun x => spl tp t (nI x))) (spl tp t (nI a)) k → Go (d - 1) mX13_find (fun r M1 => ∃ v, r = .inl (some (.int v)) ∧ K v M1) 3 ([some (.ref r), some (.ref q), some (.int (nI N.length)), some (.int (nI a)), some (.int (nI k))], [], 0, 0) (pset B J) := by
    intro m
    induction m with
    | zero =>
      intro k hm hk e
      refine bX13_find_3 ⟨fun _ => ⟨_, rfl, ?_⟩, fun g => absurd (nI_le (by omega) (by omega)) g⟩
      rw [List.drop_of_length_le (by omega)] at e
      rw [e] at h
      exact h
    | succ m ih =>
      intro k hm hk e
      have hkN : k < N.length := by omega
      have ek := List.getElem?_eq_getElem hkN
      obtain ⟨x1, x2, x3⟩ := n3 k _ ek
      have er : pI (pset B J) q k = nI N[k] := x1
      rw [List.drop_eq_getElem_cons hkN, List.map_cons, fidx] at e
      refine bX13_find_3 ⟨fun g => absurd ((nI_leI (by omega) (by omega)).mp g) (by omega), fun _ => ⟨mx, hq, vp_inN (by omega) (by omega), hE.1.1, ?_⟩⟩
      rw [nI_clamp (by omega), er, nI_1]
      refine c_misSame (by omega) hE x3 ha (fun z => ⟨fun y => absurd y (by decide), fun _ => ⟨_, rfl, ?_⟩⟩) (fun z => ⟨fun _ => ih (k + 1) (by omega) (by omega) ?_, fun y => absurd rfl y⟩)
      · rw [if_pos z] at e
        rw [e] at h
        exact h
      · rw [if_neg z] at e
        exact e
  exact bX13_find_0 (key _ 0 rfl (by omega) rfl)
/-- known: a name that is told, or error 3 -/
theorem c_mknown1 {d : Nat} (hd : 3 ≤ d) {B : pM} {J : pIm} {r td dr n0 a q mx : Nat} {tp : List Int32} {t : tK} {cnt er et : Int32} {N : List Nat} {K : Int32 → pM → Prop} (hE : tkE B J r td dr tp t n0) (hq : pK B q = (2, mx)) (hmx : mx ≤ 40) (hqr : q ≠ r) (hN : nmV t n0 J q cnt mx N) (ha : a ≤ n0) (h12 : J r 12 = nI a) (h14 : J r 14 = -1) (h15 : J r 15 = er) (h16 : J r 16 = et)
    (h1 : kfT t a = 20 → fidx (N.map (fun x => spl tp t (nI x))) (spl tp t (nI a)) 0 ≠ -1 → K (fidx (N.map (fun x => spl tp t (nI x))) (spl tp t (nI a)) 0) (pset B (u2 J r 12 (nI (a + 1)))))
    (h2 : kfT t a = 20 → fidx (N.map (fun x => spl tp t (nI x))) (spl tp t (nI a)) 0 = -1 → er = 0 → K (-1) (pset B (u2 (u2 (u2 J r 12 (nI (a + 1))) r 15 3) r 16 (nI a))))
    (h3 : kfT t a = 20 → fidx (N.map (fun x => spl tp t (nI x))) (spl tp t (nI a)) 0 = -1 → er ≠ 0 → K (-1) (pset B (u2 J r 12 (nI (a + 1)))))
    (het : er ≠ 0 → et ≠ nI a)
    (h0 : kfT t a ≠ 20 → K 0 (pset B (u2 J r 14 (nI a)))) : pCall_i d mX13_known (0, 0) [.ref r, .ref q, .int cnt] (pset B J) K := by
  refine CP_go (by omega) okX13_known (Nat.le_of_ble_eq_true rfl) ?_
  have hk := hE.1.1
  have h400 := hE.2.2.2.2.2.1
  have hne : dr ≠ r := by have := hE.1.lay; omega
  refine bX13_known_0 ⟨hk, c_mname1 (by omega) hE ha h12 h14 (fun hn => ⟨hk, c_misOk1 (by omega) hk (by rw [u2_j (by decide)]; exact h14) ⟨fun z => absurd z (by decide), fun _ => ⟨hk, ?_⟩⟩⟩) (fun hn => ⟨hk, c_misOk0 (by omega) hk (by rw [u2_same]; exact fun z => nI_pos (n := a) (by omega) (by rw [z]; decide)) ⟨fun _ => ⟨_, rfl, h0 hn⟩, fun z => absurd rfl z⟩⟩)⟩
  have F : FrX r dr J (u2 J r 12 (nI (a + 1))) := (FrV.u hne (by omega)).x
  have N' : nmV t n0 (u2 J r 12 (nI (a + 1))) q cnt mx N := ⟨hN.1, hN.2.1, fun k x hx => by rw [u2_a hqr]; exact hN.2.2 k x hx⟩
  refine c_mfind (by omega) (hE.f F) hq hmx N' hn ⟨fun g => ⟨hk, ?_⟩, fun g => ⟨_, rfl, h1 hn g⟩⟩
  by_cases c : er = 0
  · refine c_mtell1 (by omega) hk (by rw [u2_j (by decide)]; exact h15.trans c) ⟨_, rfl, ?_⟩
    rw [g]
    exact h2 hn g c
  · refine c_mtell0 (by omega) hk (by rw [u2_j (by decide), h15]; exact c) (fun z => ?_) ⟨_, rfl, ?_⟩
    · rw [u2_j (by decide), h16] at z
      exact absurd z (het c)
    · rw [g]
      exact h3 hn g c
