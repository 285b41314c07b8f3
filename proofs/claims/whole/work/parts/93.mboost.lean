/-! THE REFERENCE'S PARSER: boosts -/
def bzE (Q : pR → pM → Prop) (r : Nat) (v1 v2 v3 : Int32) (M5 : pM) : Prop := pK M5 r = (1, 13) ∧ ∃ b3 : Nat, pP M5 r 9 = b3 + 1 ∧ pK M5 b3 = (1, 12) ∧ (((pI M5 b3 3) = 12 → Q (.inl none) M5) ∧ (¬ (pI M5 b3 3) = 12 → pK M5 r = (1, 13) ∧ ∃ b4 : Nat, pP M5 r 9 = b4 + 1 ∧ pK M5 b4 = (1, 12) ∧ ∃ b5 : Nat, pP M5 b4 9 = b5 + 1 ∧ pK M5 r = (1, 13) ∧ ∃ b6 : Nat, pP M5 r 9 = b6 + 1 ∧ pK M5 b6 = (1, 12) ∧ ∃ n1 : Nat, pK M5 b5 = (2, n1) ∧ vp_in (3 * (pI M5 b6 3)) n1 ∧ pK (psI M5 b5 (Int32.toNatClampNeg (3 * (pI M5 b6 3))) v1) r = (1, 13) ∧ ∃ b7 : Nat, pP (psI M5 b5 (Int32.toNatClampNeg (3 * (pI M5 b6 3))) v1) r 9 = b7 + 1 ∧ pK (psI M5 b5 (Int32.toNatClampNeg (3 * (pI M5 b6 3))) v1) b7 = (1, 12) ∧ ∃ b8 : Nat, pP (psI M5 b5 (Int32.toNatClampNeg (3 * (pI M5 b6 3))) v1) b7 9 = b8 + 1 ∧ pK (psI M5 b5 (Int32.toNatClampNeg (3 * (pI M5 b6 3))) v1) r = (1, 13) ∧ ∃ b9 : Nat, pP (psI M5 b5 (Int32.toNatClampNeg (3 * (pI M5 b6 3))) v1) r 9 = b9 + 1 ∧ pK (psI M5 b5 (Int32.toNatClampNeg (3 * (pI M5 b6 3))) v1) b9 = (1, 12) ∧ ∃ n2 : Nat, pK (psI M5 b5 (Int32.toNatClampNeg (3 * (pI M5 b6 3))) v1) b8 = (2, n2) ∧ vp_in ((3 * (pI (psI M5 b5 (Int32.toNatClampNeg (3 * (pI M5 b6 3))) v1) b9 3)) + 1) n2 ∧ pK (psI (psI M5 b5 (Int32.toNatClampNeg (3 * (pI M5 b6 3))) v1) b8 (Int32.toNatClampNeg ((3 * (pI (psI M5 b5 (Int32.toNatClampNeg (3 * (pI M5 b6 3))) v1) b9 3)) + 1)) v2) r = (1, 13) ∧ ∃ b10 : Nat, pP (psI (psI M5 b5 (Int32.toNatClampNeg (3 * (pI M5 b6 3))) v1) b8 (Int32.toNatClampNeg ((3 * (pI (psI M5 b5 (Int32.toNatClampNeg (3 * (pI M5 b6 3))) v1) b9 3)) + 1)) v2) r 9 = b10 + 1 ∧ pK (psI (psI M5 b5 (Int32.toNatClampNeg (3 * (pI M5 b6 3))) v1) b8 (Int32.toNatClampNeg ((3 * (pI (psI M5 b5 (Int32.toNatClampNeg (3 * (pI M5 b6 3))) v1) b9 3)) + 1)) v2) b10 = (1, 12) ∧ ∃ b11 : Nat, pP (psI (psI M5 b5 (Int32.toNatClampNeg (3 * (pI M5 b6 3))) v1) b8 (Int32.toNatClampNeg ((3 * (pI (psI M5 b5 (Int32.toNatClampNeg (3 * (pI M5 b6 3))) v1) b9 3)) + 1)) v2) b10 9 = b11 + 1 ∧ pK (psI (psI M5 b5 (Int32.toNatClampNeg (3 * (pI M5 b6 3))) v1) b8 (Int32.toNatClampNeg ((3 * (pI (psI M5 b5 (Int32.toNatClampNeg (3 * (pI M5 b6 3))) v1) b9 3)) + 1)) v2) r = (1, 13) ∧ ∃ b12 : Nat, pP (psI (psI M5 b5 (Int32.toNatClampNeg (3 * (pI M5 b6 3))) v1) b8 (Int32.toNatClampNeg ((3 * (pI (psI M5 b5 (Int32.toNatClampNeg (3 * (pI M5 b6 3))) v1) b9 3)) + 1)) v2) r 9 = b12 + 1 ∧ pK (psI (psI M5 b5 (Int32.toNatClampNeg (3 * (pI M5 b6 3))) v1) b8 (Int32.toNatClampNeg ((3 * (pI (psI M5 b5 (Int32.toNatClampNeg (3 * (pI M5 b6 3))) v1) b9 3)) + 1)) v2) b12 = (1, 12) ∧ ∃ n3 : Nat, pK (psI (psI M5 b5 (Int32.toNatClampNeg (3 * (pI M5 b6 3))) v1) b8 (Int32.toNatClampNeg ((3 * (pI (psI M5 b5 (Int32.toNatClampNeg (3 * (pI M5 b6 3))) v1) b9 3)) + 1)) v2) b11 = (2, n3) ∧ vp_in ((3 * (pI (psI (psI M5 b5 (Int32.toNatClampNeg (3 * (pI M5 b6 3))) v1) b8 (Int32.toNatClampNeg ((3 * (pI (psI M5 b5 (Int32.toNatClampNeg (3 * (pI M5 b6 3))) v1) b9 3)) + 1)) v2) b12 3)) + 2) n3 ∧ pK (psI (psI (psI M5 b5 (Int32.toNatClampNeg (3 * (pI M5 b6 3))) v1) b8 (Int32.toNatClampNeg ((3 * (pI (psI M5 b5 (Int32.toNatClampNeg (3 * (pI M5 b6 3))) v1) b9 3)) + 1)) v2) b11 (Int32.toNatClampNeg ((3 * (pI (psI (psI M5 b5 (Int32.toNatClampNeg (3 * (pI M5 b6 3))) v1) b8 (Int32.toNatClampNeg ((3 * (pI (psI M5 b5 (Int32.toNatClampNeg (3 * (pI M5 b6 3))) v1) b9 3)) + 1)) v2) b12 3)) + 2)) v3) r = (1, 13) ∧ ∃ b13 : Nat, pP (psI (psI (psI M5 b5 (Int32.toNatClampNeg (3 * (pI M5 b6 3))) v1) b8 (Int32.toNatClampNeg ((3 * (pI (psI M5 b5 (Int32.toNatClampNeg (3 * (pI M5 b6 3))) v1) b9 3)) + 1)) v2) b11 (Int32.toNatClampNeg ((3 * (pI (psI (psI M5 b5 (Int32.toNatClampNeg (3 * (pI M5 b6 3))) v1) b8 (Int32.toNatClampNeg ((3 * (pI (psI M5 b5 (Int32.toNatClampNeg (3 * (pI M5 b6 3))) v1) b9 3)) + 1)) v2) b12 3)) + 2)) v3) r 9 = b13 + 1 ∧ pK (psI (psI (psI M5 b5 (Int32.toNatClampNeg (3 * (pI M5 b6 3))) v1) b8 (Int32.toNatClampNeg ((3 * (pI (psI M5 b5 (Int32.toNatClampNeg (3 * (pI M5 b6 3))) v1) b9 3)) + 1)) v2) b11 (Int32.toNatClampNeg ((3 * (pI (psI (psI M5 b5 (Int32.toNatClampNeg (3 * (pI M5 b6 3))) v1) b8 (Int32.toNatClampNeg ((3 * (pI (psI M5 b5 (Int32.toNatClampNeg (3 * (pI M5 b6 3))) v1) b9 3)) + 1)) v2) b12 3)) + 2)) v3) b13 = (1, 12) ∧ pK (psI (psI (psI M5 b5 (Int32.toNatClampNeg (3 * (pI M5 b6 3))) v1) b8 (Int32.toNatClampNeg ((3 * (pI (psI M5 b5 (Int32.toNatClampNeg (3 * (pI M5 b6 3))) v1) b9 3)) + 1)) v2) b11 (Int32.toNatClampNeg ((3 * (pI (psI (psI M5 b5 (Int32.toNatClampNeg (3 * (pI M5 b6 3))) v1) b8 (Int32.toNatClampNeg ((3 * (pI (psI M5 b5 (Int32.toNatClampNeg (3 * (pI M5 b6 3))) v1) b9 3)) + 1)) v2) b12 3)) + 2)) v3) b13 = (1, 12) ∧ Q (.inl none) (psI (psI (psI (psI M5 b5 (Int32.toNatClampNeg (3 * (pI M5 b6 3))) v1) b8 (Int32.toNatClampNeg ((3 * (pI (psI M5 b5 (Int32.toNatClampNeg (3 * (pI M5 b6 3))) v1) b9 3)) + 1)) v2) b11 (Int32.toNatClampNeg ((3 * (pI (psI (psI M5 b5 (Int32.toNatClampNeg (3 * (pI M5 b6 3))) v1) b8 (Int32.toNatClampNeg ((3 * (pI (psI M5 b5 (Int32.toNatClampNeg (3 * (pI M5 b6 3))) v1) b9 3)) + 1)) v2) b12 3)) + 2)) v3) b13 3 ((pI (psI (psI (psI M5 b5 (Int32.toNatClampNeg (3 * (pI M5 b6 3))) v1) b8 (Int32.toNatClampNeg ((3 * (pI (psI M5 b5 (Int32.toNatClampNeg (3 * (pI M5 b6 3))) v1) b9 3)) + 1)) v2) b11 (Int32.toNatClampNeg ((3 * (pI (psI (psI M5 b5 (Int32.toNatClampNeg (3 * (pI M5 b6 3))) v1) b8 (Int32.toNatClampNeg ((3 * (pI (psI M5 b5 (Int32.toNatClampNeg (3 * (pI M5 b6 3))) v1) b9 3)) + 1)) v2) b12 3)) + 2)) v3) b13 3) + 1))))
def bzT (d : Nat) (Q : pR → pM → Prop) (r : Nat) (v1 v2 : Int32) (M4 : pM) : Prop := pK M4 r = (1, 13) ∧ pCall_i d mX13_test (0, 0) [.ref r] M4 (fun v3 M5 => bzE Q r v1 v2 v3 M5)
def bzW (d : Nat) (Q : pR → pM → Prop) (r : Nat) (v1 v2 : Int32) (M3 : pM) : Prop := pK M3 r = (1, 13) ∧ pCall_v d mX13_take (0, 0) [.ref r, .int 2, .int 7] M3 (fun M4 => bzT d Q r v1 v2 M4)
def bzS (d : Nat) (Q : pR → pM → Prop) (r : Nat) (v1 : Int32) (M2 : pM) : Prop := pK M2 r = (1, 13) ∧ pCall_i d mX13_sum (0, 0) [.ref r] M2 (fun v2 M3 => bzW d Q r v1 v2 M3)
def bzB (d : Nat) (Q : pR → pM → Prop) (r : Nat) (v1 : Int32) (M1 : pM) : Prop := pK M1 r = (1, 13) ∧ pCall_v d mX13_take (0, 0) [.ref r, .int 2, .int 6] M1 (fun M2 => bzS d Q r v1 M2)
def bzJ (J : pIm) (dr nb : Nat) (v1 v2 v3 : Int32) : pIm := u2 (u2 (u2 (u2 J (dr + 6) (3 * nb) v1) (dr + 6) (3 * nb + 1) v2) (dr + 6) (3 * nb + 2) v3) dr 3 (nI (nb + 1))
theorem boost_end {B : pM} {J : pIm} {r td dr nb : Nat} {v1 v2 v3 : Int32} {Q : pR → pM → Prop} (hq : mdS B r td dr) (h3 : J dr 3 = nI nb) (hb : nb ≤ 12) (h1 : nb = 12 → Q (.inl none) (pset B J)) (h2 : nb < 12 → Q (.inl none) (pset B (bzJ J dr nb v1 v2 v3))) : bzE Q r v1 v2 v3 (pset B J) := by
  have sb := hq.2.2.2.2.2.1
  have p9 := hq.2.1.2.2.2.2.2.2
  have p6 := sb.2.1.2.2.2.2.2.1
  have k6 := sb.2.2.2.2.2.2.2.1
  have e3 : pI (pset B J) dr 3 = nI nb := h3
  have em : (3 : Int32) * nI nb = nI (3 * nb) := nI_mul 3 _
  unfold bzE
  refine ⟨hq.1, dr, p9, sb.1, fun g => h1 ?_, fun g => ⟨hq.1, dr, p9, sb.1, dr + 6, p6, hq.1, dr, p9, sb.1, ?_⟩⟩
  · rw [e3] at g
    exact (nI_eq (b := 12) (by omega) (by omega)).mp g
  have hlt : nb < 12 := by
    have : nb ≠ 12 := fun z => g (by rw [e3, z]; rfl)
    omega
  rw [e3, em, nI_clamp (show 3 * nb < 2 ^ 31 by omega), psI_set]
  refine ⟨36, k6, vp_inN (by omega) (by omega), hq.1, dr, p9, sb.1, dr + 6, p6, hq.1, dr, p9, sb.1, ?_⟩
  have e4 : pI (pset B (u2 J (dr + 6) (3 * nb) v1)) dr 3 = nI nb := by
    show u2 J (dr + 6) _ _ dr 3 = _
    rw [u2_a (by omega)]; exact h3
  have e5' : nI (3 * nb) + 1 = nI (3 * nb + 1) := nI_1 _
  rw [e4, em, e5', nI_clamp (show 3 * nb + 1 < 2 ^ 31 by omega), psI_set]
  refine ⟨36, k6, vp_inN (by omega) (by omega), hq.1, dr, p9, sb.1, dr + 6, p6, hq.1, dr, p9, sb.1, ?_⟩
  have e5 : pI (pset B (u2 (u2 J (dr + 6) (3 * nb) v1) (dr + 6) (3 * nb + 1) v2)) dr 3 = nI nb := by
    show u2 (u2 J (dr + 6) _ _) (dr + 6) _ _ dr 3 = _
    rw [u2_a (by omega), u2_a (by omega)]; exact h3
  have e6' : nI (3 * nb) + 2 = nI (3 * nb + 2) := nI_add _ 2
  rw [e5, em, e6', nI_clamp (show 3 * nb + 2 < 2 ^ 31 by omega), psI_set]
  refine ⟨36, k6, vp_inN (by omega) (by omega), hq.1, dr, p9, sb.1, sb.1, ?_⟩
  have e6 : pI (pset B (u2 (u2 (u2 J (dr + 6) (3 * nb) v1) (dr + 6) (3 * nb + 1) v2) (dr + 6) (3 * nb + 2) v3)) dr 3 = nI nb := by
    show u2 (u2 (u2 J (dr + 6) _ _) (dr + 6) _ _) (dr + 6) _ _ dr 3 = _
    rw [u2_a (by omega), u2_a (by omega), u2_a (by omega)]; exact h3
  rw [e6, nI_1, psI_set]
  exact h2 hlt
theorem bz_fr {J : pIm} {r td dr nb : Nat} {v1 v2 v3 : Int32} {B : pM} (hq : mdS B r td dr) : FrX r dr J (bzJ J dr nb v1 v2 v3) ∧ bzJ J dr nb v1 v2 v3 r = J r := by
  have hy := hq.lay
  have hr : bzJ J dr nb v1 v2 v3 r = J r := by
    unfold bzJ
    rw [u2_a (by omega), u2_a (by omega), u2_a (by omega), u2_a (by omega)]
  refine ⟨⟨fun y h1 h2 h3 h4 => ?_, fun f _ _ _ _ _ => by rw [hr]⟩, hr⟩
  unfold bzJ
  rw [u2_a (by omega), u2_a (by omega), u2_a (by omega), u2_a (by omega)]
theorem bz_dE {B : pM} {J : pIm} {r td dr nb : Nat} {v1 v2 v3 : Int32} {Q : pR → pM → Prop} (hq : mdS B r td dr) (h3 : J dr 3 = nI nb) (hb : nb ≤ 12) (hK : ∀ J', FrX r dr J J' → J' r = J r → Q (.inl none) (pset B J')) : bzE Q r v1 v2 v3 (pset B J) := boost_end hq h3 hb (fun _ => hK J FrX.rf rfl) (fun _ => hK _ (bz_fr hq).1 (bz_fr hq).2)
theorem bz_dT {d : Nat} (hd : 7 ≤ d) {B : pM} {J : pIm} {r td dr nb : Nat} {v1 v2 : Int32} {Q : pR → pM → Prop} (hq : mdS B r td dr) (h14 : ¬ J r 14 = -1) (h3 : J dr 3 = nI nb) (hb : nb ≤ 12) (hK : ∀ J', FrX r dr J J' → J' r = J r → Q (.inl none) (pset B J')) : bzT d Q r v1 v2 (pset B J) := ⟨hq.1, c_mtest0 hd hq.1 h14 (bz_dE hq h3 hb hK)⟩
theorem bz_dW {d : Nat} (hd : 7 ≤ d) {B : pM} {J : pIm} {r td dr nb : Nat} {v1 v2 : Int32} {Q : pR → pM → Prop} (hq : mdS B r td dr) (h14 : ¬ J r 14 = -1) (h3 : J dr 3 = nI nb) (hb : nb ≤ 12) (hK : ∀ J', FrX r dr J J' → J' r = J r → Q (.inl none) (pset B J')) : bzW d Q r v1 v2 (pset B J) := ⟨hq.1, c_mtake0 (by omega) hq.1 h14 (bz_dT hd hq h14 h3 hb hK)⟩
theorem bz_dS {d : Nat} (hd : 7 ≤ d) {B : pM} {J : pIm} {r td dr nb : Nat} {v1 : Int32} {Q : pR → pM → Prop} (hq : mdS B r td dr) (h14 : ¬ J r 14 = -1) (h3 : J dr 3 = nI nb) (hb : nb ≤ 12) (hK : ∀ J', FrX r dr J J' → J' r = J r → Q (.inl none) (pset B J')) : bzS d Q r v1 (pset B J) := ⟨hq.1, c_msum0 (by omega) hq.1 h14 (bz_dW hd hq h14 h3 hb hK)⟩
theorem bz_dB {d : Nat} (hd : 7 ≤ d) {B : pM} {J : pIm} {r td dr nb : Nat} {v1 : Int32} {Q : pR → pM → Prop} (hq : mdS B r td dr) (h14 : ¬ J r 14 = -1) (h3 : J dr 3 = nI nb) (hb : nb ≤ 12) (hK : ∀ J', FrX r dr J J' → J' r = J r → Q (.inl none) (pset B J')) : bzB d Q r v1 (pset B J) := ⟨hq.1, c_mtake0 (by omega) hq.1 h14 (bz_dS hd hq h14 h3 hb hK)⟩
/-- a value has been read: the line's state goes on -/
theorem lSx.val {B : pM} {r td dr n0 a a2 nn tx nn' tx' : Nat} {tp : List Int32} {t : tK} {b0 : bK} {I J : pIm} {er et er' et' : Int32} {NT NW : List Nat} {nr nb : Nat} (h : lSx B r td dr tp t n0 b0 I a nn tx er et NT NW nr nb) (f : FrV r dr I J) (p : pT J r dr tp t n0 a2 0 er' et' nn' tx') (e : eT (sF t tp b0 a2) a2 er' et') : lSx B r td dr tp t n0 b0 J a2 nn' tx' er' et' NT NW nr nb := by
  obtain ⟨h1, -, -, h4, h5, h6, h7⟩ := h
  have hy := h1.1.lay
  exact ⟨h1.f f.x, p, e, h4.cg (f.2.2 0 (by decide) (by decide)) (f.1 _ (by omega) (by omega) (by omega)), h5.cg (f.2.2 1 (by decide) (by decide)) (f.1 _ (by omega) (by omega) (by omega)), by rw [f.2.2 2 (by decide) (by decide)]; exact h6, by rw [f.2.2 3 (by decide) (by decide)]; exact h7⟩
theorem lSx.vIn {B : pM} {r td dr n0 a nn tx : Nat} {tp : List Int32} {t : tK} {b0 : bK} {I : pIm} {er et : Int32} {NT NW : List Nat} {nr nb : Nat} (h : lSx B r td dr tp t n0 b0 I a nn tx er et NT NW nr nb) (hn : (sF t tp b0 a).1 = 0 → NW.map (fun x => spl tp t (nI x)) = (sF t tp b0 a).2.2.1.2.1) : vIn B I r td dr tp t n0 b0 NW a 0 er et nn tx := ⟨h.1, h.2.1, h.2.2.1, h.2.2.2.2.1, hn⟩
theorem v_boost {B : pM} {r td dr n0 a nn tx d : Nat} {tp : List Int32} {t : tK} {b0 : bK} {I : pIm} {er et : Int32} {NT NW : List Nat} {nr nb : Nat} {L : List (List (Int32 × Int32) × List (Int32 × Int32))} {ok : Bool} {a' n : Nat} {l : List (List (Int32 × Int32) × List (Int32 × Int32))} {K : pM → Prop} (hd : 100 ≤ d) (hv : lSx B r td dr tp t n0 b0 I a nn tx er et NT NW nr nb) (hS : (sF t tp b0 a).1 = 0 → lSem t tp b0 I dr (sF t tp b0 a).2.2.1 NT NW nr nb nn tx L) (hk : kfT t a = 5) (h : gBoost (kfT t) (nmT tp t) n a = some (ok, a', l)) (ho : lOut B r td dr tp t n0 b0 I L ok a' l K) : pCall_v d mX13_readBoost (0, 0) [.ref r] (pset B I) K := by
  have hq := hv.1.1
  have hy := hq.lay
  have hyd : dr = r + 6 ∨ dr = r + 17 := by omega
  have hne : dr ≠ r := by omega
  have sb := hq.2.2.2.2.2.1
  have h400 := hv.1.2.2.2.2.2.1
  have hkm := hv.1.2.2.2.2.2.2.1
  have hgeo := hv.1.2.2.2.2.2.2.2
  have htl := hv.1.2.2.2.2.1
  have K28 := hq.2.2.2.1.2.2.2.2.2.1
  have p9 := hq.2.1.2.2.2.2.2.2
  have p10 := hq.2.2.1.1
  have mono : ∀ j, j < n0 → sT t j ≤ sT t (j + 1) := fun j hj => by
    have := sT_mono hgeo htl hj
    omega
  have hlt : a < n0 := hkm.lt hk (by decide) (by decide) (by decide)
  obtain ⟨hE, pt, et1, hT, hW, hR, hB⟩ := id hv
  obtain ⟨t1, t2, t3, t4, t5, t6, t7, t8, t9, t10, t11⟩ := id pt
  have hNT6 : NT.length ≤ 6 := hT.2.1
  have er0 := (eT_er et1).1
  have etn : er ≠ 0 → et ≠ nI a := (eT_er et1).2 (by omega)
  have lk0 : lkAt t tp a (sF t tp b0 a).2.2.1 (sF t tp b0 a).2.2.2 = (if (sF t tp b0 a).2.2.1.2.2.2.2.2.1.length < 12 then 0 else 4, (sF t tp b0 a).2.2.1, (sF t tp b0 a).2.2.2) := by
    unfold lkAt
    rw [show rat t.1 (nI a) = 5 from (rat_nI (by omega)).trans hk, if_pos rfl]
  unfold gBoost at h
  rw [if_pos hk] at h
  have e3I : pI (pset B I) dr 3 = nI nb := hB.1
  have key : ∀ J0 : pIm, (∀ y, y ≠ r → J0 y = I y) → (∀ f, f ≠ 15 → f ≠ 16 → J0 r f = I r f) → (er = 0 → J0 r 15 = if nb < 12 then 0 else 4) → (er = 0 → J0 r 15 ≠ 0 → J0 r 16 = nI a) → (er ≠ 0 → J0 r 15 = er ∧ J0 r 16 = et) → Go (d - 1) mX13_readBoost (fun r M1 => r = .inl none ∧ K M1) 21 ([some (.ref r), none, none, none], [], 0, 0) (pset B J0) := by
    intro J0 q1 q2 q3 q4 q5
    have eE1 : eT (sF t tp b0 (a + 1)) (a + 1) (J0 r 15) (J0 r 16) := by
      refine eT_step et1 (fun z => ?_) q5
      have e0 := er0.mpr z
      rw [lk0, ← (hS z).1.2.2.2]
      exact ⟨q3 e0, q4 e0⟩
    have S1 : (sF t tp b0 (a + 1)).1 = 0 → (sF t tp b0 a).1 = 0 ∧ nb < 12 ∧ (sF t tp b0 (a + 1)).2.2.1 = (sF t tp b0 a).2.2.1 := by
      intro z
      have z0 := sF_err z
      obtain ⟨o1, o2⟩ := sF_ok z
      rw [lk0] at o1 o2
      refine ⟨z0, ?_, congrArg Prod.fst o2⟩
      rw [← (hS z0).1.2.2.2] at o1
      refine Decidable.not_not.mp (fun y => ?_)
      rw [if_neg y] at o1
      exact absurd (show (4 : Int32) = 0 from o1) (by decide)
    obtain ⟨hv1, F1⟩ := hv.on (J := u2 J0 r 12 (nI (a + 1))) (er' := J0 r 15) (et' := J0 r 16) (fun y hy => (u2_a hy).trans (q1 y hy)) (fun f f1 f2 f3 => (u2_j f1).trans (q2 f f2 f3)) u2_same (u2_j (by decide)) (u2_j (by decide)) (show a ≤ a + 1 by omega) (by omega) (mono a hlt) eE1
    have j1 : ∀ y, y ≠ r → u2 J0 r 12 (nI (a + 1)) y = I y := fun y hy => (u2_a hy).trans (q1 y hy)
    have f12 : pI (pset B J0) r 12 = nI a := (q2 12 (by decide) (by decide)).trans t1
    obtain ⟨hE1, pt1, ee1, hT1, hW1, hR1, hB1⟩ := id hv1
    obtain ⟨x1, x2, x3, x4, x5, x6, x7, x8, x9, x10, x11⟩ := id pt1
    -- behind a failure
    have dead : ∀ (J J' : pIm) (f : Nat), FrX r dr I J → J r 14 = nI f → f ≤ 400 → ok = false → a' = f → FrX r dr J J' → J' r = J r → K (pset B J') := by
      intro J J' f F h14 hf eo ea F' hr
      subst eo ea
      exact ho J' (F.tr F') (by rw [hr]; exact h14) hf
    have no14 : ∀ (J : pIm) (f : Nat), J r 14 = nI f → f ≤ 400 → ¬ J r 14 = -1 := fun J f e hf z => nI_pos (n := f) (by omega) (by rw [← e, z]; decide)
    have lk1 : kfT t (a + 1) = 20 → lkAt t tp (a + 1) (sF t tp b0 (a + 1)).2.2.1 (sF t tp b0 (a + 1)).2.2.2 = (if 0 ≤ fidx (sF t tp b0 (a + 1)).2.2.1.1 (spl tp t (nI (a + 1))) 0 then 0 else 3, ((sF t tp b0 (a + 1)).2.2.1.1, (sF t tp b0 (a + 1)).2.2.1.2.1, (sF t tp b0 (a + 1)).2.2.1.2.2.1, (sF t tp b0 (a + 1)).2.2.1.2.2.2.1, (sF t tp b0 (a + 1)).2.2.1.2.2.2.2.1, (pushL 12 (sF t tp b0 (a + 1)).2.2.1.2.2.2.2.2.1 (fidx (sF t tp b0 (a + 1)).2.2.1.1 (spl tp t (nI (a + 1))) 0), (sF t tp b0 (a + 1)).2.2.1.2.2.2.2.2.2)), (sF t tp b0 (a + 1)).2.2.2) := by
      intro h20
      rw [lk_name (by omega) h20, hk]
      unfold lkName
      rw [if_neg (by decide), if_neg (by decide), if_neg (by decide), if_neg (by decide), if_pos rfl]
    have tagsE : (sF t tp b0 (a + 1)).1 = 0 → fidx (NT.map (fun x => spl tp t (nI x))) (spl tp t (nI (a + 1))) 0 = fidx (sF t tp b0 (a + 1)).2.2.1.1 (spl tp t (nI (a + 1))) 0 := by
      intro z
      obtain ⟨z0, -, eb⟩ := S1 z
      rw [eb, (hS z0).1.1]
    have hn28 : (NT.map (fun x => spl tp t (nI x))).length < 1000 := by rw [List.length_map]; omega
    -- from the name on
    have cont : ∀ (J : pIm) (w er2 et2 : Int32), (∀ y, y ≠ r → J y = I y) → FrX r dr I J → lSx B r td dr tp t n0 b0 J (a + 2) nn tx er2 et2 NT NW nr nb → kfT t (a + 1) = 20 → w = fidx (NT.map (fun x => spl tp t (nI x))) (spl tp t (nI (a + 1))) 0 → bzB (d - 1) (fun r M1 => r = .inl none ∧ K M1) r w (pset B J) := by
      intro J w er2 et2 jI FJ hv2 h20 hw
      rw [if_pos h20] at h
      have S2 : (sF t tp b0 (a + 2)).1 = 0 → (sF t tp b0 a).1 = 0 ∧ nb < 12 ∧ (sF t tp b0 (a + 2)).2.2.1 = ((sF t tp b0 a).2.2.1.1, (sF t tp b0 a).2.2.1.2.1, (sF t tp b0 a).2.2.1.2.2.1, (sF t tp b0 a).2.2.1.2.2.2.1, (sF t tp b0 a).2.2.1.2.2.2.2.1, ((sF t tp b0 a).2.2.1.2.2.2.2.2.1 ++ [w], (sF t tp b0 a).2.2.1.2.2.2.2.2.2)) := by
        intro z
        have z1 := sF_err z
        obtain ⟨z0, hnb, eb⟩ := S1 z1
        obtain ⟨o1, o2⟩ := sF_ok z
        rw [lk1 h20] at o2
        refine ⟨z0, hnb, ?_⟩
        have o3 : (sF t tp b0 (a + 2)).2.2.1 = _ := congrArg Prod.fst o2
        rw [o3, ← tagsE z1, ← hw, eb, pushL_lt (by rw [← (hS z0).1.2.2.2]; exact hnb)]
      obtain ⟨hE2, pt2, ee2, hT2, hW2, hR2, hB2⟩ := id hv2
      obtain ⟨y1, y2, y3, y4, y5, y6, y7, y8, y9, y10, y11⟩ := id pt2
      refine ⟨hq.1, c_mtakeK (by omega) 6 hE2 y8 y1 y3 (by decide) rfl (fun k6 => ?_) (fun k6 => ?_)⟩
      rotate_left
      · rw [if_neg k6] at h
        cases Option.some.inj h
        have F14 : FrX r dr J (u2 J r 14 (nI (a + 2))) := (FrV.u hne (by omega)).x
        exact bz_dS (nb := nb) (by omega) hq (no14 _ (a + 2) u2_same (by omega)) (by rw [u2_a hne]; exact hB2.1) hB2.2 (fun J' f' hr => ⟨rfl, dead _ J' (a + 2) (FJ.tr F14) u2_same (by omega) rfl rfl f' hr⟩)
      rw [if_pos k6] at h
      obtain ⟨hv3, F3, sm3, hlt3⟩ := hv2.skip (by rw [k6]; decide) (by rw [k6]; decide) (by rw [k6]; decide) (by rw [k6]; decide)
      have kp3 : kpV dr I (u2 J r 12 (nI (a + 2 + 1))) nn tx := ⟨fun j _ => by rw [u2_a (by omega), u2_a (by omega), u2_a (by omega), jI _ (by omega), jI _ (by omega), jI _ (by omega)]; exact ⟨rfl, rfl, rfl⟩, fun j _ => by rw [u2_a (by omega), jI _ (by omega)]⟩
      have j3 : ∀ y, y ≠ r → u2 J r 12 (nI (a + 2 + 1)) y = I y := fun y hy => (u2_a hy).trans (jI y hy)
      have hn3 : ∀ x, smT (sF t tp b0 (a + 2)) (sF t tp b0 x) → (sF t tp b0 x).1 = 0 → NW.map (fun x => spl tp t (nI x)) = (sF t tp b0 x).2.2.1.2.1 := by
        intro x sm z
        obtain ⟨z2, s1, s2, -⟩ := sm z
        obtain ⟨z0, -, eb⟩ := S2 z2
        rw [s2, eb]
        exact (hS z0).1.2.1
      refine ⟨hq.1, ?_⟩
      rcases gFst_some h with ⟨a1, s1, hg, hx⟩ | ⟨a1, s1, hg, hx⟩
      · cases hx
        refine (v_sums n).2.2.2.2 (a + 3) 0 false a' s1 _ er2 et2 nn tx (d - 1) _ hg (hv3.vIn (hn3 _ sm3)) ⟨by omega, by show kfT t (a + 2) ≠ 2; rw [k6]; decide⟩ (by omega) ?_
        intro J4 v nn4 F4 ft _
        exact bz_dW (nb := nb) (by omega) hq ft.no (by rw [F4.2.2 3 (by decide) (by decide), u2_a hne]; exact hB2.1) hB2.2 (fun J' f' hr => ⟨rfl, dead _ J' _ ((FJ.tr F3).tr F4.x) ft.1 ft.2.1 rfl rfl f' hr⟩)
      refine (v_sums n).2.2.2.2 (a + 3) 0 true a1 s1 _ er2 et2 nn tx (d - 1) _ hg (hv3.vIn (hn3 _ sm3)) ⟨by omega, by show kfT t (a + 2) ≠ 2; rw [k6]; decide⟩ (by omega) ?_
      intro J4 m1 nn4 tx4 er4 et4 F4 kp4 pt4 hnn4 htx4 hb4 ee4 sm4 hm1 hsem4
      have hv4 := hv3.val F4 pt4 ee4
      obtain ⟨hE4, -, -, hT4, hW4, hR4, hB4⟩ := id hv4
      obtain ⟨w1, w2, w3, w4, w5, w6, w7, w8, w9, w10, w11⟩ := id pt4
      refine ⟨hq.1, c_mtakeK (by omega) 7 hE4 w8 w1 w3 (by decide) rfl (fun k7 => ?_) (fun k7 => ?_)⟩
      rotate_left
      · rw [if_neg k7] at hx
        cases Option.some.inj hx
        have F14 : FrX r dr J4 (u2 J4 r 14 (nI a')) := (FrV.u hne (by omega)).x
        exact bz_dT (nb := nb) (by omega) hq (no14 _ a' u2_same (by omega)) (by rw [u2_a hne]; exact hB4.1) hB4.2 (fun J' f' hr => ⟨rfl, dead _ J' a' (((FJ.tr F3).tr F4.x).tr F14) u2_same (by omega) rfl rfl f' hr⟩)
      rw [if_pos k7] at hx
      obtain ⟨hv5, F5, sm5, hlt5⟩ := hv4.skip (by rw [k7]; decide) (by rw [k7]; decide) (by rw [k7]; decide) (by rw [k7]; decide)
      have f5 : FrV r dr J4 (u2 J4 r 12 (nI (a1 + 1))) := FrV.u hne (by omega)
      have smA : smT (sF t tp b0 (a + 2)) (sF t tp b0 (a1 + 1)) := (sm3.tr sm4).tr sm5
      refine ⟨hq.1, ?_⟩
      rcases gFst_some hx with ⟨a2, s2, hg2, hx2⟩ | ⟨a2, s2, hg2, hx2⟩
      · cases hx2
        refine (v_tests n).2.2.2.2 (a1 + 1) 0 false a' s2 _ er4 et4 nn4 tx4 (d - 1) _ hg2 (hv5.vIn (hn3 _ smA)) ⟨by omega, by show kfT t a1 ≠ 2; rw [k7]; decide⟩ (by omega) ?_
        intro J6 v nn6 F6 ft _
        exact bz_dE (nb := nb) hq (by rw [F6.2.2 3 (by decide) (by decide), u2_a hne]; exact hB4.1) hB4.2 (fun J' f' hr => ⟨rfl, dead _ J' _ ((((FJ.tr F3).tr F4.x).tr F5).tr F6.x) ft.1 ft.2.1 rfl rfl f' hr⟩)
      cases Option.some.inj hx2
      refine (v_tests n).2.2.2.2 (a1 + 1) 0 true a' s2 _ er4 et4 nn4 tx4 (d - 1) _ hg2 (hv5.vIn (hn3 _ smA)) ⟨by omega, by show kfT t a1 ≠ 2; rw [k7]; decide⟩ (by omega) ?_
      intro J6 m2 nn6 tx6 er6 et6 F6 kp6 pt6 hnn6 htx6 hb6 ee6 sm6 hm2 hsem6
      have hv6 := hv5.val F6 pt6 ee6
      obtain ⟨hE6, -, -, hT6, hW6, hR6, hB6⟩ := id hv6
      have FI6 := (((FJ.tr F3).tr F4.x).tr F5).tr F6.x
      have smB : smT (sF t tp b0 (a + 2)) (sF t tp b0 a') := smA.tr sm6
      have F36 : FrV r dr (u2 J r 12 (nI (a + 2 + 1))) J6 := (F4.tr f5).tr F6
      have j6 : ∀ y, y ≠ r → y ≠ dr → (y < dr + 7 ∨ dr + 11 ≤ y) → J6 y = I y := fun y y1 y2 y3 => (F36.1 y y1 y2 y3).trans (j3 y y1)
      refine boost_end hq hB6.1 hB6.2 (fun h12 => ⟨rfl, ?_⟩) (fun h12 => ⟨rfl, ?_⟩)
      · exact ho J6 nn6 tx6 er6 et6 NT NW nr nb FI6 hv6 (fun z => by have := (S2 (smB z).1).2.1; omega)
      obtain ⟨FX, xr⟩ := bz_fr (J := J6) (nb := nb) (v1 := w) (v2 := nI m1) (v3 := nI m2) hq
      have x0 : ∀ f, f ≠ 3 → bzJ J6 dr nb w (nI m1) (nI m2) dr f = J6 dr f := fun f hf => by unfold bzJ; rw [u2_j hf, u2_a (by omega), u2_a (by omega), u2_a (by omega)]
      have x3' : bzJ J6 dr nb w (nI m1) (nI m2) dr 3 = nI (nb + 1) := u2_same
      have xo : ∀ y, y ≠ dr → y ≠ dr + 6 → bzJ J6 dr nb w (nI m1) (nI m2) y = J6 y := fun y z1 z2 => by unfold bzJ; rw [u2_a z1, u2_a z2, u2_a z2, u2_a z2]
      have xw : ∀ j, j < 3 * nb → bzJ J6 dr nb w (nI m1) (nI m2) (dr + 6) j = J6 (dr + 6) j := fun j hj => by unfold bzJ; rw [u2_a (by omega), u2_j (by omega), u2_j (by omega), u2_j (by omega)]
      have xw1 : bzJ J6 dr nb w (nI m1) (nI m2) (dr + 6) (3 * nb) = w := by unfold bzJ; rw [u2_a (by omega), u2_j (by omega), u2_j (by omega)]; exact u2_same
      have xw2 : bzJ J6 dr nb w (nI m1) (nI m2) (dr + 6) (3 * nb + 1) = nI m1 := by unfold bzJ; rw [u2_a (by omega), u2_j (by omega)]; exact u2_same
      have xw3 : bzJ J6 dr nb w (nI m1) (nI m2) (dr + 6) (3 * nb + 2) = nI m2 := by unfold bzJ; rw [u2_a (by omega)]; exact u2_same
      generalize bzJ J6 dr nb w (nI m1) (nI m2) = X at FX xr x0 x3' xo xw xw1 xw2 xw3
      have kpX : kpV dr J6 X nn6 tx6 := ⟨fun j _ => by rw [xo (dr + 7) (by omega) (by omega), xo (dr + 8) (by omega) (by omega), xo (dr + 9) (by omega) (by omega)]; exact ⟨rfl, rfl, rfl⟩, fun j _ => by rw [xo (dr + 10) (by omega) (by omega)]⟩
      have kp5 : kpV dr J4 X nn4 tx4 := ((kpV.u hyd).tr kp6 (Nat.le_refl _) (Nat.le_refl _)).tr kpX hnn6 htx6
      have kpA : kpV dr I X nn tx := (kp3.tr kp4 (Nat.le_refl _) (Nat.le_refl _)).tr kp5 hnn4 htx4
      refine ho X nn6 tx6 er6 et6 NT NW nr (nb + 1) (FI6.tr FX) ⟨hE6.f FX, ?_, ee6, hT6.cg (x0 0 (by decide)) (xo _ (by omega) (by omega)), hW6.cg (x0 1 (by decide)) (xo _ (by omega) (by omega)), by rw [x0 2 (by decide)]; exact hR6, ⟨x3', by omega⟩⟩ (fun z => ?_)
      · obtain ⟨v1, v2, v3, v4, v5, v6, v7, v8⟩ := pt6
        exact ⟨by rw [xr]; exact v1, by rw [xr]; exact v2, by rw [xr]; exact v3, by rw [xr]; exact v4, by rw [xr]; exact v5, by rw [x0 10 (by decide)]; exact v6, by rw [x0 14 (by decide)]; exact v7, v8⟩
      obtain ⟨z2, g1, g2, g3, g4, g5, g6⟩ := smB z
      obtain ⟨z0, hnb, eb⟩ := S2 z2
      have z5 := (sm6 z).1
      have z4 := (sm5 z5).1
      have n6 := hsem6 z
      have n4 := hsem4 z4
      rw [g2, eb] at n6
      rw [((sm3.tr sm4) z4).2.2.1, eb] at n4
      obtain ⟨⟨c1, c2, c3, c4⟩, ⟨d1, d2, d3, d4, d5⟩, ⟨f1, f2, f3⟩, c7⟩ := hS z0
      unfold lSem
      rw [g1, g2, g3, g4, g5, g6, eb, xo (dr + 1) (by omega) (by omega), xo (dr + 2) (by omega) (by omega), xo (dr + 3) (by omega) (by omega), xo (dr + 4) (by omega) (by omega), xo (dr + 5) (by omega) (by omega), j6 (dr + 1) (by omega) (by omega) (by omega), j6 (dr + 2) (by omega) (by omega) (by omega), j6 (dr + 3) (by omega) (by omega) (by omega), j6 (dr + 4) (by omega) (by omega) (by omega), j6 (dr + 5) (by omega) (by omega) (by omega)]
      have hbl : (sF t tp b0 a).2.2.1.2.2.2.2.2.1.length = nb := c4.symm
      refine ⟨⟨c1, c2, c3, ?_⟩, ⟨d1, d2, d3, d4, d5⟩, ⟨f1, f2, ?_⟩, fun i x hx => ?_⟩
      · show nb + 1 = ((sF t tp b0 a).2.2.1.2.2.2.2.2.1 ++ [w]).length
        rw [List.length_append, hbl]; rfl
      · rw [List.length_append, f3]; rfl
      show X (dr + 6) (3 * i) = rat ((sF t tp b0 a).2.2.1.2.2.2.2.2.1 ++ [w]) (nI i) ∧ _
      by_cases c : i < nb
      · rw [List.getElem?_append_left (by omega)] at hx
        obtain ⟨y1, ⟨m1', y2, y3⟩, m2', y4, y5⟩ := c7 i x hx
        rw [xw _ (by omega), xw _ (by omega), xw _ (by omega), j6 (dr + 6) (by omega) (by omega) (by omega)]
        refine ⟨?_, ⟨m1', y2, y3.up kpA (by omega) (Nat.le_refl _) (by omega) (Nat.le_refl _)⟩, m2', y4, y5.up kpA (by omega) (Nat.le_refl _) (by omega) (Nat.le_refl _)⟩
        rw [y1, rat_nI (by omega), rat_nI (by omega), List.getD_eq_getElem?_getD, List.getD_eq_getElem?_getD, List.getElem?_append_left (by omega)]
      · have hi : i = nb := by
          have := (List.getElem?_eq_some_iff.mp hx).1
          rw [List.length_append] at this
          have e : [(s1, s2)].length = 1 := rfl
          omega
        subst hi
        rw [List.getElem?_append_right (by omega), f3, Nat.sub_self] at hx
        have ex : (s1, s2) = x := Option.some.inj hx
        subst ex
        rw [xw1, xw2, xw3]
        refine ⟨?_, ⟨m1, rfl, n4.up kp5 (by omega) (Nat.le_refl _) (by omega) (Nat.le_refl _)⟩, m2, rfl, n6.up kpX (Nat.le_refl _) (Nat.le_refl _) (Nat.le_refl _) (Nat.le_refl _)⟩
        rw [rat_nI (by omega), List.getD_eq_getElem?_getD, List.getElem?_append_right (by omega), hbl, Nat.sub_self]
        rfl
    refine bX13_readBoost_21 ⟨hq.1, hq.1, hq.1, r + 28, p10, hq.1, dr, p9, sb.1, hq.1, ?_⟩
    rw [f12, nI_1, psI_set]
    refine c_mknown1 (by omega) hE1 K28 (by omega) (by omega) hT1 x8 x1 x3 x4 x5 (fun h20 hw => ?_) (fun h20 hw he => ?_) (fun h20 hw he => ?_) ((eT_er ee1).2 (by omega)) (fun h20 => ?_)
    · have hlt2 : a + 1 < n0 := hkm.lt h20 (by decide) (by decide) (by decide)
      have ge0 : 0 ≤ fidx (NT.map (fun x => spl tp t (nI x))) (spl tp t (nI (a + 1))) 0 := by
        rcases fidx_m1 (l := spl tp t (nI (a + 1))) hn28 with ⟨q, -⟩ | ⟨k, -, -, q, -⟩
        · exact absurd q hw
        · exact q
      have eE2 : eT (sF t tp b0 (a + 2)) (a + 2) (J0 r 15) (J0 r 16) := by
        refine eT_step ee1 (fun z => ?_) (fun _ => ⟨rfl, rfl⟩)
        rw [lk1 h20]
        have e0 := (eT_er ee1).1.mpr z
        refine ⟨?_, fun y => absurd e0 y⟩
        rw [← tagsE z]
        exact e0.trans (if_pos ge0).symm
      obtain ⟨hv2, F2⟩ := hv1.on (J := u2 (u2 J0 r 12 (nI (a + 1))) r 12 (nI (a + 1 + 1))) (er' := J0 r 15) (et' := J0 r 16) (fun y hy => u2_a hy) (fun f f1 _ _ => u2_j f1) u2_same (by rw [u2_j (by decide)]; exact x4) (by rw [u2_j (by decide)]; exact x5) (show a + 1 ≤ a + 2 by omega) (by omega) (mono (a + 1) hlt2) eE2
      exact cont _ _ _ _ (fun y hy => (u2_a hy).trans (j1 y hy)) (F1.tr F2) hv2 h20 rfl
    · have hlt2 : a + 1 < n0 := hkm.lt h20 (by decide) (by decide) (by decide)
      have eE2 : eT (sF t tp b0 (a + 2)) (a + 2) 3 (nI (a + 1)) := by
        refine eT_step ee1 (fun z => ?_) (fun y => absurd he y)
        rw [lk1 h20]
        refine ⟨?_, fun _ => rfl⟩
        rw [← tagsE z, hw]
        rw [if_neg (show ¬ (0 : Int32) ≤ -1 by decide)]
      obtain ⟨hv2, F2⟩ := hv1.on (J := u2 (u2 (u2 (u2 J0 r 12 (nI (a + 1))) r 12 (nI (a + 1 + 1))) r 15 3) r 16 (nI (a + 1))) (er' := 3) (et' := nI (a + 1)) (fun y hy => by rw [u2_a hy, u2_a hy, u2_a hy]) (fun f f1 f2 f3 => by rw [u2_j f3, u2_j f2, u2_j f1]) (by rw [u2_j (by decide), u2_j (by decide)]; exact u2_same) (by rw [u2_j (by decide)]; exact u2_same) u2_same (show a + 1 ≤ a + 2 by omega) (by omega) (mono (a + 1) hlt2) eE2
      exact cont _ _ _ _ (fun y hy => by rw [u2_a hy, u2_a hy, u2_a hy]; exact j1 y hy) (F1.tr F2) hv2 h20 hw.symm
    · have hlt2 : a + 1 < n0 := hkm.lt h20 (by decide) (by decide) (by decide)
      have eE2 : eT (sF t tp b0 (a + 2)) (a + 2) (J0 r 15) (J0 r 16) := by
        refine eT_step ee1 (fun z => ?_) (fun _ => ⟨rfl, rfl⟩)
        exact absurd ((eT_er ee1).1.mpr z) he
      obtain ⟨hv2, F2⟩ := hv1.on (J := u2 (u2 J0 r 12 (nI (a + 1))) r 12 (nI (a + 1 + 1))) (er' := J0 r 15) (et' := J0 r 16) (fun y hy => u2_a hy) (fun f f1 _ _ => u2_j f1) u2_same (by rw [u2_j (by decide)]; exact x4) (by rw [u2_j (by decide)]; exact x5) (show a + 1 ≤ a + 2 by omega) (by omega) (mono (a + 1) hlt2) eE2
      exact cont _ _ _ _ (fun y hy => (u2_a hy).trans (j1 y hy)) (F1.tr F2) hv2 h20 hw.symm
    · rw [if_neg h20] at h
      cases Option.some.inj h
      have F14 : FrX r dr (u2 J0 r 12 (nI (a + 1))) (u2 (u2 J0 r 12 (nI (a + 1))) r 14 (nI (a + 1))) := (FrV.u hne (by omega)).x
      exact bz_dB (nb := nb) (d := d - 1) (v1 := 0) (Q := fun r M1 => r = .inl none ∧ K M1) (by omega) hq (no14 _ (a + 1) u2_same (by omega)) (by rw [u2_a hne]; exact hB1.1) hB1.2 (fun J' f' hr => ⟨rfl, dead _ J' (a + 1) (F1.tr F14) u2_same (by omega) rfl rfl f' hr⟩)
  refine CP_go (by omega) okX13_readBoost (Nat.le_of_ble_eq_true rfl) (bX13_readBoost_0 ⟨hq.1, dr, p9, sb.1, ?_⟩)
  have f12 : pI (pset B I) r 12 = nI a := t1
  rw [e3I]
  have n12 : nI nb = 12 ↔ nb = 12 := nI_eq (b := 12) (by have := hB.2; omega) (by omega)
  refine ⟨fun g => ⟨hq.1, hq.1, ?_⟩, fun g => key I (fun _ _ => rfl) (fun _ _ _ => rfl) (fun e0 => ?_) (fun e0 y => absurd (t4.trans e0) y) (fun _ => ⟨t4, t5⟩)⟩
  · have h12 := n12.mp g
    rw [f12]
    by_cases e0 : er = 0
    · refine c_mtell1 (by omega) hq.1 (t4.trans e0) (key _ (fun y hy => by rw [u2_a hy, u2_a hy]) (fun f f1 f2 => by rw [u2_j f2, u2_j f1]) (fun _ => ?_) (fun _ _ => u2_same) (fun z => absurd e0 z))
      rw [u2_j (by decide), if_neg (by omega)]
      exact u2_same
    · exact c_mtell0 (by omega) hq.1 (by rw [t4]; exact e0) (fun z => absurd (t5.symm.trans z) (etn e0)) (key I (fun _ _ => rfl) (fun _ _ _ => rfl) (fun z => absurd z e0) (fun z => absurd z e0) (fun _ => ⟨t4, t5⟩))
  · have : nb ≠ 12 := fun z => g (n12.mpr z)
    rw [if_pos (by have := hB.2; omega)]
    exact t4.trans e0
