/-! THE REFERENCE'S PARSER: lines -/
def lSx (B : pM) (r td dr : Nat) (tp : List Int32) (t : tK) (n0 : Nat) (b0 : bK) (J : pIm) (a nn tx : Nat) (er et : Int32) (NT NW : List Nat) (nr nb : Nat) : Prop := tkE B J r td dr tp t n0 ∧ pT J r dr tp t n0 a 0 er et nn tx ∧ eT (sF t tp b0 a) a er et ∧ nmV t n0 J (r + 28) (J dr 0) 6 NT ∧ nmV t n0 J (r + 29) (J dr 1) 40 NW ∧ (J dr 2 = nI nr ∧ nr ≤ 4) ∧ (J dr 3 = nI nb ∧ nb ≤ 12)
def lSem (t : tK) (tp : List Int32) (b0 : bK) (J : pIm) (dr : Nat) (b : bK) (NT NW : List Nat) (nr nb nn tx : Nat) (L : List (List (Int32 × Int32) × List (Int32 × Int32))) : Prop := (NT.map (fun x => spl tp t (nI x)) = b.1 ∧ NW.map (fun x => spl tp t (nI x)) = b.2.1 ∧ b.2.2.2.2.1.2.2 = nI nr ∧ nb = b.2.2.2.2.2.1.length) ∧ (Wb (J (dr + 1)) b.2.1 ∧ Ar (J (dr + 2)) (b.2.1.map (fun l => nI l.length)) ∧ Ar (J (dr + 3)) b.2.2.1 ∧ Ar (J (dr + 4)) b.2.2.2.1 ∧ kqD (J (dr + 5)) b.2.2.2.2.1.1 b.2.2.2.2.1.2.1) ∧ (b.2.2.1.length = b.2.1.length ∧ b.2.2.2.1.length = b.2.1.length ∧ L.length = nb) ∧ ∀ i x, L[i]? = some x → J (dr + 6) (3 * i) = rat b.2.2.2.2.2.1 (nI i) ∧ (∃ m, J (dr + 6) (3 * i + 1) = nI m ∧ nvX false J dr b.2.1.length nn tx x.1.length m (x.1.map (payG t tp b0))) ∧ ∃ m, J (dr + 6) (3 * i + 2) = nI m ∧ nvX true J dr b.2.1.length nn tx x.2.length m (x.2.map (payG t tp b0))
theorem eT_step {t : tK} {tp : List Int32} {b0 : bK} {a : Nat} {er et er' et' : Int32} (h : eT (sF t tp b0 a) a er et) (hz : (sF t tp b0 a).1 = 0 → er' = (lkAt t tp a (sF t tp b0 a).2.2.1 (sF t tp b0 a).2.2.2).1 ∧ (er' ≠ 0 → et' = nI a)) (hn : er ≠ 0 → er' = er ∧ et' = et) : eT (sF t tp b0 (a + 1)) (a + 1) er' et' := by
  rw [sF_succ]
  rcases h with ⟨h1, h2⟩ | ⟨h1, h2, h3, h4⟩
  · rw [if_pos h1]
    obtain ⟨z1, z2⟩ := hz h1
    by_cases c : (lkAt t tp a (sF t tp b0 a).2.2.1 (sF t tp b0 a).2.2.2).1 = 0
    · rw [if_pos c]
      exact Or.inl ⟨rfl, z1.trans c⟩
    · rw [if_neg c]
      exact Or.inr ⟨c, z1, by show a < a + 1; omega, z2 (by rw [z1]; exact c)⟩
  · rw [if_neg h1]
    obtain ⟨z1, z2⟩ := hn (by rw [h2]; exact h1)
    exact Or.inr ⟨h1, z1.trans h2, by omega, z2.trans h4⟩
theorem eT_er {f : Int32 × Nat × bK × List Int32} {a : Nat} {er et : Int32} (h : eT f a er et) : (er = 0 ↔ f.1 = 0) ∧ (a < 2 ^ 31 → er ≠ 0 → et ≠ nI a) := by
  rcases h with ⟨h1, h2⟩ | ⟨h1, h2, h3, h4⟩
  · exact ⟨⟨fun _ => h1, fun _ => h2⟩, fun _ z => absurd h2 z⟩
  · refine ⟨⟨fun z => absurd (h2.symm.trans z) h1, fun z => absurd z h1⟩, fun ha _ z => ?_⟩
    have := (nI_eq (show f.2.1 < 2 ^ 31 by omega) ha).mp (h4.symm.trans z)
    omega
def frE (w cnt mx er : Int32) : Int32 := if er = 0 then (if w = -1 then (if cnt = mx then 4 else 0) else 2) else er
theorem c_mfresh {d : Nat} (hd : 3 ≤ d) {B : pM} {J : pIm} {r td dr n0 a q mx : Nat} {tp : List Int32} {t : tK} {cnt er et : Int32} {N : List Nat} {K : Int32 → pM → Prop} (hE : tkE B J r td dr tp t n0) (hq : pK B q = (2, mx)) (hmx : mx ≤ 40) (hqr : q ≠ r) (hN : nmV t n0 J q cnt mx N) (ha : a ≤ n0) (h12 : J r 12 = nI a) (h14 : J r 14 = -1) (h15 : J r 15 = er) (h16 : J r 16 = et) (het : er ≠ 0 → et ≠ nI a)
    (h1 : kfT t a = 20 → ∀ J', (∀ y, y ≠ r → J' y = J y) → (∀ f, f ≠ 12 → f ≠ 15 → f ≠ 16 → J' r f = J r f) → J' r 12 = nI (a + 1) → J' r 15 = frE (fidx (N.map (fun x => spl tp t (nI x))) (spl tp t (nI a)) 0) cnt (nI mx) er → (er = 0 → J' r 15 ≠ 0 → J' r 16 = nI a) → (er ≠ 0 → J' r 16 = et) → K (nI a) (pset B J'))
    (h0 : kfT t a ≠ 20 → K 0 (pset B (u2 J r 14 (nI a)))) : pCall_i d mX13_fresh (0, 0) [.ref r, .ref q, .int cnt, .int (nI mx)] (pset B J) K := by
  refine CP_go (by omega) okX13_fresh (Nat.le_of_ble_eq_true rfl) ?_
  have hk := hE.1.1
  have h400 := hE.2.2.2.2.2.1
  have hne : dr ≠ r := by have := hE.1.lay; omega
  refine bX13_fresh_0 ⟨hk, c_mname1 (by omega) hE ha h12 h14 (fun hn => ⟨hk, c_misOk1 (by omega) hk (by rw [u2_j (by decide)]; exact h14) ⟨fun z => absurd z (by decide), fun _ => ⟨hk, ?_⟩⟩⟩) (fun hn => ⟨hk, c_misOk0 (by omega) hk (by rw [u2_same]; exact fun z => nI_pos (n := a) (by omega) (by rw [z]; decide)) ⟨fun _ => ⟨_, rfl, h0 hn⟩, fun z => absurd rfl z⟩⟩)⟩
  have F : FrX r dr J (u2 J r 12 (nI (a + 1))) := (FrV.u hne (by omega)).x
  have N' : nmV t n0 (u2 J r 12 (nI (a + 1))) q cnt mx N := ⟨hN.1, hN.2.1, fun k x hx => by rw [u2_a hqr]; exact hN.2.2 k x hx⟩
  have base : ∀ y, y ≠ r → u2 J r 12 (nI (a + 1)) y = J y := fun y hy => u2_a hy
  -- full, or not
  have full : ∀ (J1 : pIm), (∀ y, y ≠ r → J1 y = J y) → (∀ f, f ≠ 12 → f ≠ 15 → f ≠ 16 → J1 r f = J r f) → J1 r 12 = nI (a + 1) → (er ≠ 0 → J1 r 15 = er ∧ J1 r 16 = et) → (er = 0 → (fidx (N.map (fun x => spl tp t (nI x))) (spl tp t (nI a)) 0 = -1 → J1 r 15 = 0) ∧ (fidx (N.map (fun x => spl tp t (nI x))) (spl tp t (nI a)) 0 ≠ -1 → J1 r 15 = 2 ∧ J1 r 16 = nI a)) → Go (d - 1) mX13_fresh (fun r M1 => ∃ v, r = .inl (some (.int v)) ∧ K v M1) 34 ([some (.ref r), none, some (.int cnt), some (.int (nI mx)), some (.int (nI a))], [], 0, 0) (pset B J1) := by
    intro J1 q1 q2 q3 q4 q5
    have stay : (er = 0 → fidx (N.map (fun x => spl tp t (nI x))) (spl tp t (nI a)) 0 = -1 → cnt ≠ nI mx) → K (nI a) (pset B J1) := by
      intro hc
      refine h1 hn J1 q1 q2 q3 ?_ (fun z z2 => ?_) (fun z => (q4 z).2)
      · unfold frE
        by_cases c : er = 0
        · rw [if_pos c]
          by_cases c2 : fidx (N.map (fun x => spl tp t (nI x))) (spl tp t (nI a)) 0 = -1
          · rw [if_pos c2, if_neg (hc c c2)]; exact (q5 c).1 c2
          · rw [if_neg c2]; exact ((q5 c).2 c2).1
        · rw [if_neg c]; exact (q4 c).1
      · by_cases c2 : fidx (N.map (fun x => spl tp t (nI x))) (spl tp t (nI a)) 0 = -1
        · exact absurd ((q5 z).1 c2) z2
        · exact ((q5 z).2 c2).2
    refine bX13_fresh_34 ⟨fun g => ⟨hk, ?_⟩, fun g => ⟨_, rfl, stay (fun _ _ => g)⟩⟩
    by_cases c : er = 0
    · by_cases c2 : fidx (N.map (fun x => spl tp t (nI x))) (spl tp t (nI a)) 0 = -1
      · refine c_mtell1 (by omega) hk ((q5 c).1 c2) ⟨_, rfl, h1 hn _ (fun y hy => by rw [u2_a hy, u2_a hy]; exact q1 y hy) (fun f f1 f2 f3 => by rw [u2_j f3, u2_j f2]; exact q2 f f1 f2 f3) (by rw [u2_j (by decide), u2_j (by decide)]; exact q3) ?_ (fun _ _ => u2_same) (fun z => absurd c z)⟩
        unfold frE
        rw [if_pos c, if_pos c2, if_pos g, u2_j (by decide)]
        exact u2_same
      · have e2 := (q5 c).2 c2
        exact c_mtell0 (by omega) hk (by rw [e2.1]; decide) (fun _ => by rw [e2.1]; decide) ⟨_, rfl, stay (fun _ z => absurd z c2)⟩
    · have e2 := q4 c
      exact c_mtell0 (by omega) hk (by rw [e2.1]; exact c) (fun z => absurd (e2.2.symm.trans z) (het c)) ⟨_, rfl, stay (fun z => absurd z c)⟩
  refine c_mfind (by omega) (hE.f F) hq hmx N' hn ⟨fun g => ?_, fun g => ⟨hk, ?_⟩⟩
  · exact full _ base (fun f f1 _ _ => u2_j f1) u2_same (fun _ => ⟨by rw [u2_j (by decide)]; exact h15, by rw [u2_j (by decide)]; exact h16⟩) (fun z => ⟨fun _ => by rw [u2_j (by decide)]; exact h15.trans z, fun z2 => absurd g z2⟩)
  · by_cases c : er = 0
    · refine c_mtell1 (by omega) hk (by rw [u2_j (by decide)]; exact h15.trans c) ?_
      exact full _ (fun y hy => by rw [u2_a hy, u2_a hy]; exact base y hy) (fun f f1 f2 f3 => by rw [u2_j f3, u2_j f2, u2_j f1]) (by rw [u2_j (by decide), u2_j (by decide)]; exact u2_same) (fun z => absurd c z) (fun _ => ⟨fun z2 => absurd z2 g, fun _ => ⟨by rw [u2_j (by decide)]; exact u2_same, u2_same⟩⟩)
    · refine c_mtell0 (by omega) hk (by rw [u2_j (by decide), h15]; exact c) (fun z => ?_) ?_
      · rw [u2_j (by decide), h16] at z
        exact absurd z (het c)
      · exact full _ base (fun f f1 _ _ => u2_j f1) u2_same (fun _ => ⟨by rw [u2_j (by decide)]; exact h15, by rw [u2_j (by decide)]; exact h16⟩) (fun z => absurd z c)
/-- what a line leaves -/
def lOut (B : pM) (r td dr : Nat) (tp : List Int32) (t : tK) (n0 : Nat) (b0 : bK) (I : pIm) (L : List (List (Int32 × Int32) × List (Int32 × Int32))) (ok : Bool) (a' : Nat) (l : List (List (Int32 × Int32) × List (Int32 × Int32))) (K : pM → Prop) : Prop := match ok with
  | true => ∀ (J : pIm) (nn tx : Nat) (er et : Int32) (NT NW : List Nat) (nr nb : Nat), FrX r dr I J → lSx B r td dr tp t n0 b0 J a' nn tx er et NT NW nr nb → ((sF t tp b0 a').1 = 0 → lSem t tp b0 J dr (sF t tp b0 a').2.2.1 NT NW nr nb nn tx (L ++ l)) → K (pset B J)
  | false => ∀ (J : pIm), FrX r dr I J → J r 14 = nI a' → a' ≤ 400 → K (pset B J)
/-- a token of a line that the reading passes by -/
theorem lSx.skip {B : pM} {r td dr n0 a nn tx : Nat} {tp : List Int32} {t : tK} {b0 : bK} {I : pIm} {er et : Int32} {NT NW : List Nat} {nr nb : Nat} (h : lSx B r td dr tp t n0 b0 I a nn tx er et NT NW nr nb) (h24 : kfT t a ≠ 24 ∧ kfT t a ≠ 25 ∧ kfT t a ≠ -1) (h5 : kfT t a ≠ 5) (h20 : kfT t a ≠ 20) (h21 : kfT t a ≠ 21) : lSx B r td dr tp t n0 b0 (u2 I r 12 (nI (a + 1))) (a + 1) nn tx er et NT NW nr nb ∧ FrX r dr I (u2 I r 12 (nI (a + 1))) ∧ smT (sF t tp b0 a) (sF t tp b0 (a + 1)) ∧ a < n0 := by
  obtain ⟨h1, ⟨p1, p2, p3, p4, p5, p6, p7, p8, p9, p10, p11⟩, h3, h4, h5', h6, h7⟩ := h
  have hy := h1.1.lay
  have hne : dr ≠ r := by omega
  have h400 := h1.2.2.2.2.2.1
  have hlt : a < n0 := h1.2.2.2.2.2.2.1.lt rfl h24.1 h24.2.1 h24.2.2
  have hst := sT_mono h1.2.2.2.2.2.2.2 h1.2.2.2.2.1 hlt
  obtain ⟨e1, e2⟩ := sF_skip (b0 := b0) (show a < 2 ^ 31 by omega) h5 h20 (Or.inl h21) h3
  have f : FrV r dr I (u2 I r 12 (nI (a + 1))) := FrV.u hne (by omega)
  refine ⟨⟨h1.f f.x, ⟨u2_same, by rw [u2_j (by decide)]; exact p2, by rw [u2_j (by decide)]; exact p3, by rw [u2_j (by decide)]; exact p4, by rw [u2_j (by decide)]; exact p5, by rw [u2_a hne]; exact p6, by rw [u2_a hne]; exact p7, by omega, by omega, by omega, p11⟩, e1, ?_, ?_, by rw [u2_a hne]; exact h6, by rw [u2_a hne]; exact h7⟩, f.x, e2, hlt⟩
  · rw [u2_a hne]; exact ⟨h4.1, h4.2.1, fun k x hx => by rw [u2_a (by omega)]; exact h4.2.2 k x hx⟩
  · rw [u2_a hne]; exact ⟨h5'.1, h5'.2.1, fun k x hx => by rw [u2_a (by omega)]; exact h5'.2.2 k x hx⟩
/-- the book's part stands while only r changes -/
theorem lSem.cg {t : tK} {tp : List Int32} {b0 b b' : bK} {I J : pIm} {dr : Nat} {NT NW : List Nat} {nr nb nn tx : Nat} {L : List (List (Int32 × Int32) × List (Int32 × Int32))} (h : lSem t tp b0 I dr b NT NW nr nb nn tx L) (f : ∀ x, dr < x → x < dr + 11 → J x = I x) (g : bSm b b') : lSem t tp b0 J dr b' NT NW nr nb nn tx L := by
  obtain ⟨⟨a1, a2, a3, a4⟩, ⟨c1, c2, c3, c4, c5⟩, ⟨e1, e2, e3⟩, h4⟩ := h
  obtain ⟨g1, g2, g3, g4, g5, g6⟩ := g
  unfold lSem
  rw [g1, g2, g3, g4, g5, g6, f (dr + 1) (by omega) (by omega), f (dr + 2) (by omega) (by omega), f (dr + 3) (by omega) (by omega), f (dr + 4) (by omega) (by omega), f (dr + 5) (by omega) (by omega), f (dr + 6) (by omega) (by omega)]
  refine ⟨⟨a1, a2, a3, a4⟩, ⟨c1, c2, c3, c4, c5⟩, ⟨e1, e2, e3⟩, fun i x hx => ?_⟩
  obtain ⟨q1, ⟨m, q2, q3⟩, m2, q4, q5⟩ := h4 i x hx
  have kp : kpV dr I J nn tx := ⟨fun j _ => by rw [f (dr + 7) (by omega) (by omega), f (dr + 8) (by omega) (by omega), f (dr + 9) (by omega) (by omega)]; exact ⟨rfl, rfl, rfl⟩, fun j _ => by rw [f (dr + 10) (by omega) (by omega)]⟩
  exact ⟨q1, ⟨m, q2, q3.up kp (Nat.le_refl _) (Nat.le_refl _) (Nat.le_refl _) (Nat.le_refl _)⟩, m2, q4, q5.up kp (Nat.le_refl _) (Nat.le_refl _) (Nat.le_refl _) (Nat.le_refl _)⟩
theorem nmV.add {t : tK} {n0 : Nat} {J J' : pIm} {q : Nat} {cnt : Int32} {mx : Nat} {N : List Nat} {x : Nat} (h : nmV t n0 J q cnt mx N) (hl : N.length < mx) (hx : x ≤ n0) (h20 : kfT t x = 20) (hJ : ∀ j, j < N.length → J' q j = J q j) (hv : J' q N.length = nI x) : nmV t n0 J' q (nI (N.length + 1)) mx (N ++ [x]) := by
  refine ⟨by rw [List.length_append]; rfl, by rw [List.length_append]; exact hl, fun k y hy => ?_⟩
  by_cases c : k < N.length
  · rw [List.getElem?_append_left c] at hy
    rw [hJ k c]
    exact h.2.2 k y hy
  · have hk : k = N.length := by
      have := (List.getElem?_eq_some_iff.mp hy).1
      rw [List.length_append] at this
      have e : [x].length = 1 := rfl
      omega
    subst hk
    rw [List.getElem?_append_right (Nat.le_refl _), Nat.sub_self] at hy
    rw [← Option.some.inj hy]
    exact ⟨hv, hx, h20⟩
theorem nmV.cg {t : tK} {n0 : Nat} {J J' : pIm} {q : Nat} {cnt cnt' : Int32} {mx : Nat} {N : List Nat} (h : nmV t n0 J q cnt mx N) (hc : cnt' = cnt) (hJ : J' q = J q) : nmV t n0 J' q cnt' mx N := ⟨hc.trans h.1, h.2.1, fun k y hy => by rw [hJ]; exact h.2.2 k y hy⟩
