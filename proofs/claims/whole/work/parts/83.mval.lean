/-! THE REFERENCE'S PARSER: values -/
/-- a node of a sum, all of its nodes below mx -/
def nvS (op one two : Nat → Int32) (nw mx : Nat) : Nat → Nat → List pS → Prop
  | 0, _, _ => False
  | f + 1, n, s => n < mx ∧ ((op n = 30 ∧ s = [(21, [one n])]) ∨ ((op n = 8 ∨ op n = 9 ∨ op n = 10 ∨ op n = 11) ∧ s = [(op n, [0])]) ∨ (op n = 2 ∧ ∃ w, w < nw ∧ one n = nI w ∧ s = [(2, [nI w])])
      ∨ (op n = 110 ∧ ∃ a s1, one n = nI a ∧ nvS op one two nw mx f a s1 ∧ s = s1 ++ [(30, [0])])
      ∨ ((op n = 17 ∨ op n = 18 ∨ op n = 42 ∨ op n = 47 ∨ op n = 45 ∨ op n = 43) ∧ ∃ a b s1 s2, one n = nI a ∧ two n = nI b ∧ nvS op one two nw mx f a s1 ∧ nvS op one two nw mx f b s2 ∧ s = s1 ++ s2 ++ [(op n, [0])]))
def nvT (op one two tx : Nat → Int32) (nw mx tm : Nat) : Nat → Nat → List pS → Prop
  | 0, _, _ => False
  | f + 1, n, s => n < mx ∧ ((op n = 12 ∧ s = [(12, [one n])]) ∨ (op n = 13 ∧ ∃ fr l, one n = nI fr ∧ two n = nI l.length ∧ fr + l.length ≤ tm ∧ (∀ k x, l[k]? = some x → tx (fr + k) = x) ∧ s = [(13, l)])
      ∨ (op n = 14 ∧ ∃ a s1, one n = nI a ∧ nvT op one two tx nw mx tm f a s1 ∧ s = s1 ++ [(14, [0])])
      ∨ ((op n = 15 ∨ op n = 16) ∧ ∃ a b s1 s2, one n = nI a ∧ two n = nI b ∧ nvT op one two tx nw mx tm f a s1 ∧ nvT op one two tx nw mx tm f b s2 ∧ s = s1 ++ s2 ++ [(op n, [0])])
      ∨ ((op n = 60 ∨ op n = 62 ∨ op n = 61 ∨ op n = 108 ∨ op n = 103) ∧ ∃ a b s1 s2, one n = nI a ∧ two n = nI b ∧ nvS op one two nw mx f a s1 ∧ nvS op one two nw mx f b s2 ∧ s = s1 ++ s2 ++ [(cmpK (op n), [0])]))
theorem nvS.up {op one two op' one' two' : Nat → Int32} {nw mx nw' mx' : Nat} (hm : mx ≤ mx') (hn : nw ≤ nw') (ha : ∀ j, j < mx → op' j = op j ∧ one' j = one j ∧ two' j = two j) : ∀ {f g n : Nat} {s : List pS}, f ≤ g → nvS op one two nw mx f n s → nvS op' one' two' nw' mx' g n s := by
  intro f
  induction f with
  | zero => intro g n s _ h; exact h.elim
  | succ f ih =>
    intro g n s hg h
    match g with
    | 0 => exact absurd hg (by omega)
    | g + 1 =>
      obtain ⟨h0, h⟩ := h
      obtain ⟨e1, e2, e3⟩ := ha n h0
      refine ⟨by omega, ?_⟩
      rw [e1, e2, e3]
      rcases h with h | h | ⟨e, w, hw, h⟩ | ⟨e, a, s1, ea, h1, h⟩ | ⟨e, a, c, s1, s2, ea, ec, h1, h2, h⟩
      · exact Or.inl h
      · exact Or.inr (Or.inl h)
      · exact Or.inr (Or.inr (Or.inl ⟨e, w, by omega, h⟩))
      · exact Or.inr (Or.inr (Or.inr (Or.inl ⟨e, a, s1, ea, ih (by omega) h1, h⟩)))
      · exact Or.inr (Or.inr (Or.inr (Or.inr ⟨e, a, c, s1, s2, ea, ec, ih (by omega) h1, ih (by omega) h2, h⟩)))
theorem nvT.up {op one two tx op' one' two' tx' : Nat → Int32} {nw mx nw' mx' tm tm' : Nat} (hm : mx ≤ mx') (hn : nw ≤ nw') (ht : tm ≤ tm') (ha : ∀ j, j < mx → op' j = op j ∧ one' j = one j ∧ two' j = two j) (hb : ∀ j, j < tm → tx' j = tx j) : ∀ {f g n : Nat} {s : List pS}, f ≤ g → nvT op one two tx nw mx tm f n s → nvT op' one' two' tx' nw' mx' tm' g n s := by
  intro f
  induction f with
  | zero => intro g n s _ h; exact h.elim
  | succ f ih =>
    intro g n s hg h
    match g with
    | 0 => exact absurd hg (by omega)
    | g + 1 =>
      obtain ⟨h0, h⟩ := h
      obtain ⟨e1, e2, e3⟩ := ha n h0
      refine ⟨by omega, ?_⟩
      rw [e1, e2, e3]
      rcases h with h | ⟨e, fr, l, el, e2, h1, h2, h⟩ | ⟨e, a, s1, ea, h1, h⟩ | ⟨e, a, c, s1, s2, ea, ec, h1, h2, h⟩ | ⟨e, a, c, s1, s2, ea, ec, h1, h2, h⟩
      · exact Or.inl h
      · refine Or.inr (Or.inl ⟨e, fr, l, el, e2, by omega, fun k x hx => ?_, h⟩)
        have := (List.getElem?_eq_some_iff.mp hx).1
        rw [hb (fr + k) (by omega)]
        exact h2 k x hx
      · exact Or.inr (Or.inr (Or.inl ⟨e, a, s1, ea, ih (by omega) h1, h⟩))
      · exact Or.inr (Or.inr (Or.inr (Or.inl ⟨e, a, c, s1, s2, ea, ec, ih (by omega) h1, ih (by omega) h2, h⟩)))
      · exact Or.inr (Or.inr (Or.inr (Or.inr ⟨e, a, c, s1, s2, ea, ec, nvS.up hm hn ha (by omega) h1, nvS.up hm hn ha (by omega) h2, h⟩)))
theorem nvS.nd {op one two : Nat → Int32} {nw mx : Nat} (hm : mx ≤ 401) : ∀ {f n : Nat} {s : List pS}, nvS op one two nw mx f n s → ndS op one two nw f n s := by
  intro f
  induction f with
  | zero => intro n s h; exact h.elim
  | succ f ih =>
    intro n s h
    obtain ⟨h0, h⟩ := h
    refine ⟨by omega, ?_⟩
    rcases h with h | h | h | ⟨e, a, s1, ea, h1, h⟩ | ⟨e, a, c, s1, s2, ea, ec, h1, h2, h⟩
    · exact Or.inl h
    · exact Or.inr (Or.inl h)
    · exact Or.inr (Or.inr (Or.inl h))
    · exact Or.inr (Or.inr (Or.inr (Or.inl ⟨e, a, s1, ea, ih h1, h⟩)))
    · exact Or.inr (Or.inr (Or.inr (Or.inr ⟨e, a, c, s1, s2, ea, ec, ih h1, ih h2, h⟩)))
theorem nvT.nd {op one two tx : Nat → Int32} {nw mx tm : Nat} (hm : mx ≤ 401) (ht : tm ≤ 2000) : ∀ {f n : Nat} {s : List pS}, nvT op one two tx nw mx tm f n s → ndT op one two tx nw f n s := by
  intro f
  induction f with
  | zero => intro n s h; exact h.elim
  | succ f ih =>
    intro n s h
    obtain ⟨h0, h⟩ := h
    refine ⟨by omega, ?_⟩
    rcases h with h | ⟨e, fr, l, el, e2, h1, h2, h⟩ | ⟨e, a, s1, ea, h1, h⟩ | ⟨e, a, c, s1, s2, ea, ec, h1, h2, h⟩ | ⟨e, a, c, s1, s2, ea, ec, h1, h2, h⟩
    · exact Or.inl h
    · exact Or.inr (Or.inl ⟨e, fr, l, el, e2, by omega, h2, h⟩)
    · exact Or.inr (Or.inr (Or.inl ⟨e, a, s1, ea, ih h1, h⟩))
    · exact Or.inr (Or.inr (Or.inr (Or.inl ⟨e, a, c, s1, s2, ea, ec, ih h1, ih h2, h⟩)))
    · exact Or.inr (Or.inr (Or.inr (Or.inr ⟨e, a, c, s1, s2, ea, ec, h1.nd hm, h2.nd hm, h⟩)))
/-- a step of the grammar over what it names -/
def payG (t : tK) (tp : List Int32) (b0 : bK) (x : Int32 × Int32) : pS := (x.1, if x.1 = 13 then spl tp t x.2 else if x.1 = 2 ∨ x.1 = 12 then [fidx (sF t tp b0 x.2.toNatClampNeg).2.2.1.2.1 (spl tp t x.2) 0] else [x.2])
/-- the node of a piece -/
def nvX (T : Bool) (J : pIm) (dr nw mx tm f n : Nat) (s : List pS) : Prop := match T with
  | false => nvS (J (dr + 7)) (J (dr + 8)) (J (dr + 9)) nw mx f n s
  | true => nvT (J (dr + 7)) (J (dr + 8)) (J (dr + 9)) (J (dr + 10)) nw mx tm f n s
theorem nvX.up {T : Bool} {I J : pIm} {dr nw mx tm nw' mx' tm' f g n : Nat} {s : List pS} (h : nvX T I dr nw mx tm f n s) (k : kpV dr I J mx tm) (hm : mx ≤ mx') (hn : nw ≤ nw') (ht : tm ≤ tm') (hg : f ≤ g) : nvX T J dr nw' mx' tm' g n s := by
  cases T with
  | false => exact nvS.up hm hn k.1 hg h
  | true => exact nvT.up hm hn ht k.1 k.2 hg h
/-- what a value's parser finds -/
def vIn (B : pM) (I : pIm) (r td dr : Nat) (tp : List Int32) (t : tK) (n0 : Nat) (b0 : bK) (N : List Nat) (a dd : Nat) (er et : Int32) (nn tx : Nat) : Prop := tkE B I r td dr tp t n0 ∧ pT I r dr tp t n0 a dd er et nn tx ∧ eT (sF t tp b0 a) a er et ∧ nmV t n0 I (r + 29) (I dr 1) 40 N ∧ ((sF t tp b0 a).1 = 0 → N.map (fun x => spl tp t (nI x)) = (sF t tp b0 a).2.2.1.2.1)
theorem vIn.next {B : pM} {I J : pIm} {r td dr n0 a a' dd dd' nn nn' tx tx' : Nat} {tp : List Int32} {t : tK} {b0 : bK} {N : List Nat} {er et er' et' : Int32} (h : vIn B I r td dr tp t n0 b0 N a dd er et nn tx) (f : FrV r dr I J) (p : pT J r dr tp t n0 a' dd' er' et' nn' tx') (e : eT (sF t tp b0 a') a' er' et') (sm : smT (sF t tp b0 a) (sF t tp b0 a')) : vIn B J r td dr tp t n0 b0 N a' dd' er' et' nn' tx' := by
  obtain ⟨h1, h2, h3, h4, h5⟩ := h
  have hy := h1.1.lay
  refine ⟨h1.f f.x, p, e, ⟨?_, h4.2.1, fun k x hx => ?_⟩, fun z => ?_⟩
  · rw [f.2.2 1 (by decide) (by decide)]; exact h4.1
  · rw [f.1 (r + 29) (by omega) (by omega) (by omega)]; exact h4.2.2 k x hx
  · rw [h5 (sm z).1]
    exact (sm z).2.2.1.symm
/-- what it leaves -/
def vOut (B : pM) (r dr : Nat) (tp : List Int32) (t : tK) (n0 : Nat) (b0 : bK) (T : Bool) (I : pIm) (a dd nn tx : Nat) (sP : List (Int32 × Int32)) (ok : Bool) (a' : Nat) (s : List (Int32 × Int32)) (K : Int32 → pM → Prop) : Prop := match ok with
  | true => ∀ (J : pIm) (m nn' tx' : Nat) (er' et' : Int32), FrV r dr I J → kpV dr I J nn tx → pT J r dr tp t n0 a' dd er' et' nn' tx' → nn ≤ nn' → tx ≤ tx' → nn' ≤ nn + (a' - a) → eT (sF t tp b0 a') a' er' et' → smT (sF t tp b0 a) (sF t tp b0 a') → m < nn' → ((sF t tp b0 a').1 = 0 → nvX T J dr (sF t tp b0 a').2.2.1.2.1.length nn' tx' (sP ++ s).length m ((sP ++ s).map (payG t tp b0))) → K (nI m) (pset B J)
  | false => ∀ (J : pIm) (v : Int32) (nn' : Nat), FrV r dr I J → fT J r dr a' nn' → nn' ≤ nn + (a' - a) + 1 → K v (pset B J)
theorem vOut.comp {B : pM} {r dr n0 a a1 a' dd nn nn1 tx tx1 : Nat} {tp : List Int32} {t : tK} {b0 : bK} {T : Bool} {I J : pIm} {sP sQ s s' : List (Int32 × Int32)} {ok : Bool} {K : Int32 → pM → Prop} (h : vOut B r dr tp t n0 b0 T I a dd nn tx sP ok a' s K) (f : FrV r dr I J) (k : kpV dr I J nn tx) (hn : nn ≤ nn1) (ht : tx ≤ tx1) (hb : nn1 ≤ nn + (a1 - a)) (ha : a ≤ a1) (ha' : a1 ≤ a') (sm : smT (sF t tp b0 a) (sF t tp b0 a1)) (hs : ok = true → sP ++ s = sQ ++ s') : vOut B r dr tp t n0 b0 T J a1 dd nn1 tx1 sQ ok a' s' K := by
  cases ok with
  | true =>
    intro J2 m nn' tx' er' et' q1 q2 q3 q4 q5 q6 q7 q8 q9 q10
    refine h J2 m nn' tx' er' et' (f.tr q1) (k.tr q2 hn ht) q3 (by omega) (by omega) (by omega) q7 (sm.tr q8) q9 (fun z => ?_)
    rw [hs rfl]
    exact q10 z
  | false =>
    intro J2 v nn' q1 q2 q3
    exact h J2 v nn' (f.tr q1) q2 (by omega)
theorem sT_mono {tp : List Int32} {t : tK} {n0 a : Nat} (hg : ∃ p, geo tp t p) (hl : t.1.length = n0 + 1) (ha : a < n0) : sT t a + lT tp t a ≤ sT t (a + 1) := by
  obtain ⟨p, g⟩ := hg
  exact g.2.2.2.1 a (by omega)
/-- a token is taken that the reading passes by -/
theorem vIn.skip {B : pM} {I : pIm} {r td dr n0 a dd nn tx : Nat} {tp : List Int32} {t : tK} {b0 : bK} {N : List Nat} {er et : Int32} (h : vIn B I r td dr tp t n0 b0 N a dd er et nn tx) (h24 : kfT t a ≠ 24 ∧ kfT t a ≠ 25 ∧ kfT t a ≠ -1) (h5 : kfT t a ≠ 5) (h20 : kfT t a ≠ 20) (h21 : kfT t a ≠ 21 ∨ (1 ≤ a ∧ kfT t (a - 1) ≠ 2)) : vIn B (u2 I r 12 (nI (a + 1))) r td dr tp t n0 b0 N (a + 1) dd er et nn tx ∧ FrV r dr I (u2 I r 12 (nI (a + 1))) ∧ kpV dr I (u2 I r 12 (nI (a + 1))) nn tx ∧ smT (sF t tp b0 a) (sF t tp b0 (a + 1)) ∧ a < n0 := by
  obtain ⟨h1, ⟨p1, p2, p3, p4, p5, p6, p7, p8, p9, p10, p11⟩, h3, h4, h5'⟩ := id h
  have hy := h1.1.lay
  have hne : dr ≠ r := by omega
  have h400 := h1.2.2.2.2.2.1
  have hlt : a < n0 := h1.2.2.2.2.2.2.1.lt rfl h24.1 h24.2.1 h24.2.2
  have hst := sT_mono h1.2.2.2.2.2.2.2 h1.2.2.2.2.1 hlt
  obtain ⟨e1, e2⟩ := sF_skip (b0 := b0) (show a < 2 ^ 31 by omega) h5 h20 h21 h3
  have f : FrV r dr I (u2 I r 12 (nI (a + 1))) := FrV.u hne (by omega)
  refine ⟨h.next f ⟨u2_same, by rw [u2_j (by decide)]; exact p2, by rw [u2_j (by decide)]; exact p3, by rw [u2_j (by decide)]; exact p4, by rw [u2_j (by decide)]; exact p5, by rw [u2_a hne]; exact p6, by rw [u2_a hne]; exact p7, by omega, by omega, by omega, p11⟩ e1 e2, f, kpV.u (by omega), e2, hlt⟩
/-- the depth is another -/
theorem vIn.dep {B : pM} {I : pIm} {r td dr n0 a dd nn tx dd' : Nat} {tp : List Int32} {t : tK} {b0 : bK} {N : List Nat} {er et : Int32} (h : vIn B I r td dr tp t n0 b0 N a dd er et nn tx) (hd : dd' ≤ 8) : vIn B (u2 I r 13 (nI dd')) r td dr tp t n0 b0 N a dd' er et nn tx ∧ FrV r dr I (u2 I r 13 (nI dd')) ∧ kpV dr I (u2 I r 13 (nI dd')) nn tx := by
  obtain ⟨h1, ⟨p1, p2, p3, p4, p5, p6, p7, p8, p9, p10, p11⟩, h3, h4, h5'⟩ := id h
  have hy := h1.1.lay
  have hne : dr ≠ r := by omega
  have f : FrV r dr I (u2 I r 13 (nI dd')) := FrV.u hne (by omega)
  exact ⟨h.next f ⟨by rw [u2_j (by decide)]; exact p1, u2_same, by rw [u2_j (by decide)]; exact p3, by rw [u2_j (by decide)]; exact p4, by rw [u2_j (by decide)]; exact p5, by rw [u2_a hne]; exact p6, by rw [u2_a hne]; exact p7, p8, p9, p10, hd⟩ h3 smT.rf, f, kpV.u (by omega)⟩
/-- the four places that a node writes -/
def nodeJ (J : pIm) (q nn : Nat) (x y z : Int32) : pIm := u2 (u2 (u2 (u2 J (q + 7) nn x) (q + 8) nn y) (q + 9) nn z) q 10 (nI (nn + 1))
theorem nodeJ_fr {J : pIm} {r dr nn tx : Nat} {x y z : Int32} (hy : dr = r + 6 ∨ dr = r + 17) : FrV r dr J (nodeJ J dr nn x y z) ∧ kpV dr J (nodeJ J dr nn x y z) nn tx ∧ nodeJ J dr nn x y z (dr + 7) nn = x ∧ nodeJ J dr nn x y z (dr + 8) nn = y ∧ nodeJ J dr nn x y z (dr + 9) nn = z ∧ nodeJ J dr nn x y z dr 10 = nI (nn + 1) ∧ nodeJ J dr nn x y z r = J r ∧ ∀ f, f ≠ 10 → nodeJ J dr nn x y z dr f = J dr f := by
  unfold nodeJ
  refine ⟨⟨fun w h1 h2 h3 => by rw [u2_a h2, u2_a (by omega), u2_a (by omega), u2_a (by omega)], fun f _ _ _ _ _ => by rw [u2_a (by omega), u2_a (by omega), u2_a (by omega), u2_a (by omega)], fun f h1 h2 => by rw [u2_j h1, u2_a (by omega), u2_a (by omega), u2_a (by omega)]⟩, ⟨fun j hj => ⟨?_, ?_, ?_⟩, fun j _ => ?_⟩, ?_, ?_, ?_, u2_same, ?_, fun f hf => ?_⟩
  · rw [u2_a (by omega), u2_a (by omega), u2_a (by omega), u2_j (by omega)]
  · rw [u2_a (by omega), u2_a (by omega), u2_j (by omega), u2_a (by omega)]
  · rw [u2_a (by omega), u2_j (by omega), u2_a (by omega), u2_a (by omega)]
  · rw [u2_a (by omega), u2_a (by omega), u2_a (by omega), u2_a (by omega)]
  · rw [u2_a (by omega), u2_a (by omega), u2_a (by omega)]; exact u2_same
  · rw [u2_a (by omega), u2_a (by omega)]; exact u2_same
  · rw [u2_a (by omega)]; exact u2_same
  · rw [u2_a (by omega), u2_a (by omega), u2_a (by omega), u2_a (by omega)]
  · rw [u2_j hf, u2_a (by omega), u2_a (by omega), u2_a (by omega)]
theorem pT.node {J : pIm} {r dr n0 a dd nn tx : Nat} {tp : List Int32} {t : tK} {er et x y z : Int32} (hy : dr = r + 6 ∨ dr = r + 17) (h : pT J r dr tp t n0 a dd er et nn tx) (ha : nn + 1 ≤ a) : pT (nodeJ J dr nn x y z) r dr tp t n0 a dd er et (nn + 1) tx := by
  obtain ⟨p1, p2, p3, p4, p5, p6, p7, p8, p9, p10, p11⟩ := h
  obtain ⟨-, -, -, -, -, q6, q7, q8⟩ := nodeJ_fr (J := J) (nn := nn) (tx := tx) (x := x) (y := y) (z := z) hy
  exact ⟨by rw [q7]; exact p1, by rw [q7]; exact p2, by rw [q7]; exact p3, by rw [q7]; exact p4, by rw [q7]; exact p5, q6, by rw [q8 14 (by decide)]; exact p7, p8, ha, p10, p11⟩
theorem fT.node {J : pIm} {r dr a nn : Nat} {x y z : Int32} (hy : dr = r + 6 ∨ dr = r + 17) (h : fT J r dr a nn) : fT (nodeJ J dr nn x y z) r dr a (nn + 1) := by
  obtain ⟨-, -, -, -, -, q6, q7, q8⟩ := nodeJ_fr (J := J) (nn := nn) (tx := 0) (x := x) (y := y) (z := z) hy
  exact ⟨by rw [q7]; exact h.1, h.2.1, q6⟩
