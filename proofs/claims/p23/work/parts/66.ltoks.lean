/-! THE TAPE, TOKEN BY TOKEN: a tape of pieces (blanks ahead, bytes, kind) -/
def hd0 (l : List Int32) : Int32 := l.getD 0 (-1)
def lenD (l : List Int32) : Nat := if isLt (hd0 l) = 0 ∧ isDg (hd0 l) = 0 then (if (hd0 l = 60 ∨ hd0 l = 62) ∧ l.getD 1 (-1) = 61 then 2 else 1) else rnl (isLt (hd0 l)) l
def kinD (l b : List Int32) : Int32 :=
  if hd0 l < 0 then 24
  else if isLt (hd0 l) = 0 then
    (if isDg (hd0 l) = 0 then (if b.length = 2 then (if hd0 l = 60 then 22 else 23) else (if fiI (hd0 l).toInt8.toInt32 (sB 1) 0 < 0 then 25 else hd0 l))
     else (if b.length ≤ 6 then 21 else 25))
  else (if b.length ≤ 10 then (if 0 ≤ fidx keyw b 0 then fidx keyw b 0 else 20) else 25)
theorem rat_drop {tp : List Int32} {k j : Nat} (h : k + j < 2 ^ 31) : rat tp (nI (k + j)) = (tp.drop k).getD j (-1) := by
  rw [rat_nI h, List.getD_eq_getElem?_getD, List.getD_eq_getElem?_getD, List.getElem?_drop]
theorem rat_hd {tp : List Int32} {k : Nat} (h : k < 2 ^ 31) : rat tp (nI k) = hd0 (tp.drop k) := rat_drop (j := 0) h
theorem lenI_D {tp : List Int32} {k : Nat} (h : k < 3000) : lenI tp k = lenD (tp.drop k) := by
  unfold lenI lenD
  rw [rat_hd (by omega), rat_drop (j := 1) (by omega)]
theorem copyl_pre {tp b R : List Int32} {k : Nat} (h : k + b.length < 3000) (hd : tp.drop k = b ++ R) : copyl tp (nI k) b.length = b := by
  refine List.ext_getElem? (fun j => ?_)
  unfold copyl
  rw [List.getElem?_map]
  by_cases hj : j < b.length
  · rw [List.getElem?_range hj]
    show some (rat tp (nI k + nI j)) = _
    rw [nI_add, rat_drop (by omega), hd, List.getD_eq_getElem?_getD, List.getElem?_append_left hj, List.getElem?_eq_getElem hj]
    rfl
  · rw [List.getElem?_eq_none (by simp; omega), List.getElem?_eq_none (by omega)]
    rfl
theorem kindI_D {tp b R : List Int32} {k : Nat} (h : k + b.length < 3000) (hd : tp.drop k = b ++ R) : kindI tp k b.length = kinD (tp.drop k) b := by
  unfold kindI kinD
  rw [rat_hd (by omega), copyl_pre h hd]
abbrev pcT : Type := Nat × List Int32 × Int32
def ren : List pcT → List Int32
  | [] => []
  | x :: r => List.replicate x.1 32 ++ (x.2.1 ++ ren r)
theorem ren_app {a b : List pcT} : ren (a ++ b) = ren a ++ ren b := by
  induction a with
  | nil => rfl
  | cons x r ih => simp only [List.cons_append, ren, ih, List.append_assoc]
/-- a piece ahead of a rest is a token of its kind -/
def pcO (x : pcT) (R : List Int32) : Prop := (∃ c r, x.2.1 = c :: r ∧ ¬ (c = 32 ∨ c = 10)) ∧ lenD (x.2.1 ++ R) = x.2.1.length ∧ kinD (x.2.1 ++ R) x.2.1 = x.2.2 ∧ x.2.2 ≠ 24 ∧ x.2.2 ≠ 25
def allO (R : List Int32) : List pcT → Prop
  | [] => True
  | x :: r => pcO x (ren r ++ R) ∧ allO R r
def staL (p : Nat) : List pcT → List Int32
  | [] => []
  | x :: r => nI (p + x.1) :: staL (p + x.1 + x.2.1.length) r
theorem skb_rep {n : Nat} {c : Int32} {r : List Int32} (h : ¬ (c = 32 ∨ c = 10)) : skb (List.replicate n 32 ++ c :: r) = n := by
  induction n with
  | zero =>
    show skb (c :: r) = 0
    unfold skb
    rw [if_neg h]
  | succ n ih =>
    show skb (32 :: (List.replicate n 32 ++ c :: r)) = n + 1
    unfold skb
    rw [if_pos (Or.inl rfl), ih]
theorem tkR_pcs {tp R : List Int32} (h2 : tp.length ≤ 2000) : ∀ (ps : List pcT) (m i p : Nat) (t : tK), tp.drop p = ren ps ++ R → p ≤ tp.length → i + ps.length ≤ 400 → allO R ps →
    tkR tp (m + ps.length) i p t = tkR tp m (i + ps.length) (p + (ren ps).length) (t.1 ++ ps.map (fun x => x.2.2), t.2.1 ++ staL p ps, t.2.2 ++ ps.map (fun x => nI x.2.1.length)) := by
  intro ps
  induction ps with
  | nil =>
    intro m i p t hd hp hi ho
    simp [ren, staL]
  | cons x r ih =>
    intro m i p t hd hp hi ho
    obtain ⟨⟨⟨c, cr, c1, c2⟩, o2, o3, o4, o5⟩, orest⟩ := ho
    have hdl : (tp.drop p).length = tp.length - p := List.length_drop
    have hl1 : (List.replicate x.1 32 ++ (x.2.1 ++ ren r) ++ R).length = tp.length - p := by rw [← hdl, hd]; rfl
    simp only [List.length_append, List.length_replicate] at hl1
    have hx : 1 ≤ x.2.1.length := by rw [c1]; simp
    have hA : tkA tp p = p + x.1 := by
      unfold tkA
      rw [hd]
      show p + skb (List.replicate x.1 32 ++ (x.2.1 ++ ren r) ++ R) = _
      rw [c1, List.append_assoc, List.append_assoc, List.cons_append, skb_rep c2]
    have hd2 : tp.drop (p + x.1) = x.2.1 ++ (ren r ++ R) := by
      rw [← List.drop_drop, hd]
      show (List.replicate x.1 32 ++ (x.2.1 ++ ren r) ++ R).drop x.1 = _
      rw [List.append_assoc, List.append_assoc]
      exact List.drop_left' List.length_replicate
    have hd3 : tp.drop (p + x.1 + x.2.1.length) = ren r ++ R := by
      rw [← List.drop_drop, hd2]
      exact List.drop_left' rfl
    have hL : lenI tp (p + x.1) = x.2.1.length := by rw [lenI_D (by omega), hd2, o2]
    have hK : tkK tp i (tkA tp p) = x.2.2 := by
      have hi4 : ¬ i = 400 := by simp only [List.length_cons] at hi; omega
      unfold tkK
      rw [if_neg hi4, hA, hL, kindI_D (by omega) hd2, hd2, o3]
    have e : m + (x :: r).length = (m + r.length) + 1 := by simp only [List.length_cons]; omega
    rw [e]
    show (if tkK tp i (tkA tp p) = 24 ∨ tkK tp i (tkA tp p) = 25 then _ else tkR tp (m + r.length) (i + 1) (tkA tp p + lenI tp (tkA tp p)) (t.1 ++ [tkK tp i (tkA tp p)], t.2.1 ++ [nI (tkA tp p)], t.2.2 ++ [nI (lenI tp (tkA tp p))])) = _
    rw [hK, if_neg (fun z => z.elim o4 o5), hA, hL]
    simp only [List.length_cons] at hi
    rw [ih m (i + 1) _ _ hd3 (by omega) (by omega) orest]
    have e1 : i + 1 + r.length = i + (x :: r).length := by simp only [List.length_cons]; omega
    have e2 : p + x.1 + x.2.1.length + (ren r).length = p + (ren (x :: r)).length := by
      show _ = p + (List.replicate x.1 32 ++ (x.2.1 ++ ren r)).length
      simp only [List.length_append, List.length_replicate]
      omega
    rw [e1, e2]
    simp only [List.map_cons, staL, List.append_assoc, List.cons_append, List.nil_append]
theorem tkR_end {tp : List Int32} (h2 : tp.length ≤ 2000) (m i : Nat) (t : tK) : tkR tp (m + 1) i tp.length t = (t.1 ++ [24], t.2.1 ++ [nI tp.length], t.2.2 ++ [nI (lenI tp tp.length)]) := by
  have hA : tkA tp tp.length = tp.length := by
    unfold tkA
    rw [List.drop_length]
    rfl
  have h24 : kindI tp tp.length (lenI tp tp.length) = 24 := by
    unfold kindI
    have : rat tp (nI tp.length) = -1 := rat_out (Nat.le_refl _) (by omega)
    rw [this, if_pos (by decide)]
  have hK : tkK tp i (tkA tp tp.length) = 24 := by
    unfold tkK
    rw [hA, h24]
    split <;> rfl
  show (if tkK tp i (tkA tp tp.length) = 24 ∨ tkK tp i (tkA tp tp.length) = 25 then _ else _) = _
  rw [hK, if_pos (Or.inl rfl), hA]
/-- the tokens of a tape of pieces -/
theorem tkT_pcs {ps : List pcT} (h2 : (ren ps).length ≤ 2000) (hn : ps.length ≤ 400) (ho : allO [] ps) : tkT (ren ps) = (ps.map (fun x => x.2.2) ++ [24], staL 0 ps ++ [nI (ren ps).length], ps.map (fun x => nI x.2.1.length) ++ [nI (lenI (ren ps) (ren ps).length)]) := by
  unfold tkT
  have e : 401 = (400 - ps.length + 1) + ps.length := by omega
  have := tkR_pcs (tp := ren ps) (R := []) h2 ps (400 - ps.length + 1) 0 0 ([], [], []) (by rw [List.drop_zero, List.append_nil]) (Nat.zero_le _) (by omega) ho
  rw [← e] at this
  rw [this, Nat.zero_add, Nat.zero_add, tkR_end h2]
  rfl
/-- where a piece lies -/
theorem sta_at {tp R : List Int32} : ∀ (ps : List pcT) (p : Nat), tp.drop p = ren ps ++ R → ∀ (j : Nat) (x : pcT), ps[j]? = some x → ∃ (o : Nat) (R' : List Int32), (staL p ps)[j]? = some (nI o) ∧ tp.drop o = x.2.1 ++ R' ∧ p ≤ o ∧ o + x.2.1.length ≤ p + (ren ps).length := by
  intro ps
  induction ps with
  | nil => intro p hd j x hj; simp at hj
  | cons y r ih =>
    intro p hd j x hj
    have hd2 : tp.drop (p + y.1) = y.2.1 ++ (ren r ++ R) := by
      rw [← List.drop_drop, hd]
      show (List.replicate y.1 32 ++ (y.2.1 ++ ren r) ++ R).drop y.1 = _
      rw [List.append_assoc, List.append_assoc]
      exact List.drop_left' List.length_replicate
    have hl : (ren (y :: r)).length = y.1 + (y.2.1.length + (ren r).length) := by
      show (List.replicate y.1 32 ++ (y.2.1 ++ ren r)).length = _
      simp only [List.length_append, List.length_replicate]
    cases j with
    | zero =>
      simp only [List.getElem?_cons_zero, Option.some.injEq] at hj
      subst hj
      exact ⟨p + y.1, ren r ++ R, rfl, hd2, by omega, by rw [hl]; omega⟩
    | succ j =>
      have hj2 : r[j]? = some x := by simpa using hj
      have hd3 : tp.drop (p + y.1 + y.2.1.length) = ren r ++ R := by
        rw [← List.drop_drop, hd2]
        exact List.drop_left' rfl
      obtain ⟨o, R', h1, h2, h3, h4⟩ := ih _ hd3 j x hj2
      exact ⟨o, R', by show (staL _ r)[j]? = _; exact h1, h2, by omega, by rw [hl]; omega⟩
theorem tok_spl {ps : List pcT} (h2 : (ren ps).length ≤ 2000) (hn : ps.length ≤ 400) (ho : allO [] ps) {j : Nat} {x : pcT} (hj : ps[j]? = some x) (hx : x.2.1.length ≤ 10) : spl (ren ps) (tkT (ren ps)) (nI j) = x.2.1 := by
  obtain ⟨o, R', h1, h3, h4, h5⟩ := sta_at (tp := ren ps) (R := []) ps 0 (by rw [List.drop_zero, List.append_nil]) j x hj
  have hjl : j < ps.length := (List.getElem?_eq_some_iff.mp hj).1
  have hsl : j < (staL 0 ps).length := (List.getElem?_eq_some_iff.mp h1).1
  rw [tkT_pcs h2 hn ho]
  unfold spl
  dsimp only
  rw [rat_nI (by omega), rat_nI (by omega), List.getD_eq_getElem?_getD, List.getElem?_append_left hsl, h1, List.getD_eq_getElem?_getD, List.getElem?_append_left (by rw [List.length_map]; exact hjl), List.getElem?_map, hj]
  show copyl (ren ps) (nI o) (min (nI x.2.1.length).toNatClampNeg 10) = _
  rw [nI_clamp (by omega), Nat.min_eq_left hx]
  exact copyl_pre (by omega) h3
theorem tok_num1 {ps : List pcT} (h2 : (ren ps).length ≤ 2000) (hn : ps.length ≤ 400) (ho : allO [] ps) {j : Nat} {x : pcT} (hj : ps[j]? = some x) {a : Int32} (hx : x.2.1 = [a]) : numO (ren ps) (tkT (ren ps)) (nI j) = a - 48 := by
  obtain ⟨o, R', h1, h3, h4, h5⟩ := sta_at (tp := ren ps) (R := []) ps 0 (by rw [List.drop_zero, List.append_nil]) j x hj
  have hjl : j < ps.length := (List.getElem?_eq_some_iff.mp hj).1
  have hsl : j < (staL 0 ps).length := (List.getElem?_eq_some_iff.mp h1).1
  rw [tkT_pcs h2 hn ho]
  unfold numO
  dsimp only
  rw [rat_nI (by omega), rat_nI (by omega), List.getD_eq_getElem?_getD, List.getElem?_append_left hsl, h1, List.getD_eq_getElem?_getD, List.getElem?_append_left (by rw [List.length_map]; exact hjl), List.getElem?_map, hj]
  show numL (ren ps) (nI o) (min (nI x.2.1.length).toNatClampNeg 6) = _
  rw [hx] at h3 h5 ⊢
  simp only [List.length_singleton] at h5
  show numL (ren ps) (nI o) 1 = _
  show 0 * 10 + rat (ren ps) (nI o + nI 0) - 48 = _
  rw [nI_add, rat_drop (k := o) (j := 0) (by omega), h3]
  show 0 * 10 + a - 48 = a - 48
  rw [show (0 : Int32) * 10 = 0 from rfl, Int32.zero_add]
theorem tok_num2 {ps : List pcT} (h2 : (ren ps).length ≤ 2000) (hn : ps.length ≤ 400) (ho : allO [] ps) {j : Nat} {x : pcT} (hj : ps[j]? = some x) {a b : Int32} (hx : x.2.1 = [a, b]) : numO (ren ps) (tkT (ren ps)) (nI j) = (a - 48) * 10 + b - 48 := by
  obtain ⟨o, R', h1, h3, h4, h5⟩ := sta_at (tp := ren ps) (R := []) ps 0 (by rw [List.drop_zero, List.append_nil]) j x hj
  have hjl : j < ps.length := (List.getElem?_eq_some_iff.mp hj).1
  have hsl : j < (staL 0 ps).length := (List.getElem?_eq_some_iff.mp h1).1
  rw [tkT_pcs h2 hn ho]
  unfold numO
  dsimp only
  rw [rat_nI (by omega), rat_nI (by omega), List.getD_eq_getElem?_getD, List.getElem?_append_left hsl, h1, List.getD_eq_getElem?_getD, List.getElem?_append_left (by rw [List.length_map]; exact hjl), List.getElem?_map, hj]
  show numL (ren ps) (nI o) (min (nI x.2.1.length).toNatClampNeg 6) = _
  rw [hx] at h3 h5 ⊢
  have h5' : o + 2 ≤ 0 + (ren ps).length := h5
  show numL (ren ps) (nI o) 2 = _
  show (0 * 10 + rat (ren ps) (nI o + nI 0) - 48) * 10 + rat (ren ps) (nI o + nI 1) - 48 = _
  rw [nI_add, nI_add, rat_drop (k := o) (j := 0) (by omega), rat_drop (k := o) (j := 1) (by omega), h3]
  show (0 * 10 + a - 48) * 10 + b - 48 = _
  rw [show (0 : Int32) * 10 = 0 from rfl, Int32.zero_add]
/-! which pieces are tokens -/
theorem rnl_app {f : Int32} {b R : List Int32} (hb : ∀ x ∈ b, ¬ (isDg x = 0 ∧ (f = 0 ∨ isLt x = 0))) (hR : ∀ c r, R = c :: r → isDg c = 0 ∧ (f = 0 ∨ isLt c = 0)) : rnl f (b ++ R) = b.length := by
  induction b with
  | nil =>
    cases R with
    | nil => rfl
    | cons c r =>
      show rnl f (c :: r) = 0
      unfold rnl
      rw [if_pos (hR c r rfl)]
  | cons x b ih =>
    show rnl f (x :: (b ++ R)) = b.length + 1
    unfold rnl
    rw [if_neg (hb x List.mem_cons_self), ih (fun y hy => hb y (List.mem_cons_of_mem _ hy))]
/-- nothing that goes on with a name stands ahead -/
def stpH (R : List Int32) : Bool := match R with
  | [] => true
  | c :: _ => decide (isDg c = 0) && decide (isLt c = 0)
theorem stpH_of {R : List Int32} (h : stpH R = true) : ∀ c r, R = c :: r → isDg c = 0 ∧ isLt c = 0 := by
  intro c r e
  subst e
  unfold stpH at h
  rw [Bool.and_eq_true, decide_eq_true_eq, decide_eq_true_eq] at h
  exact h
theorem isLt_t {c : Int32} (h1 : 97 ≤ c) (h2 : c ≤ 122) : isLt c = 1 := by
  unfold isLt
  rw [if_neg (Int32.not_lt.mpr h1), if_neg (Int32.not_lt.mpr h2)]
/-- a name or a keyword -/
theorem pcO_w {n : Nat} {b R : List Int32} {k c : Int32} {r : List Int32} (hc : b = c :: r) (h1 : 97 ≤ c) (h2 : c ≤ 122) (hb : ∀ x ∈ b, isLt x ≠ 0 ∨ isDg x ≠ 0) (hl : b.length ≤ 10) (hk : (if 0 ≤ fidx keyw b 0 then fidx keyw b 0 else 20) = k) (k1 : k ≠ 24) (k2 : k ≠ 25) (hR : stpH R = true) : pcO (n, b, k) R := by
  have e1 : hd0 (b ++ R) = c := by rw [hc]; rfl
  have l1 := isLt_t h1 h2
  refine ⟨⟨c, r, hc, fun z => ?_⟩, ?_, ?_, k1, k2⟩
  · rcases z with z | z
    · rw [z] at h1; exact absurd h1 (by decide)
    · rw [z] at h1; exact absurd h1 (by decide)
  · show lenD (b ++ R) = b.length
    unfold lenD
    rw [e1, l1, if_neg (fun z => absurd z.1 (by decide))]
    refine rnl_app (fun x hx z => ?_) (fun c r e => ⟨(stpH_of hR c r e).1, Or.inr (stpH_of hR c r e).2⟩)
    rcases hb x hx with g | g
    · rcases z.2 with q | q
      · exact absurd q (by decide)
      · exact g q
    · exact g z.1
  · show kinD (b ++ R) b = k
    unfold kinD
    rw [e1, l1, if_neg (fun z => ?_), if_neg (by decide), if_pos hl, hk]
    exact absurd (Int32.lt_of_lt_of_le z (by decide : (0 : Int32) ≤ 97)) (Int32.not_lt.mpr h1)
/-- a number -/
theorem pcO_n {n : Nat} {b R : List Int32} {c : Int32} {r : List Int32} (hc : b = c :: r) (h1 : 48 ≤ c) (h2 : c ≤ 57) (hb : ∀ x ∈ b, isDg x ≠ 0) (hl : b.length ≤ 6) (hR : stpH R = true) : pcO (n, b, 21) R := by
  have e1 : hd0 (b ++ R) = c := by rw [hc]; rfl
  have l0 : isLt c = 0 := by
    unfold isLt
    rw [if_pos (Int32.lt_of_le_of_lt h2 (by decide))]
  have d1 : isDg c ≠ 0 := hb c (by rw [hc]; exact List.mem_cons_self)
  refine ⟨⟨c, r, hc, fun z => ?_⟩, ?_, ?_, (by decide : (21 : Int32) ≠ 24), (by decide : (21 : Int32) ≠ 25)⟩
  · rcases z with z | z
    · rw [z] at h1; exact absurd h1 (by decide)
    · rw [z] at h1; exact absurd h1 (by decide)
  · show lenD (b ++ R) = b.length
    unfold lenD
    rw [e1, l0, if_neg (fun z => d1 z.2)]
    exact rnl_app (fun x hx z => hb x hx z.1) (fun c r e => ⟨(stpH_of hR c r e).1, Or.inl rfl⟩)
  · show kinD (b ++ R) b = 21
    unfold kinD
    rw [e1, l0, if_neg (fun z => ?_), if_pos rfl, if_neg d1, if_pos hl]
    exact absurd (Int32.lt_of_lt_of_le z (by decide : (0 : Int32) ≤ 48)) (Int32.not_lt.mpr h1)
/-- a sign -/
theorem pcO_s {n : Nat} {R : List Int32} {c : Int32} (h : (decide (¬ (c = 32 ∨ c = 10)) && decide (isLt c = 0) && decide (isDg c = 0) && decide (¬ c < 0) && decide (¬ fiI c.toInt8.toInt32 (sB 1) 0 < 0) && decide (c ≠ 24) && decide (c ≠ 25)) = true) (hR : ¬ ((c = 60 ∨ c = 62) ∧ R.getD 0 (-1) = 61)) : pcO (n, [c], c) R := by
  simp only [Bool.and_eq_true, decide_eq_true_eq] at h
  obtain ⟨⟨⟨⟨⟨⟨a1, a2⟩, a3⟩, a4⟩, a5⟩, a6⟩, a7⟩ := h
  have e1 : hd0 ([c] ++ R) = c := rfl
  refine ⟨⟨c, [], rfl, a1⟩, ?_, ?_, a6, a7⟩
  · show lenD ([c] ++ R) = 1
    unfold lenD
    rw [e1, if_pos ⟨a2, a3⟩]
    exact if_neg hR
  · show kinD ([c] ++ R) [c] = c
    unfold kinD
    rw [e1, if_neg a4, if_pos a2, if_pos a3, if_neg (show ¬ [c].length = 2 from fun z => absurd (show (1 : Nat) = 2 from z) (by decide)), if_neg a5]
