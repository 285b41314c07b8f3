/-! THE REFERENCE: where the tokens lie -/
def sT (t : tK) (j : Nat) : Nat := (t.2.1.getD j 0).toNatClampNeg
def lT (tp : List Int32) (t : tK) (j : Nat) : Nat := lenI tp (sT t j)
/-- the tokens' places: token by token, one behind the other, none beyond p -/
def geo (tp : List Int32) (t : tK) (p : Nat) : Prop := t.2.1.length = t.1.length ∧ t.2.2.length = t.1.length ∧ (∀ j, j < t.1.length → t.2.1[j]? = some (nI (sT t j)) ∧ sT t j ≤ tp.length ∧ t.2.2[j]? = some (nI (lT tp t j)) ∧ t.1[j]? = some (tkK tp j (sT t j))) ∧ (∀ j, j + 1 < t.1.length → sT t j + lT tp t j ≤ sT t (j + 1)) ∧ ∀ j, j + 1 = t.1.length → sT t j + lT tp t j ≤ p
theorem sT_app {t : tK} {x y z : List Int32} {j : Nat} (h : j < t.2.1.length) : sT (t.1 ++ x, t.2.1 ++ y, t.2.2 ++ z) j = sT t j := by
  show ((t.2.1 ++ y).getD j 0).toNatClampNeg = (t.2.1.getD j 0).toNatClampNeg
  rw [List.getD_eq_getElem?_getD, List.getD_eq_getElem?_getD, List.getElem?_append_left h]
theorem geo.add {tp : List Int32} {t : tK} {p : Nat} (h2 : tp.length ≤ 2000) (hp : p ≤ tp.length) (h : geo tp t p) : geo tp (t.1 ++ [tkK tp t.1.length (tkA tp p)], t.2.1 ++ [nI (tkA tp p)], t.2.2 ++ [nI (lenI tp (tkA tp p))]) (tkA tp p + lenI tp (tkA tp p)) := by
  obtain ⟨h1, h1', h3, h4, h5⟩ := h
  have ha := tkA_le hp
  have hpa : p ≤ tkA tp p := by unfold tkA; omega
  have eN : sT (t.1 ++ [tkK tp t.1.length (tkA tp p)], t.2.1 ++ [nI (tkA tp p)], t.2.2 ++ [nI (lenI tp (tkA tp p))]) t.1.length = tkA tp p := by
    show ((t.2.1 ++ [nI (tkA tp p)]).getD t.1.length 0).toNatClampNeg = _
    rw [List.getD_eq_getElem?_getD, ← h1, List.getElem?_append_right (Nat.le_refl _), Nat.sub_self]
    exact nI_clamp (by omega)
  have eO : ∀ j, j < t.1.length → sT (t.1 ++ [tkK tp t.1.length (tkA tp p)], t.2.1 ++ [nI (tkA tp p)], t.2.2 ++ [nI (lenI tp (tkA tp p))]) j = sT t j := fun j hj => sT_app (by omega)
  have len1 : (t.1 ++ [tkK tp t.1.length (tkA tp p)]).length = t.1.length + 1 := by rw [List.length_append]; rfl
  refine ⟨by rw [List.length_append, List.length_append, h1]; rfl, by rw [List.length_append, List.length_append, h1']; rfl, fun j hj => ?_, fun j hj => ?_, fun j hj => ?_⟩
  · have hj' : j < t.1.length + 1 := by rw [← len1]; exact hj
    by_cases c : j < t.1.length
    · obtain ⟨q1, q2, q3, q4⟩ := h3 j c
      unfold lT
      rw [eO j c]
      refine ⟨?_, q2, ?_, ?_⟩
      · show (t.2.1 ++ [nI (tkA tp p)])[j]? = _
        rw [List.getElem?_append_left (by omega)]; exact q1
      · show (t.2.2 ++ [nI (lenI tp (tkA tp p))])[j]? = _
        rw [List.getElem?_append_left (by omega)]; exact q3
      · show (t.1 ++ [tkK tp t.1.length (tkA tp p)])[j]? = _
        rw [List.getElem?_append_left (by omega)]; exact q4
    · have e : j = t.1.length := by omega
      subst e
      unfold lT
      rw [eN]
      refine ⟨?_, ha, ?_, ?_⟩
      · show (t.2.1 ++ [nI (tkA tp p)])[t.1.length]? = _
        rw [List.getElem?_append_right (by omega), h1, Nat.sub_self]; rfl
      · show (t.2.2 ++ [nI (lenI tp (tkA tp p))])[t.1.length]? = _
        rw [List.getElem?_append_right (by omega), h1', Nat.sub_self]; rfl
      · show (t.1 ++ [tkK tp t.1.length (tkA tp p)])[t.1.length]? = _
        rw [List.getElem?_append_right (by omega), Nat.sub_self]; rfl
  · have hj' : j + 1 < t.1.length + 1 := by rw [← len1]; exact hj
    unfold lT
    rw [eO j (by omega)]
    by_cases c : j + 1 < t.1.length
    · rw [eO (j + 1) c]; exact h4 j c
    · have e : j + 1 = t.1.length := by omega
      rw [e, eN]
      have := h5 j e
      unfold lT at this
      omega
  · have hj' : j + 1 = t.1.length + 1 := by rw [← len1]; exact hj
    have e : j = t.1.length := by omega
    unfold lT
    rw [e, eN]
    exact Nat.le_refl _
theorem tkR_geo {tp : List Int32} (h2 : tp.length ≤ 2000) : ∀ (m i p : Nat) (t : tK), i + m = 401 → p ≤ tp.length → t.1.length = i → geo tp t p → ∃ p', geo tp (tkR tp m i p t) p' := by
  intro m
  induction m with
  | zero => intro i p t _ _ _ h; exact ⟨p, h⟩
  | succ m ih =>
    intro i p t hm hp hl h
    have g := h.add h2 hp
    rw [hl] at g
    rw [tkR]
    by_cases c : tkK tp i (tkA tp p) = 24 ∨ tkK tp i (tkA tp p) = 25
    · rw [if_pos c]
      exact ⟨_, g⟩
    · rw [if_neg c]
      have ha := tkA_le hp
      have hin : tkA tp p < tp.length := by
        refine Nat.not_le.mp (fun z => c (Or.inl ?_))
        have e := rat_out (l := tp) z (by omega)
        have ek : kindI tp (tkA tp p) (lenI tp (tkA tp p)) = 24 := by unfold kindI; rw [e, if_pos (by decide)]
        unfold tkK
        rw [ek]
        split <;> rfl
      exact ih (i + 1) _ _ (by omega) (lenI_le h2 hin) (by rw [List.length_append, hl]; rfl) g
theorem tkT_geo {tp : List Int32} (h2 : tp.length ≤ 2000) : ∃ p, geo tp (tkT tp) p := tkR_geo h2 401 0 0 ([], [], []) (by omega) (by omega) rfl ⟨rfl, rfl, fun j hj => absurd hj (by simp), fun j hj => absurd hj (by simp), fun j hj => absurd hj (by simp)⟩
theorem kind20 {tp : List Int32} {k n : Nat} (hb : byteL tp) (h : kindI tp k n = 20) : n ≤ 10 ∧ isLt (rat tp (nI k)) ≠ 0 := by
  unfold kindI at h
  by_cases c0 : rat tp (nI k) < 0
  · rw [if_pos c0] at h; exact absurd h (by decide)
  rw [if_neg c0] at h
  by_cases c1 : isLt (rat tp (nI k)) = 0
  · rw [if_pos c1] at h
    by_cases c2 : isDg (rat tp (nI k)) = 0
    · rw [if_pos c2] at h
      by_cases c3 : n = 2
      · rw [if_pos c3] at h
        split at h
        · exact absurd h (by decide)
        · exact absurd h (by decide)
      · rw [if_neg c3] at h
        by_cases c4 : fiI (rat tp (nI k)).toInt8.toInt32 (sB 1) 0 < 0
        · rw [if_pos c4] at h; exact absurd h (by decide)
        · rw [if_neg c4] at h
          have hb2 := (rat_byte hb (nI k)).resolve_left (fun z => c0 (by rw [z]; decide))
          have := fun z => c4 ((sgn_fi hb2.1 hb2.2).mpr z)
          rw [h] at this
          exact absurd (by unfold sgn; decide) this
    · rw [if_neg c2] at h
      split at h
      · exact absurd h (by decide)
      · exact absurd h (by decide)
  · rw [if_neg c1] at h
    by_cases c2 : n ≤ 10
    · exact ⟨c2, c1⟩
    · rw [if_neg c2] at h; exact absurd h (by decide)
/-- a name token: its bytes lie in the tape, one to ten of them -/
theorem name_tok {tp : List Int32} {t : tK} {p a : Nat} (h2 : tp.length ≤ 2000) (hb : byteL tp) (g : geo tp t p) (hl : t.1.length ≤ 401) (h : kfT t a = 20) : a < t.1.length ∧ 1 ≤ lT tp t a ∧ lT tp t a ≤ 10 ∧ sT t a + lT tp t a ≤ tp.length ∧ spl tp t (nI a) = copyl tp (nI (sT t a)) (lT tp t a) := by
  have ha : a < t.1.length := by
    refine Nat.not_le.mp (fun z => ?_)
    unfold kfT at h
    rw [List.getD_eq_getElem?_getD, List.getElem?_eq_none z] at h
    exact absurd h (by decide)
  obtain ⟨q1, q2, q3, q4⟩ := g.2.2.1 a ha
  have hk : tkK tp a (sT t a) = 20 := by
    unfold kfT at h
    rw [List.getD_eq_getElem?_getD, q4] at h
    exact h
  have hk2 : kindI tp (sT t a) (lT tp t a) = 20 := by
    unfold tkK at hk
    unfold lT
    split at hk
    · split at hk
      · exact hk
      · exact absurd hk (by decide)
    · exact hk
  obtain ⟨k1, k2⟩ := kind20 hb hk2
  have hin : sT t a < tp.length := by
    refine Nat.not_le.mp (fun z => k2 ?_)
    rw [rat_out z (by omega)]
    rfl
  have e1 : isLt (rat tp (nI (sT t a))) = 1 := isLt_01.resolve_left k2
  have el : lT tp t a = rnl 1 (tp.drop (sT t a)) := by
    unfold lT lenI
    rw [if_neg (fun z => k2 z.1), e1]
  refine ⟨ha, ?_, k1, ?_, ?_⟩
  · rw [el, rnl_step hin, if_neg (fun z => ?_)]
    · omega
    · have ex := rat_in (List.getElem?_eq_getElem hin) (show tp.length < 2 ^ 31 by omega)
      rw [ex] at k2
      exact k2 (z.2.resolve_left (by decide))
  · unfold lT
    exact lenI_le h2 hin
  · unfold spl
    have r1 : rat t.2.1 (nI a) = nI (sT t a) := rat_in q1 (by rw [g.1]; omega)
    have r2 : rat t.2.2 (nI a) = nI (lT tp t a) := rat_in q3 (by rw [g.2.1]; omega)
    rw [r1, r2, nI_clamp (by omega), Nat.min_eq_left k1]
/-! THE READING, TOKEN BY TOKEN -/
/-- the first a tokens, looked at: the error and where it is, the book, the meanings -/
def sF (t : tK) (tp : List Int32) (b0 : bK) (a : Nat) : Int32 × Nat × bK × List Int32 := smF t tp a 0 b0 (List.replicate 401 (-1))
theorem smF_snoc {t : tK} {tp : List Int32} : ∀ (n i : Nat) (b : bK) (me : List Int32), smF t tp (n + 1) i b me = if (smF t tp n i b me).1 = 0 then (if (lkAt t tp (i + n) (smF t tp n i b me).2.2.1 (smF t tp n i b me).2.2.2).1 = 0 then (0, i + n + 1, (lkAt t tp (i + n) (smF t tp n i b me).2.2.1 (smF t tp n i b me).2.2.2).2.1, (lkAt t tp (i + n) (smF t tp n i b me).2.2.1 (smF t tp n i b me).2.2.2).2.2) else ((lkAt t tp (i + n) (smF t tp n i b me).2.2.1 (smF t tp n i b me).2.2.2).1, i + n, (smF t tp n i b me).2.2.1, (smF t tp n i b me).2.2.2)) else smF t tp n i b me := by
  intro n
  induction n with
  | zero =>
    intro i b me
    rw [smF]
    show _ = if (0 : Int32) = 0 then _ else _
    rw [if_pos rfl]
    rfl
  | succ n ih =>
    intro i b me
    rw [smF]
    by_cases c : (lkAt t tp i b me).1 = 0
    · have e1 : smF t tp (n + 1) i b me = smF t tp n (i + 1) (lkAt t tp i b me).2.1 (lkAt t tp i b me).2.2 := by rw [smF, if_pos c]
      rw [if_pos c, e1, ih, show i + 1 + n = i + (n + 1) by omega]
    · have e1 : smF t tp (n + 1) i b me = ((lkAt t tp i b me).1, i, b, me) := by rw [smF, if_neg c]
      rw [if_neg c, e1, if_neg c]
theorem sF_succ {t : tK} {tp : List Int32} {b0 : bK} {a : Nat} : sF t tp b0 (a + 1) = if (sF t tp b0 a).1 = 0 then (if (lkAt t tp a (sF t tp b0 a).2.2.1 (sF t tp b0 a).2.2.2).1 = 0 then (0, a + 1, (lkAt t tp a (sF t tp b0 a).2.2.1 (sF t tp b0 a).2.2.2).2.1, (lkAt t tp a (sF t tp b0 a).2.2.1 (sF t tp b0 a).2.2.2).2.2) else ((lkAt t tp a (sF t tp b0 a).2.2.1 (sF t tp b0 a).2.2.2).1, a, (sF t tp b0 a).2.2.1, (sF t tp b0 a).2.2.2)) else sF t tp b0 a := by
  have := smF_snoc (t := t) (tp := tp) a 0 b0 (List.replicate 401 (-1))
  rw [Nat.zero_add] at this
  exact this
/-- the reference's error, beside the reading's -/
def eT (f : Int32 × Nat × bK × List Int32) (a : Nat) (er et : Int32) : Prop := (f.1 = 0 ∧ er = 0) ∨ (f.1 ≠ 0 ∧ er = f.1 ∧ f.2.1 < a ∧ et = nI f.2.1)
/-- the same but for the names behind begins -/
def bSm (b b' : bK) : Prop := b'.1 = b.1 ∧ b'.2.1 = b.2.1 ∧ b'.2.2.1 = b.2.2.1 ∧ b'.2.2.2.1 = b.2.2.2.1 ∧ b'.2.2.2.2.1 = b.2.2.2.2.1 ∧ b'.2.2.2.2.2.1 = b.2.2.2.2.2.1
theorem bSm.rf {b : bK} : bSm b b := ⟨rfl, rfl, rfl, rfl, rfl, rfl⟩
theorem bSm.tr {b c e : bK} (h : bSm b c) (g : bSm c e) : bSm b e := ⟨g.1.trans h.1, g.2.1.trans h.2.1, g.2.2.1.trans h.2.2.1, g.2.2.2.1.trans h.2.2.2.1, g.2.2.2.2.1.trans h.2.2.2.2.1, g.2.2.2.2.2.trans h.2.2.2.2.2⟩
/-- from token a to token a' the reading has met values alone -/
def smT (f f' : Int32 × Nat × bK × List Int32) : Prop := f'.1 = 0 → f.1 = 0 ∧ bSm f.2.2.1 f'.2.2.1
theorem smT.rf {f : Int32 × Nat × bK × List Int32} : smT f f := fun h => ⟨h, bSm.rf⟩
theorem smT.tr {f g e : Int32 × Nat × bK × List Int32} (h : smT f g) (k : smT g e) : smT f e := fun z => ⟨(h (k z).1).1, (h (k z).1).2.tr (k z).2⟩
/-- a token that the reading passes by -/
theorem sF_skip {t : tK} {tp : List Int32} {b0 : bK} {a : Nat} {er et : Int32} (ha : a < 2 ^ 31) (h5 : kfT t a ≠ 5) (h20 : kfT t a ≠ 20) (h21 : kfT t a ≠ 21 ∨ (1 ≤ a ∧ kfT t (a - 1) ≠ 2)) (h : eT (sF t tp b0 a) a er et) : eT (sF t tp b0 (a + 1)) (a + 1) er et ∧ smT (sF t tp b0 a) (sF t tp b0 (a + 1)) := by
  have ek : rat t.1 (nI a) = kfT t a := rat_nI ha
  have el : (lkAt t tp a (sF t tp b0 a).2.2.1 (sF t tp b0 a).2.2.2) = (0, (sF t tp b0 a).2.2.1, (sF t tp b0 a).2.2.2) := by
    unfold lkAt
    rw [ek, if_neg h5, if_neg h20]
    by_cases c : kfT t a = 21
    · obtain ⟨h1, h2⟩ := h21.resolve_left (fun z => z c)
      have e1 : nI a - 1 = nI (a - 1) := nI_sub (b := 1) h1
      rw [if_pos c, e1, rat_nI (by omega), if_neg (show ¬ t.1.getD (a - 1) (-1) = 2 from h2)]
    · rw [if_neg c]
  rw [sF_succ, el]
  rcases h with ⟨h1, h2⟩ | ⟨h1, h2, h3, h4⟩
  · rw [if_pos h1, if_pos rfl]
    exact ⟨Or.inl ⟨rfl, h2⟩, fun _ => ⟨h1, bSm.rf⟩⟩
  · rw [if_neg h1]
    exact ⟨Or.inr ⟨h1, h2, by omega, h4⟩, smT.rf⟩
