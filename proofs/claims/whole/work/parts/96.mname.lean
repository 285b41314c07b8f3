/-! THE REFERENCE: the book behind a reading -/
abbrev nsB (b : bK) : List (List Int32) := b.2.2.2.2.2.2.2.2.2.2.2
def bMid (b : bK) : List Int32 × List Int32 × List Int32 × List Int32 × List Int32 := (b.2.2.2.2.2.2.1, b.2.2.2.2.2.2.2.1, b.2.2.2.2.2.2.2.2.1, b.2.2.2.2.2.2.2.2.2.1, b.2.2.2.2.2.2.2.2.2.2.1)
theorem lkKey_gen {nm : List Int32} {b : bK} {me : List Int32} : bMid (lkKey nm b me).2.1 = bMid b ∧ (lkKey nm b me).2.2 = me ∧ nsB (lkKey nm b me).2.1 = nsB b := by
  unfold lkKey
  by_cases c : b.2.2.2.2.1.2.2 < 4
  · rw [if_pos c]
    cases addK b.2.2.2.2.1.2.2 nm 0 (b.2.2.2.2.1.1, b.2.2.2.2.1.2.1) with
    | none => exact ⟨rfl, rfl, rfl⟩
    | some r => exact ⟨rfl, rfl, rfl⟩
  · rw [if_neg c]
    exact ⟨rfl, rfl, rfl⟩
theorem lkName_gen {kp : Int32} {nm : List Int32} {i : Int32} {b : bK} {me : List Int32} : bMid (lkName kp nm i b me).2.1 = bMid b ∧ (((lkName kp nm i b me).2.2 = me ∧ nsB (lkName kp nm i b me).2.1 = nsB b ∧ ¬ (kp = 2 ∨ kp = 12 ∨ kp = 13)) ∨ ((kp = 2 ∨ kp = 12) ∧ (lkName kp nm i b me).2.2 = rput me i (fidx b.2.1 nm 0) ∧ nsB (lkName kp nm i b me).2.1 = nsB b) ∨ (kp = 13 ∧ ((nsB b).length < 200 → (lkName kp nm i b me).2.2 = rput me i (nI (nsB b).length) ∧ nsB (lkName kp nm i b me).2.1 = nsB b ++ [nm]))) := by
  unfold lkName
  by_cases c0 : kp = 0
  · rw [if_pos c0]
    refine ⟨?_, Or.inl ⟨?_, ?_, by rw [c0]; decide⟩⟩ <;> (split <;> first | rfl | (split <;> rfl))
  rw [if_neg c0]
  by_cases c1 : kp = 1
  · rw [if_pos c1]
    refine ⟨?_, Or.inl ⟨?_, ?_, by rw [c1]; decide⟩⟩ <;> (split <;> first | rfl | (split <;> rfl))
  rw [if_neg c1]
  by_cases c2 : kp = 2 ∨ kp = 12
  · rw [if_pos c2]
    exact ⟨rfl, Or.inr (Or.inl ⟨c2, rfl, rfl⟩)⟩
  rw [if_neg c2]
  by_cases c3 : kp = 3
  · rw [if_pos c3]
    exact ⟨rfl, Or.inl ⟨rfl, rfl, by rw [c3]; decide⟩⟩
  rw [if_neg c3]
  by_cases c5 : kp = 5
  · rw [if_pos c5]
    exact ⟨rfl, Or.inl ⟨rfl, rfl, by rw [c5]; decide⟩⟩
  rw [if_neg c5]
  by_cases c13 : kp = 13
  · rw [if_pos c13]
    by_cases c : (nsB b).length < 200
    · rw [if_pos c]
      exact ⟨rfl, Or.inr (Or.inr ⟨c13, fun _ => ⟨rfl, rfl⟩⟩)⟩
    · rw [if_neg c]
      exact ⟨rfl, Or.inr (Or.inr ⟨c13, fun z => absurd z c⟩)⟩
  rw [if_neg c13]
  obtain ⟨k1, k2, k3⟩ := lkKey_gen (nm := nm) (b := b) (me := me)
  exact ⟨k1, Or.inl ⟨k2, k3, fun z => z.elim (fun z => c2 (Or.inl z)) (fun z => z.elim (fun z => c2 (Or.inr z)) c13)⟩⟩
theorem lkAt_no {t : tK} {tp : List Int32} {a : Nat} {b : bK} {me : List Int32} (ha : a < 2 ^ 31) (h : kfT t a ≠ 20) : bMid (lkAt t tp a b me).2.1 = bMid b ∧ (lkAt t tp a b me).2.2 = me ∧ nsB (lkAt t tp a b me).2.1 = nsB b := by
  have ek : rat t.1 (nI a) = kfT t a := rat_nI ha
  unfold lkAt
  rw [ek]
  by_cases c5 : kfT t a = 5
  · rw [if_pos c5]; exact ⟨rfl, rfl, rfl⟩
  rw [if_neg c5, if_neg h]
  by_cases c21 : kfT t a = 21
  · rw [if_pos c21]
    by_cases c2 : rat t.1 (nI a - 1) = 2
    · rw [if_pos c2]; exact ⟨rfl, rfl, rfl⟩
    · rw [if_neg c2]; exact ⟨rfl, rfl, rfl⟩
  · rw [if_neg c21]; exact ⟨rfl, rfl, rfl⟩
theorem rat_rput {l : List Int32} {a j : Nat} {v : Int32} (ha : a < l.length) (hl : l.length ≤ 1000) (hj : j < 2 ^ 31) : rat (rput l (nI a) v) (nI j) = if j = a then v else rat l (nI j) := by
  rw [rput_nI (by omega), rat_nI hj, rat_nI hj, List.getD_eq_getElem?_getD, List.getD_eq_getElem?_getD]
  by_cases c : j = a
  · subst c
    rw [if_pos rfl, List.getElem?_set_self ha]; rfl
  · rw [if_neg c, List.getElem?_set_ne (Ne.symm c)]
/-- what the meanings of the first a tokens are -/
def meT (t : tK) (tp : List Int32) (b0 : bK) (a : Nat) (b : bK) (me : List Int32) : Prop := ∀ i, i + 1 < a → kfT t (i + 1) = 20 → (kfT t i = 2 ∨ kfT t i = 12 → rat me (nI (i + 1)) = fidx (sF t tp b0 (i + 1)).2.2.1.2.1 (spl tp t (nI (i + 1))) 0) ∧ (kfT t i = 13 → ∃ k, k < 1000 ∧ rat me (nI (i + 1)) = nI k ∧ (nsB b)[k]? = some (spl tp t (nI (i + 1))))
theorem sF_inv {t : tK} {tp : List Int32} {b0 : bK} (hn : nsB b0 = []) : ∀ a, a ≤ 401 → (sF t tp b0 a).1 = 0 → bMid (sF t tp b0 a).2.2.1 = bMid b0 ∧ (sF t tp b0 a).2.2.2.length = 401 ∧ (2 * (nsB (sF t tp b0 a).2.2.1).length ≤ a ∧ (1 ≤ a → kfT t (a - 1) ≠ 20 → 2 * (nsB (sF t tp b0 a).2.2.1).length ≤ a - 1)) ∧ meT t tp b0 a (sF t tp b0 a).2.2.1 (sF t tp b0 a).2.2.2 := by
  intro a
  induction a with
  | zero =>
    intro _ _
    refine ⟨rfl, List.length_replicate, ⟨?_, fun z => absurd z (by omega)⟩, fun i hi => absurd hi (by omega)⟩
    show 2 * (nsB b0).length ≤ 0
    rw [hn]; simp
  | succ a ih =>
    intro ha z
    have z0 := sF_err z
    obtain ⟨o1, o2⟩ := sF_ok z
    obtain ⟨i1, i2, ⟨i3, i4⟩, i5⟩ := ih (by omega) z0
    have w1 := congrArg Prod.fst o2
    have w2 := congrArg Prod.snd o2
    -- nothing is written for the token
    have same : ∀ (b' : bK) (me' : List Int32), (sF t tp b0 (a + 1)).2.2.1 = b' → (sF t tp b0 (a + 1)).2.2.2 = me' → bMid b' = bMid (sF t tp b0 a).2.2.1 → me' = (sF t tp b0 a).2.2.2 → nsB b' = nsB (sF t tp b0 a).2.2.1 → (∀ i, i + 1 = a → kfT t a = 20 → ¬ (kfT t i = 2 ∨ kfT t i = 12 ∨ kfT t i = 13)) → bMid (sF t tp b0 (a + 1)).2.2.1 = bMid b0 ∧ (sF t tp b0 (a + 1)).2.2.2.length = 401 ∧ (2 * (nsB (sF t tp b0 (a + 1)).2.2.1).length ≤ a + 1 ∧ (1 ≤ a + 1 → kfT t (a + 1 - 1) ≠ 20 → 2 * (nsB (sF t tp b0 (a + 1)).2.2.1).length ≤ a + 1 - 1)) ∧ meT t tp b0 (a + 1) (sF t tp b0 (a + 1)).2.2.1 (sF t tp b0 (a + 1)).2.2.2 := by
      intro b' me' q1 q2 q3 q4 q5 q6
      rw [q1, q2, q3, q4]
      unfold meT
      rw [q5]
      refine ⟨i1, i2, ⟨by omega, fun _ _ => by omega⟩, fun i hi h20 => ?_⟩
      by_cases c : i + 1 < a
      · exact i5 i c h20
      · have e : i + 1 = a := by omega
        have := q6 i e (e ▸ h20)
        exact ⟨fun y => absurd (y.elim (fun y => Or.inl y) (fun y => Or.inr (Or.inl y))) this, fun y => absurd (Or.inr (Or.inr y)) this⟩
    by_cases h20 : kfT t a = 20
    · match a, h20 with
      | 0, h20 =>
        have e1 : rat t.1 (nI 0) = 20 := (rat_nI (by omega)).trans h20
        have el : lkAt t tp 0 (sF t tp b0 0).2.2.1 (sF t tp b0 0).2.2.2 = lkName (-1) (spl tp t (nI 0)) (nI 0) (sF t tp b0 0).2.2.1 (sF t tp b0 0).2.2.2 := by
          have e2 : rat t.1 (nI 0 - 1) = -1 := if_pos (by decide)
          unfold lkAt
          rw [e1, if_neg (by decide), if_pos rfl, e2]
        obtain ⟨g1, g2⟩ := lkName_gen (kp := -1) (nm := spl tp t (nI 0)) (i := nI 0) (b := (sF t tp b0 0).2.2.1) (me := (sF t tp b0 0).2.2.2)
        rcases g2 with ⟨g2, g3, -⟩ | ⟨g2, -⟩ | ⟨g2, -⟩
        · rw [el] at w1 w2
          exact same _ _ w1 w2 g1 g2 g3 (fun i hi => absurd hi (by omega))
        · exact absurd g2 (by decide)
        · exact absurd g2 (by decide)
      | p + 1, h20 =>
        have el := lk_name (tp := tp) (b := (sF t tp b0 (p + 1)).2.2.1) (me := (sF t tp b0 (p + 1)).2.2.2) (show p + 1 < 2 ^ 31 by omega) h20
        obtain ⟨g1, g2⟩ := lkName_gen (kp := kfT t p) (nm := spl tp t (nI (p + 1))) (i := nI (p + 1)) (b := (sF t tp b0 (p + 1)).2.2.1) (me := (sF t tp b0 (p + 1)).2.2.2)
        rw [el] at w1 w2
        rcases g2 with ⟨g2, g3, g4⟩ | ⟨g2, g3, g4⟩ | ⟨g2, g3⟩
        · refine same _ _ w1 w2 g1 g2 g3 (fun i hi _ => ?_)
          have : i = p := by omega
          rw [this]; exact g4
        · rw [g3] at w2
          have e1 : bMid (sF t tp b0 (p + 1 + 1)).2.2.1 = bMid b0 := by
            have : (sF t tp b0 (p + 1 + 1)).2.2.1 = _ := w1
            rw [this, g1, i1]
          have e2 : nsB (sF t tp b0 (p + 1 + 1)).2.2.1 = nsB (sF t tp b0 (p + 1)).2.2.1 := by
            have : (sF t tp b0 (p + 1 + 1)).2.2.1 = _ := w1
            rw [this]; exact g4
          have e3 : (sF t tp b0 (p + 1 + 1)).2.2.2 = rput (sF t tp b0 (p + 1)).2.2.2 (nI (p + 1)) (fidx (sF t tp b0 (p + 1)).2.2.1.2.1 (spl tp t (nI (p + 1))) 0) := w2
          refine ⟨e1, by rw [e3, rput_len]; exact i2, ⟨by rw [e2]; omega, fun _ y => absurd h20 y⟩, fun i hi h2 => ?_⟩
          rw [e3, e2, rat_rput (by omega) (by omega) (by omega)]
          by_cases c : i + 1 = p + 1
          · have : i = p := by omega
            subst this
            rw [if_pos rfl]
            refine ⟨fun _ => rfl, fun y => ?_⟩
            rcases g2 with g2 | g2
            · rw [g2] at y; exact absurd y (by decide)
            · rw [g2] at y; exact absurd y (by decide)
          · rw [if_neg c]
            exact i5 i (by omega) h2
        · have k13 : kfT t p ≠ 20 := by rw [g2]; decide
          have hl := i4 (by omega) k13
          obtain ⟨g3, g4⟩ := g3 (by omega)
          rw [g3] at w2
          have e1 : bMid (sF t tp b0 (p + 1 + 1)).2.2.1 = bMid b0 := by
            have : (sF t tp b0 (p + 1 + 1)).2.2.1 = _ := w1
            rw [this, g1, i1]
          have e2 : nsB (sF t tp b0 (p + 1 + 1)).2.2.1 = nsB (sF t tp b0 (p + 1)).2.2.1 ++ [spl tp t (nI (p + 1))] := by
            have : (sF t tp b0 (p + 1 + 1)).2.2.1 = _ := w1
            rw [this]; exact g4
          have e3 : (sF t tp b0 (p + 1 + 1)).2.2.2 = rput (sF t tp b0 (p + 1)).2.2.2 (nI (p + 1)) (nI (nsB (sF t tp b0 (p + 1)).2.2.1).length) := w2
          refine ⟨e1, by rw [e3, rput_len]; exact i2, ⟨by rw [e2, List.length_append, List.length_singleton]; omega, fun _ y => absurd h20 y⟩, fun i hi h2 => ?_⟩
          rw [e3, e2, rat_rput (by omega) (by omega) (by omega)]
          by_cases c : i + 1 = p + 1
          · have : i = p := by omega
            subst this
            rw [if_pos rfl]
            refine ⟨fun y => ?_, fun _ => ⟨_, by omega, rfl, ?_⟩⟩
            · rcases y with y | y
              · rw [g2] at y; exact absurd y (by decide)
              · rw [g2] at y; exact absurd y (by decide)
            · rw [List.getElem?_append_right (Nat.le_refl _), Nat.sub_self]; rfl
          · rw [if_neg c]
            obtain ⟨y1, y2⟩ := i5 i (by omega) h2
            refine ⟨y1, fun y => ?_⟩
            obtain ⟨k, k1, k2, k3⟩ := y2 y
            exact ⟨k, k1, k2, by rw [List.getElem?_append_left (List.getElem?_eq_some_iff.mp k3).1]; exact k3⟩
    · obtain ⟨g1, g2, g3⟩ := lkAt_no (tp := tp) (b := (sF t tp b0 a).2.2.1) (me := (sF t tp b0 a).2.2.2) (show a < 2 ^ 31 by omega) h20
      exact same _ _ w1 w2 g1 g2 g3 (fun _ _ y => absurd y h20)
/-- link, step by step -/
theorem lnkL_get {me ki va : List Int32} (hv : va.length ≤ 1000) : ∀ n, n ≤ 1000 → ∀ k, (lnkL me ki va n)[k]? = if k < n then (va[k]?).map (fun v => lnk me (rat ki (nI k)) v) else va[k]? := by
  intro n
  induction n with
  | zero => intro _ k; rw [if_neg (by omega)]; rfl
  | succ n ih =>
    intro hn k
    have ih' := ih (by omega)
    have hmn : k ≠ n → (if k < n then (va[k]?).map (fun v => lnk me (rat ki (nI k)) v) else va[k]?) = (if k < n + 1 then (va[k]?).map (fun v => lnk me (rat ki (nI k)) v) else va[k]?) := fun c => by
      by_cases c2 : k < n
      · rw [if_pos c2, if_pos (by omega)]
      · rw [if_neg c2, if_neg (by omega)]
    rw [lnkL]
    by_cases c : rat ki (nI n) = 2 ∨ rat ki (nI n) = 12 ∨ rat ki (nI n) = 13
    · rw [if_pos c, rput_nI (by omega)]
      by_cases ck : k = n
      · subst ck
        rw [if_pos (by omega), List.getElem?_set]
        rw [if_pos rfl, lnkL_len]
        by_cases cl : k < va.length
        · rw [if_pos cl, List.getElem?_eq_getElem cl]
          have e := ih' k
          rw [if_neg (by omega), List.getElem?_eq_getElem cl] at e
          rw [rat_in e (by rw [lnkL_len]; omega)]
          show _ = some (lnk me _ _)
          unfold lnk
          rw [if_pos c]
        · rw [if_neg cl, List.getElem?_eq_none (by omega)]; rfl
      · rw [List.getElem?_set_ne (Ne.symm ck), ih' k, hmn ck]
    · rw [if_neg c]
      by_cases ck : k = n
      · subst ck
        rw [ih' k, if_neg (by omega), if_pos (by omega)]
        cases va[k]? with
        | none => rfl
        | some v =>
          show some v = some (lnk me _ _)
          unfold lnk
          rw [if_neg c]
      · rw [ih' k, hmn ck]
def lnkF (me : List Int32) (y : Int32 × Int32) : Int32 × Int32 := (y.1, lnk me y.1 y.2)
theorem lnkL_map {me : List Int32} {s : List (Int32 × Int32)} (hs : s.length ≤ 400) : lnkL me (s.map Prod.fst) (s.map Prod.snd) (s.map Prod.fst).length = (s.map (lnkF me)).map Prod.snd := by
  refine List.ext_getElem? (fun k => ?_)
  rw [lnkL_get (by rw [List.length_map]; omega) _ (by rw [List.length_map]; omega), List.length_map]
  by_cases c : k < s.length
  · rw [if_pos c, List.getElem?_map, List.getElem?_map, List.getElem?_map, List.getElem?_eq_getElem c]
    have : rat (s.map Prod.fst) (nI k) = s[k].1 := rat_in (by rw [List.getElem?_map, List.getElem?_eq_getElem c]; rfl) (by rw [List.length_map]; omega)
    rw [this]
    rfl
  · rw [if_neg c, List.getElem?_eq_none (by rw [List.length_map]; omega), List.getElem?_eq_none (by rw [List.length_map, List.length_map]; omega)]
theorem flatL_map {f : Int32 × Int32 → Int32 × Int32} {L : List (List (Int32 × Int32) × List (Int32 × Int32))} : flatL (L.map (fun x => (x.1.map f, x.2.map f))) = (flatL L).map f := by
  induction L with
  | nil => rfl
  | cons x L ih =>
    have e : ∀ (y : List (Int32 × Int32) × List (Int32 × Int32)) M, flatL (y :: M) = y.1 ++ y.2 ++ flatL M := fun y M => by unfold flatL; simp
    rw [List.map_cons, e, e, ih]
    simp
