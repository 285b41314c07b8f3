/-! GRAMMAR, THE LINES -/
/-- like what a piece gives, with the steps of boosts: the sum's and the test's -/
abbrev gRL : Type := Bool × Nat × List (List (Int32 × Int32) × List (Int32 × Int32))
def gBL (r : Option gRL) (f : Nat → List (List (Int32 × Int32) × List (Int32 × Int32)) → Option gRL) : Option gRL := match r with
  | none => none
  | some (false, a, _) => some (false, a, [])
  | some (true, a, s) => f a s
theorem gBL_some {r : Option gRL} {f : Nat → List (List (Int32 × Int32) × List (Int32 × Int32)) → Option gRL} {x : gRL} (h : gBL r f = some x) : (∃ a s, r = some (false, a, s) ∧ x = (false, a, [])) ∨ (∃ a s, r = some (true, a, s) ∧ f a s = some x) := by
  unfold gBL at h
  split at h
  · exact nomatch h
  · rename_i a s
    exact Or.inl ⟨a, s, rfl, (Option.some.inj h).symm⟩
  · rename_i a s
    exact Or.inr ⟨a, s, rfl, h⟩
def gTag (kf : Nat → Int32) (a : Nat) : Option gRL := if kf (a + 1) = 20 then some (true, a + 2, []) else some (false, a + 1, [])
def gWord (kf : Nat → Int32) (a : Nat) : Option gRL := if kf (a + 1) = 20 then (if kf (a + 2) = 2 then (if kf (a + 3) = 21 then (if kf (a + 4) = 3 then (if kf (a + 5) = 20 then some (true, a + 6, []) else some (false, a + 5, [])) else some (true, a + 4, [])) else some (false, a + 3, [])) else some (false, a + 2, [])) else some (false, a + 1, [])
def gRows (kf : Nat → Int32) : Nat → Nat → Option gRL
  | 0, _ => none
  | n + 1, a => if kf a = 44 then (if kf (a + 1) = 20 then gRows kf n (a + 2) else some (false, a + 1, [])) else some (true, a, [])
def gKeys (kf : Nat → Int32) (n a : Nat) : Option gRL := if kf (a + 1) = 20 then gRows kf n (a + 2) else some (false, a + 1, [])
def gFst (r : Option gR) (f : Nat → List (Int32 × Int32) → Option gRL) : Option gRL := match r with
  | none => none
  | some (false, a, _) => some (false, a, [])
  | some (true, a, s) => f a s
theorem gFst_some {r : Option gR} {f : Nat → List (Int32 × Int32) → Option gRL} {x : gRL} (h : gFst r f = some x) : (∃ a s, r = some (false, a, s) ∧ x = (false, a, [])) ∨ (∃ a s, r = some (true, a, s) ∧ f a s = some x) := by
  unfold gFst at h
  split at h
  · exact nomatch h
  · rename_i a s
    exact Or.inl ⟨a, s, rfl, (Option.some.inj h).symm⟩
  · rename_i a s
    exact Or.inr ⟨a, s, rfl, h⟩
def gBoost (kf nm : Nat → Int32) (n a : Nat) : Option gRL := if kf a = 5 then (if kf (a + 1) = 20 then (if kf (a + 2) = 6 then gFst (gP kf nm n 4 0 (a + 3)) fun a1 s1 => if kf a1 = 7 then gFst (gP kf nm n 0 0 (a1 + 1)) fun a2 s2 => some (true, a2, [(s1, s2)]) else some (false, a1, []) else some (false, a + 2, [])) else some (false, a + 1, [])) else some (false, a, [])
def gLn (kf nm : Nat → Int32) (n a : Nat) : Option gRL := if kf a = 0 then gTag kf a else if kf a = 1 then gWord kf a else if kf a = 4 then gKeys kf n a else gBoost kf nm n a
def gRd (kf nm : Nat → Int32) : Nat → Nat → Option gRL
  | 0, _ => none
  | n + 1, a => if kf a = 24 then some (true, a, []) else gBL (gLn kf nm n a) fun a1 l1 => if kf a1 = 59 then gBL (gRd kf nm n (a1 + 1)) fun a2 l2 => some (true, a2, l1 ++ l2) else some (false, a1, [])
def bSS (b : bB) : bB := (b.1, pushL 12 b.2.1 (nI b.2.2.2.2.1.length), b.2.2)
def bST (b : bB) : bB := (b.1, b.2.1, pushL 12 b.2.2.1 (nI b.2.2.2.2.1.length), b.2.2.2)
def bSE (b : bB) : bB := (b.1, b.2.1, b.2.2.1, pushL 12 b.2.2.2.1 (nI b.2.2.2.2.1.length), b.2.2.2.2)
def bBs (b : bB) (l : List (List (Int32 × Int32) × List (Int32 × Int32))) : bB := l.foldl (fun b x => bSE (stB (bST (stB (bSS b) x.1)) x.2)) b
theorem bBs_app {b : bB} {l m : List (List (Int32 × Int32) × List (Int32 × Int32))} : bBs b (l ++ m) = bBs (bBs b l) m := List.foldl_append
def gOutL (B : pM) (g qt qp qb : Nat) (t : tK) (tp : List Int32) (I : pIm) (b : bB) (ok : Bool) (a' : Nat) (s : List (List (Int32 × Int32) × List (Int32 × Int32))) (K : Int32 → pM → Prop) : Prop := ∀ J b', gS J g qt qp qb t tp a' b' → (ok = true → b' = bBs b s) → Fr2 g qb I J → K (b01 ok) (pset B J)
theorem g_fr {B : pM} {I J : pIm} {g qt qp qb : Nat} {t : tK} {tp : List Int32} {a : Nat} {b b' : bB} (hg : gramE B g qt qp qb) (h : gS I g qt qp qb t tp a b) (f : Fr qb (qb + 417) I J) (j : Bo J qb b') : gS J g qt qp qb t tp a b' ∧ Fr2 g qb I J := by
  obtain ⟨g0, -, -, -, hb, s1, s2, s3⟩ := hg
  obtain ⟨h1, h2, h3, h4, h5, h6⟩ := h
  exact ⟨⟨by rw [f g (by omega)]; exact h1, h2.f f (by omega), h3.f f (by omega), h4, j, h6⟩, fun x _ hx => f x hx⟩
theorem g_wordLine {B : pM} {g qt qp qb : Nat} {t : tK} {tp : List Int32} (hg : gramE B g qt qp qb) (hk : kfE (kfT t)) {d a : Nat} {ok : Bool} {a' : Nat} {s : List (List (Int32 × Int32) × List (Int32 × Int32))} {I : pIm} {b : bB} {K : Int32 → pM → Prop} (hd : 3 ≤ d) (e0 : kfT t a = 1) (h : gWord (kfT t) a = some (ok, a', s)) (hs : gS I g qt qp qb t tp a b) (hK : gOutL B g qt qp qb t tp I b ok a' s K) : pCall_i d mX2_wordLine (0, 0) [.ref g] (pset B I) K := by
  refine CP_go (by omega) okX2_wordLine (Nat.le_of_ble_eq_true rfl) ?_
  unfold gWord at h
  refine bX2_wordLine_0 ⟨hg.1, g_skip (by omega) hg hs (fun z => hk.lt z (by decide) (by decide) (by decide)) (fun _ J1 j1 f1 => ⟨fun x => absurd x (by decide), fun _ => ⟨hg.1, ?_⟩⟩) (fun z => absurd e0 z)⟩
  refine g_skip (by omega) hg j1 (fun z => hk.lt z (by decide) (by decide) (by decide)) (fun e2 J2 j2 f2 => ⟨fun x => absurd x (by decide), fun _ => ⟨hg.1, ?_⟩⟩) (fun e2 => ⟨fun _ => ⟨_, rfl, ?_⟩, fun z => absurd rfl z⟩)
  rotate_left
  · rw [if_neg e2] at h
    cases Option.some.inj h
    exact hK J1 _ j1 (fun x => nomatch x) (f1)
  rw [if_pos e2] at h
  refine g_skip (by omega) hg j2 (fun z => hk.lt z (by decide) (by decide) (by decide)) (fun e3 J3 j3 f3 => ⟨fun x => absurd x (by decide), fun _ => ⟨hg.1, ?_⟩⟩) (fun e3 => ⟨fun _ => ⟨_, rfl, ?_⟩, fun z => absurd rfl z⟩)
  rotate_left
  · rw [if_neg e3] at h
    cases Option.some.inj h
    exact hK J2 _ j2 (fun x => nomatch x) ((f1).tr f2)
  rw [if_pos e3] at h
  refine g_skip (by omega) hg j3 (fun z => hk.lt z (by decide) (by decide) (by decide)) (fun e4 J4 j4 f4 => ⟨fun x => absurd x (by decide), fun _ => ⟨hg.1, ?_⟩⟩) (fun e4 => ⟨fun _ => ⟨_, rfl, ?_⟩, fun z => absurd rfl z⟩)
  rotate_left
  · rw [if_neg e4] at h
    cases Option.some.inj h
    exact hK J3 _ j3 (fun x => nomatch x) (((f1).tr f2).tr f3)
  rw [if_pos e4] at h
  refine g_skip (by omega) hg j4 (fun z => hk.lt z (by decide) (by decide) (by decide)) (fun e5 J5 j5 f5 => ⟨fun x => absurd x (by decide), fun _ => ⟨hg.1, ?_⟩⟩) (fun e5 => ⟨fun _ => ⟨_, rfl, ?_⟩, fun z => absurd rfl z⟩)
  rotate_left
  · rw [if_neg e5] at h
    cases Option.some.inj h
    exact hK J4 _ j4 (fun _ => rfl) ((((f1).tr f2).tr f3).tr f4)
  rw [if_pos e5] at h
  refine g_skip (by omega) hg j5 (fun z => hk.lt z (by decide) (by decide) (by decide)) (fun e6 J6 j6 f6 => ⟨fun x => absurd x (by decide), fun _ => ⟨_, rfl, ?_⟩⟩) (fun e6 => ⟨fun _ => ⟨_, rfl, ?_⟩, fun z => absurd rfl z⟩)
  · rw [if_pos e6] at h
    cases Option.some.inj h
    exact hK J6 _ j6 (fun _ => rfl) ((((((f1).tr f2).tr f3).tr f4).tr f5).tr f6)
  · rw [if_neg e6] at h
    cases Option.some.inj h
    exact hK J5 _ j5 (fun x => nomatch x) (((((f1).tr f2).tr f3).tr f4).tr f5)
theorem gRows_at {kf : Nat → Int32} (hk : kfE kf) : ∀ (n a : Nat) (x : gRL), gRows kf n a = some x → a ≤ x.2.1 ∧ (a ≤ 400 → x.2.1 ≤ 400) := by
  intro n
  induction n with
  | zero => intro a x h; exact nomatch h
  | succ n ih =>
    intro a x h
    rw [gRows] at h
    split at h
    · rename_i e
      have := hk.lt e (by decide) (by decide) (by decide)
      split at h
      · rename_i e
        have := hk.lt e (by decide) (by decide) (by decide)
        have := ih _ _ h
        omega
      · cases Option.some.inj h; dsimp only at *; omega
    · cases Option.some.inj h; dsimp only at *; omega
theorem g_rows {B : pM} {g qt qp qb : Nat} {t : tK} {tp : List Int32} (hg : gramE B g qt qp qb) (hk : kfE (kfT t)) {d : Nat} (hd : 2 ≤ d) {Q : pR → pM → Prop} : ∀ (n a i : Nat) (ok : Bool) (a' : Nat) (s : List (List (Int32 × Int32) × List (Int32 × Int32))) (I : pIm) (b : bB), i ≤ a → gRows (kfT t) n a = some (ok, a', s) → gS I g qt qp qb t tp a b → (∀ J b', gS J g qt qp qb t tp a' b' → (ok = true → s = [] ∧ b' = b) → Fr2 g qb I J → Q (.inl (some (.int (b01 ok)))) (pset B J)) → Go d mX2_keyRows Q 25 ([some (.ref g), some (.int 1), some (.int (nI i))], [], 0, 0) (pset B I) := by
  intro n
  induction n with
  | zero => intro a i ok a' s I b hi h; exact nomatch h
  | succ n ih =>
    intro a i ok a' s I b hi h hs hQ
    rw [gRows] at h
    have h4 := hs.2.2.2.2.2
    refine bX2_keyRows_25 ⟨fun e => ?_, fun e => ⟨fun x => absurd x (by decide), fun _ => ⟨hg.1, g_skip (by omega) hg hs (fun z => hk.lt z (by decide) (by decide) (by decide)) (fun e1 J1 j1 f1 => ⟨fun x => absurd x (by decide), fun _ => ⟨hg.1, g_skip (by omega) hg j1 (fun z => hk.lt z (by decide) (by decide) (by decide)) (fun e2 J2 j2 f2 => ?_) (fun e2 => ?_)⟩⟩) (fun e1 => ⟨fun _ => ?_, fun z => absurd rfl z⟩)⟩⟩⟩
    · have hi4 := (nI_leI (a := 400) (b := i) (by omega) (by omega)).mp e
      rw [if_neg (fun z => by have := hk.lt z (by decide) (by decide) (by decide); omega)] at h
      cases Option.some.inj h
      exact ⟨Or.inr rfl, hQ I b hs (fun _ => ⟨rfl, rfl⟩) Fr2.rf⟩
    · rw [if_pos e1, if_pos e2] at h
      rw [nI_1]
      exact ih (a + 1 + 1) (i + 1) _ _ _ J2 b (by omega) h j2 (fun J3 b3 j3 hb3 f3 => hQ J3 b3 j3 hb3 ((f1.tr f2).tr f3))
    · rw [if_pos e1, if_neg e2] at h
      cases Option.some.inj h
      have q := hQ J1 b j1 (fun x => nomatch x) f1
      exact bX2_keyRows_25 ⟨fun _ => ⟨Or.inl rfl, q⟩, fun _ => ⟨fun _ => ⟨Or.inl rfl, q⟩, fun z => absurd rfl z⟩⟩
    · rw [if_neg e1] at h
      cases Option.some.inj h
      exact ⟨Or.inr rfl, hQ I b hs (fun _ => ⟨rfl, rfl⟩) Fr2.rf⟩
theorem g_keyRows {B : pM} {g qt qp qb : Nat} {t : tK} {tp : List Int32} (hg : gramE B g qt qp qb) (hk : kfE (kfT t)) {n : Nat} {d a : Nat} {ok : Bool} {a' : Nat} {s : List (List (Int32 × Int32) × List (Int32 × Int32))} {I : pIm} {b : bB} {K : Int32 → pM → Prop} (hd : 3 ≤ d) (e0 : kfT t a = 4) (h : gKeys (kfT t) n a = some (ok, a', s)) (hs : gS I g qt qp qb t tp a b) (hK : gOutL B g qt qp qb t tp I b ok a' s K) : pCall_i d mX2_keyRows (0, 0) [.ref g] (pset B I) K := by
  refine CP_go (by omega) okX2_keyRows (Nat.le_of_ble_eq_true rfl) ?_
  unfold gKeys at h
  refine bX2_keyRows_0 ⟨hg.1, g_skip (by omega) hg hs (fun z => hk.lt z (by decide) (by decide) (by decide)) (fun _ J1 j1 f1 => ⟨fun x => absurd x (by decide), fun _ => ⟨hg.1, g_skip (by omega) hg j1 (fun z => hk.lt z (by decide) (by decide) (by decide)) (fun e2 J2 j2 f2 => ⟨fun x => absurd x (by decide), fun _ => ?_⟩) (fun e2 => ⟨fun _ => bX2_keyRows_21 ?_, fun z => absurd rfl z⟩)⟩⟩) (fun z => absurd e0 z)⟩
  · rw [if_pos e2] at h
    refine g_rows hg hk (by omega) n (a + 1 + 1) 0 _ _ _ J2 b (by omega) h j2 (fun J3 b3 j3 hb3 f3 => ⟨_, rfl, hK J3 b3 j3 (fun e => ?_) ((f1.tr f2).tr f3)⟩)
    obtain ⟨e5, e6⟩ := hb3 e
    rw [e5, e6]; rfl
  · rw [if_neg e2] at h
    cases Option.some.inj h
    have q := hK J1 b j1 (fun x => nomatch x) f1
    exact bX2_keyRows_25 ⟨fun _ => ⟨Or.inl rfl, _, rfl, q⟩, fun _ => ⟨fun _ => ⟨Or.inl rfl, _, rfl, q⟩, fun z => absurd rfl z⟩⟩
theorem g_boost {B : pM} {g qt qp qb : Nat} {t : tK} {tp : List Int32} (hg : gramE B g qt qp qb) (hk : kfE (kfT t)) {n : Nat} {d a : Nat} {ok : Bool} {a' : Nat} {s : List (List (Int32 × Int32) × List (Int32 × Int32))} {I : pIm} {b : bB} {K : Int32 → pM → Prop} (hd : 110 ≤ d) (h : gBoost (kfT t) (nmT tp t) n a = some (ok, a', s)) (hs : gS I g qt qp qb t tp a b) (hK : gOutL B g qt qp qb t tp I b ok a' s K) : pCall_i d mX2_boost (0, 0) [.ref g] (pset B I) K := by
  refine CP_go (by omega) okX2_boost (Nat.le_of_ble_eq_true rfl) ?_
  unfold gBoost at h
  have hb := hg.2.2.2.2.1
  have p3 := hg.2.1.2.2.2
  refine bX2_boost_0 ⟨hg.1, ?_⟩
  refine g_skip (by omega) hg hs (fun z => hk.lt z (by decide) (by decide) (by decide)) (fun e1 J1 j1 f1 => ⟨fun x => absurd x (by decide), fun _ => ⟨hg.1, ?_⟩⟩) (fun e1 => ⟨fun _ => ⟨_, rfl, ?_⟩, fun z => absurd rfl z⟩)
  rotate_left
  · rw [if_neg e1] at h
    cases Option.some.inj h
    exact hK I _ hs (fun x => nomatch x) Fr2.rf
  rw [if_pos e1] at h
  refine g_skip (by omega) hg j1 (fun z => hk.lt z (by decide) (by decide) (by decide)) (fun e2 J2 j2 f2 => ⟨fun x => absurd x (by decide), fun _ => ⟨hg.1, ?_⟩⟩) (fun e2 => ⟨fun _ => ⟨_, rfl, ?_⟩, fun z => absurd rfl z⟩)
  rotate_left
  · rw [if_neg e2] at h
    cases Option.some.inj h
    exact hK J1 _ j1 (fun x => nomatch x) f1
  rw [if_pos e2] at h
  refine g_skip (by omega) hg j2 (fun z => hk.lt z (by decide) (by decide) (by decide)) (fun e3 J3 j3 f3 => ⟨fun x => absurd x (by decide), fun _ => ⟨hg.1, qb, p3, hb.1, ?_⟩⟩) (fun e3 => ⟨fun _ => ⟨_, rfl, ?_⟩, fun z => absurd rfl z⟩)
  rotate_left
  · rw [if_neg e3] at h
    cases Option.some.inj h
    exact hK J2 _ j2 (fun x => nomatch x) (f1.tr f2)
  rw [if_pos e3] at h
  refine c_startSum (by omega) hb j3.2.2.2.2.1 (fun J4 h4 f4 => ⟨hg.1, ?_⟩)
  obtain ⟨j4, f4⟩ := g_fr hg j3 f4 h4
  have F4 := ((f1.tr f2).tr f3).tr f4
  rcases gFst_some h with ⟨a1, s1, x1, hx⟩ | ⟨a1, s1, x1, h⟩
  · cases hx
    exact g_all hg hk n 4 (by decide) (d - 1) 0 (a + 1 + 1 + 1) _ _ _ J4 _ _ x1 (by omega) (by omega) j4 (fun J5 b5 j5 _ f5 => ⟨fun _ => ⟨_, rfl, hK J5 _ j5 (fun x => nomatch x) (F4.tr f5)⟩, fun z => absurd rfl z⟩)
  refine g_all hg hk n 4 (by decide) (d - 1) 0 (a + 1 + 1 + 1) _ _ _ J4 _ _ x1 (by omega) (by omega) j4 (fun J5 b5 j5 hb5 f5 => ⟨fun x => absurd x (by decide), fun _ => ⟨hg.1, ?_⟩⟩)
  have F5 := F4.tr f5
  refine g_skip (by omega) hg j5 (fun z => hk.lt z (by decide) (by decide) (by decide)) (fun e6 J6 j6 f6 => ⟨fun x => absurd x (by decide), fun _ => ⟨hg.1, qb, p3, hb.1, ?_⟩⟩) (fun e6 => ⟨fun _ => ⟨_, rfl, ?_⟩, fun z => absurd rfl z⟩)
  rotate_left
  · rw [if_neg e6] at h
    cases Option.some.inj h
    exact hK J5 _ j5 (fun x => nomatch x) F5
  rw [if_pos e6] at h
  refine c_startTest (by omega) hb j6.2.2.2.2.1 (fun J7 h7 f7 => ⟨hg.1, ?_⟩)
  obtain ⟨j7, f7⟩ := g_fr hg j6 f7 h7
  have F7 := (F5.tr f6).tr f7
  rcases gFst_some h with ⟨a2, s2, x2, hx⟩ | ⟨a2, s2, x2, h⟩
  · cases hx
    refine g_all hg hk n 0 (by decide) (d - 1) 0 (a1 + 1) _ _ _ J7 _ _ x2 (by omega) (by omega) j7 (fun J8 b8 j8 _ f8 => ⟨hg.1, qb, p3, hb.1, c_bend (by omega) hb j8.2.2.2.2.1 (fun J9 h9 f9 => ?_)⟩)
    obtain ⟨j9, f9⟩ := g_fr hg j8 f9 h9
    exact ⟨Or.inl rfl, _, rfl, hK J9 _ j9 (fun x => nomatch x) ((F7.tr f8).tr f9)⟩
  · cases Option.some.inj h
    refine g_all hg hk n 0 (by decide) (d - 1) 0 (a1 + 1) _ _ _ J7 _ _ x2 (by omega) (by omega) j7 (fun J8 b8 j8 hb8 f8 => ⟨hg.1, qb, p3, hb.1, c_bend (by omega) hb j8.2.2.2.2.1 (fun J9 h9 f9 => ?_)⟩)
    obtain ⟨j9, f9⟩ := g_fr hg j8 f9 h9
    refine ⟨Or.inr rfl, _, rfl, hK J9 _ j9 (fun _ => ?_) ((F7.tr f8).tr f9)⟩
    rw [hb8 rfl, hb5 rfl]
    rfl
theorem gLn_at {kf nm : Nat → Int32} (hk : kfE kf) {n a : Nat} {x : gRL} (h : gLn kf nm n a = some x) : a ≤ x.2.1 ∧ (a ≤ 400 → x.2.1 ≤ 400) ∧ (x.1 = true → a < x.2.1) := by
  unfold gLn at h
  split at h
  · rename_i e
    have := hk.lt e (by decide) (by decide) (by decide)
    unfold gTag at h
    split at h
    · rename_i e
      have := hk.lt e (by decide) (by decide) (by decide)
      cases Option.some.inj h; dsimp only; omega
    · cases Option.some.inj h; dsimp only; omega
  split at h
  · rename_i e
    have := hk.lt e (by decide) (by decide) (by decide)
    unfold gWord at h
    repeat (split at h; rename_i e; (try have := hk.lt e (by decide) (by decide) (by decide)); skip)
    all_goals (cases Option.some.inj h; dsimp only; omega)
  split at h
  · rename_i e
    have := hk.lt e (by decide) (by decide) (by decide)
    unfold gKeys at h
    split at h
    · rename_i e
      have := hk.lt e (by decide) (by decide) (by decide)
      have := gRows_at hk _ _ _ h
      omega
    · cases Option.some.inj h; dsimp only; omega
  unfold gBoost at h
  split at h
  · rename_i e
    have := hk.lt e (by decide) (by decide) (by decide)
    split at h
    · rename_i e
      have := hk.lt e (by decide) (by decide) (by decide)
      split at h
      · rename_i e
        have := hk.lt e (by decide) (by decide) (by decide)
        rcases gFst_some h with ⟨a1, s1, x1, hx⟩ | ⟨a1, s1, x1, h⟩
        · cases hx
          have := gP_at hk _ _ _ _ _ x1
          dsimp only at *; omega
        · have := gP_at hk _ _ _ _ _ x1
          dsimp only at this
          split at h
          · rename_i e
            have := hk.lt e (by decide) (by decide) (by decide)
            rcases gFst_some h with ⟨a2, s2, x2, hx⟩ | ⟨a2, s2, x2, h⟩
            · cases hx
              have := gP_at hk _ _ _ _ _ x2
              dsimp only at *; omega
            · cases Option.some.inj h
              have := gP_at hk _ _ _ _ _ x2
              dsimp only at *; omega
          · cases Option.some.inj h; dsimp only; omega
      · cases Option.some.inj h; dsimp only; omega
    · cases Option.some.inj h; dsimp only; omega
  · cases Option.some.inj h; exact ⟨Nat.le_refl _, id, fun x => nomatch x⟩
theorem g_read {B : pM} {g qt qp qb : Nat} {t : tK} {tp : List Int32} (hg : gramE B g qt qp qb) (hk : kfE (kfT t)) {n : Nat} {d a : Nat} {ok : Bool} {a' : Nat} {s : List (List (Int32 × Int32) × List (Int32 × Int32))} {I : pIm} {b : bB} {K : Int32 → pM → Prop} (hd : 112 ≤ d) (h : gRd (kfT t) (nmT tp t) n 0 = some (ok, a', s)) (hs : gS I g qt qp qb t tp 0 b) (hK : ∀ J b', gS J g qt qp qb t tp a' b' → (ok = true → b' = bBs b s) → Fr2 g qb I J → K (if ok = true then -1 else rat t.2.1 (nI a')) (pset B J)) : pCall_i d mX2_read (0, 0) [.ref g] (pset B I) K := by
  refine CP_go (by omega) okX2_read (Nat.le_of_ble_eq_true rfl) (bX2_read_0 ?_)
  have good : ∀ {J : pIm} {b1 : bB} {a1 : Nat}, gS J g qt qp qb t tp a1 b1 → K (-1) (pset B J) → Go (d - 1) mX2_read (fun r M1 => ∃ v, r = .inl (some (.int v)) ∧ K v M1) 140 ([some (.ref g), some (.int 1), none], [], 0, 0) (pset B J) := fun _ k => bX2_read_140 ⟨fun x => absurd x (by decide), fun _ => ⟨_, rfl, k⟩⟩
  have bad : ∀ {J : pIm} {b1 : bB} {a1 : Nat}, gS J g qt qp qb t tp a1 b1 → K (rat t.2.1 (nI a1)) (pset B J) → Go (d - 1) mX2_read (fun r M1 => ∃ v, r = .inl (some (.int v)) ∧ K v M1) 140 ([some (.ref g), some (.int 0), none], [], 0, 0) (pset B J) := by
    intro J b1 a1 hj k
    have e4 : pI (pset B J) g 4 = nI a1 := hj.1
    refine bX2_read_140 ⟨fun _ => ⟨hg.1, qt, hg.2.1.1, hg.1, hg.2.2.1.1, ?_⟩, fun z => absurd rfl z⟩
    rw [e4]
    exact c_tstart (by omega) hg.2.2.1 hj.2.1 ⟨_, rfl, k⟩
  have bad4 : ∀ {J : pIm} {b1 : bB} {a1 : Nat} {i : Int32}, gS J g qt qp qb t tp a1 b1 → K (rat t.2.1 (nI a1)) (pset B J) → Go (d - 1) mX2_read (fun r M1 => ∃ v, r = .inl (some (.int v)) ∧ K v M1) 4 ([some (.ref g), some (.int 0), some (.int i)], [], 0, 0) (pset B J) := fun hj k => bX2_read_4 ⟨fun _ => bad hj k, fun _ => ⟨fun _ => bad hj k, fun z => absurd rfl z⟩⟩
  have key : ∀ (n a i : Nat) (ok : Bool) (a' : Nat) (s : List (List (Int32 × Int32) × List (Int32 × Int32))) (J : pIm) (b1 : bB), 2 * i ≤ a → gRd (kfT t) (nmT tp t) n a = some (ok, a', s) → gS J g qt qp qb t tp a b1 → (∀ J2 b', gS J2 g qt qp qb t tp a' b' → (ok = true → b' = bBs b1 s) → Fr2 g qb J J2 → K (if ok = true then -1 else rat t.2.1 (nI a')) (pset B J2)) → Go (d - 1) mX2_read (fun r M1 => ∃ v, r = .inl (some (.int v)) ∧ K v M1) 4 ([some (.ref g), some (.int 1), some (.int (nI i))], [], 0, 0) (pset B J) := by
    intro n
    induction n with
    | zero => intro a i ok a' s J b1 hi h; exact nomatch h
    | succ n ih =>
      intro a i ok a' s J b1 hi h hs hQ
      rw [gRd] at h
      have h4 := hs.2.2.2.2.2
      refine bX2_read_4 ⟨fun e => ?_, fun e => ⟨fun x => absurd x (by decide), fun _ => ⟨hg.1, g_is (by omega) hg hs ?_⟩⟩⟩
      · have hi4 := (nI_leI (a := 400) (b := i) (by omega) (by omega)).mp e
        omega
      by_cases e24 : kfT t a = 24
      · rw [if_pos e24]
        rw [if_pos e24] at h
        cases Option.some.inj h
        exact ⟨fun x => absurd x (by decide), fun _ => good hs (hQ J b1 hs (fun _ => rfl) Fr2.rf)⟩
      rw [if_neg e24]
      rw [if_neg e24] at h
      refine ⟨fun _ => ⟨hg.1, _, hg.2.1.2.1, hg.1, hg.2.2.1.2.2.2.1.1, g_at (by omega) hg hs ?_⟩, fun z => absurd rfl z⟩
      have after : ∀ (ok1 : Bool) (a1 : Nat) (s1 : List (List (Int32 × Int32) × List (Int32 × Int32))) (J1 : pIm) (b2 : bB), gLn (kfT t) (nmT tp t) n a = some (ok1, a1, s1) → gS J1 g qt qp qb t tp a1 b2 → (ok1 = true → b2 = bBs b1 s1) → Fr2 g qb J J1 → Go (d - 1) mX2_read (fun r M1 => ∃ v, r = .inl (some (.int v)) ∧ K v M1) 115 ([some (.ref g), some (.int (b01 ok1)), some (.int (nI i))], [], 0, 0) (pset B J1) := by
        intro ok1 a1 s1 J1 b2 hl hj hb2 hf
        have hat := gLn_at hk hl
        dsimp only at hat
        rw [hl] at h
        match ok1, h, hat, hb2 with
        | false, h, hat, hb2 =>
          cases Option.some.inj h
          exact bX2_read_115 ⟨fun _ => bX2_read_132 (bad4 hj (hQ J1 _ hj (fun x => nomatch x) hf)), fun z => absurd rfl z⟩
        | true, h, hat, hb2 =>
          change (if kfT t a1 = 59 then gBL (gRd (kfT t) (nmT tp t) n (a1 + 1)) (fun a2 l2 => some (true, a2, s1 ++ l2)) else some (false, a1, [])) = some (ok, a', s) at h
          refine bX2_read_115 ⟨fun x => absurd x (by decide), fun _ => ⟨hg.1, g_skip (by omega) hg hj (fun z => hk.lt z (by decide) (by decide) (by decide)) (fun e2 J2 j2 f2 => ⟨fun x => absurd x (by decide), fun _ => ?_⟩) (fun e2 => ⟨fun _ => ?_, fun z => absurd rfl z⟩)⟩⟩
          · rw [if_pos e2] at h
            rw [nI_1]
            have hlt := hat.2.2 rfl
            rcases gBL_some h with ⟨a2, s2, x2, hx⟩ | ⟨a2, s2, x2, h⟩
            · cases hx
              exact ih (a1 + 1) (i + 1) _ _ _ J2 b2 (by omega) x2 j2 (fun J3 b3 j3 _ f3 => hQ J3 b3 j3 (fun x => nomatch x) ((hf.tr f2).tr f3))
            · cases Option.some.inj h
              refine ih (a1 + 1) (i + 1) _ _ _ J2 b2 (by omega) x2 j2 (fun J3 b3 j3 hb3 f3 => hQ J3 b3 j3 (fun _ => ?_) ((hf.tr f2).tr f3))
              rw [hb3 rfl, hb2 rfl, bBs_app]
          · rw [if_neg e2] at h
            cases Option.some.inj h
            exact bX2_read_132 (bad4 hj (hQ J1 _ hj (fun x => nomatch x) hf))
      have hln : ∃ x, gLn (kfT t) (nmT tp t) n a = some x := by
        cases hx : gLn (kfT t) (nmT tp t) n a with
        | none => rw [hx] at h; exact nomatch h
        | some x => exact ⟨x, rfl⟩
      obtain ⟨⟨ok1, a1, s1⟩, hl⟩ := hln
      have fin := after ok1 a1 s1
      refine ⟨fun k0 => ⟨hg.1, g_skip (by omega) hg hs (fun z => hk.lt z (by decide) (by decide) (by decide)) (fun _ J1 j1 f1 => ⟨fun x => absurd x (by decide), fun _ => ⟨hg.1, g_skip (by omega) hg j1 (fun z => hk.lt z (by decide) (by decide) (by decide)) (fun e2 J2 j2 f2 => ⟨fun x => absurd x (by decide), fun _ => ?_⟩) (fun e2 => ⟨fun _ => bX2_read_89 ?_, fun z => absurd rfl z⟩)⟩⟩) (fun z => absurd k0 z)⟩, fun n0 => ?_⟩
      · have hl2 := hl
        unfold gLn gTag at hl2
        rw [if_pos k0, if_pos e2] at hl2
        cases Option.some.inj hl2
        exact fin J2 b1 hl j2 (fun _ => rfl) (f1.tr f2)
      · have hl2 := hl
        unfold gLn gTag at hl2
        rw [if_pos k0, if_neg e2] at hl2
        cases Option.some.inj hl2
        exact fin J1 b1 hl j1 (fun x => nomatch x) f1
      have boost : kfT t a ≠ 1 → kfT t a ≠ 4 → Go (d - 1) mX2_read (fun r M1 => ∃ v, r = .inl (some (.int v)) ∧ K v M1) 110 ([some (.ref g), none, some (.int (nI i))], [], 0, 0) (pset B J) := by
        intro n1 n4
        have hl2 := hl
        unfold gLn at hl2
        rw [if_neg n0, if_neg n1, if_neg n4] at hl2
        exact bX2_read_110 ⟨hg.1, g_boost hg hk (by omega) hl2 hs (fun J1 b2 j1 hb2 f1 => fin J1 b2 hl j1 hb2 f1)⟩
      refine ⟨fun k1 => ⟨hg.1, ?_⟩, fun n1 => ⟨fun k2 => boost n1 (by rw [k2]; decide), fun _ => ⟨fun k3 => boost n1 (by rw [k3]; decide), fun _ => ⟨fun k4 => ⟨hg.1, ?_⟩, fun n4 => boost n1 n4⟩⟩⟩⟩
      · have hl2 := hl
        unfold gLn at hl2
        rw [if_neg n0, if_pos k1] at hl2
        exact g_wordLine hg hk (by omega) k1 hl2 hs (fun J1 b2 j1 hb2 f1 => fin J1 b2 hl j1 hb2 f1)
      · have hl2 := hl
        unfold gLn at hl2
        rw [if_neg n0, if_neg (show kfT t a ≠ 1 by rw [k4]; decide), if_pos k4] at hl2
        exact g_keyRows hg hk (by omega) k4 hl2 hs (fun J1 b2 j1 hb2 f1 => fin J1 b2 hl j1 hb2 f1)
  exact key n 0 0 ok a' s I b (by omega) h hs hK
