/-! GRAMMAR, THE METHODS -/
def mg : Nat → pMI
  | 0 => mX2_test
  | 1 => mX2_both
  | 2 => mX2_single
  | 4 => mX2_sum
  | 5 => mX2_product
  | _ => mX2_value
def b01 (b : Bool) : Int32 := match b with
  | true => 1
  | false => 0
/-- what a reading leaves behind -/
def gOut (B : pM) (g qt qp qb : Nat) (t : tK) (tp : List Int32) (I : pIm) (b : bB) (ok : Bool) (a' : Nat) (s : List (Int32 × Int32)) (K : Int32 → pM → Prop) : Prop := ∀ J b', gS J g qt qp qb t tp a' b' → (ok = true → b' = stB b s) → Fr2 g qb I J → K (b01 ok) (pset B J)
def GS (B : pM) (g qt qp qb : Nat) (t : tK) (tp : List Int32) (n : Nat) : Prop := ∀ c, c < 7 ∧ c ≠ 3 → ∀ (d dd a : Nat) (ok : Bool) (a' : Nat) (s : List (Int32 × Int32)) (I : pIm) (b : bB) (K : Int32 → pM → Prop), gP (kfT t) (nmT tp t) n c dd a = some (ok, a', s) → dd ≤ 8 → 12 * (8 - dd) + (12 - c) ≤ d → gS I g qt qp qb t tp a b → gOut B g qt qp qb t tp I b ok a' s K → pCall_i d (mg c) (0, 0) [.ref g, .int (nI dd)] (pset B I) K
theorem g_name {d : Nat} (hd : 3 ≤ d) {B : pM} {I : pIm} {g qt qp qb : Nat} {t : tK} {tp : List Int32} {a : Nat} {b : bB} {k : Int32} {ok : Bool} {a' : Nat} {s : List (Int32 × Int32)} {Q0 Q1 : pM → Prop} (hg : gramE B g qt qp qb) (hk : kfE (kfT t)) (h : gS I g qt qp qb t tp a b) (e : kfT t a = k) (ha : a < 400) (hx : (if kfT t (a + 1) = 20 then some (true, a + 2, [(kfT t a, nI (a + 1))]) else some (false, a + 1, [])) = some (ok, a', s))
    (hK : ∀ J b', gS J g qt qp qb t tp a' b' → (ok = true → b' = stB b s) → Fr2 g qb I J → (ok = false → Q0 (pset B J)) ∧ (ok = true → Q1 (pset B J))) : pK (pset B I) g = (1, 2) ∧ ∃ b1 : Nat, pP (pset B I) g 3 = b1 + 1 ∧ pK (pset B I) g = (1, 2) ∧ pK (pset B I) b1 = (1, 1) ∧ pCall_v d mX1_addStep (0, 0) [.ref b1, .int k, .int ((pI (pset B I) g 4) + 1)] (pset B I) (fun M1 => pK M1 g = (1, 2) ∧ pCall_i d mX2_skip (0, 0) [.ref g, .int k] M1 (fun v1 M2 => ((v1 = 0 → Q0 M2) ∧ (¬ v1 = 0 → pK M2 g = (1, 2) ∧ pCall_i d mX2_skip (0, 0) [.ref g, .int 20] M2 (fun v2 M3 => ((v2 = 0 → Q0 M3) ∧ (¬ v2 = 0 → Q1 M3))))))) := by
  refine ⟨hg.1, qb, hg.2.1.2.2.2, hg.1, hg.2.2.2.2.1.1, ?_⟩
  have e4 : pI (pset B I) g 4 = nI a := h.1
  rw [e4, nI_1]
  refine g_step (by omega) hg h (fun J1 j1 f1 => ⟨hg.1, g_skip (by omega) hg j1 (fun _ => ha) (fun _ J2 j2 f2 => ⟨fun x => absurd x (by decide), fun _ => ⟨hg.1, g_skip (by omega) hg j2 (fun z => hk.lt z (by decide) (by decide) (by decide)) (fun e5 J3 j3 f3 => ⟨fun x => absurd x (by decide), fun _ => ?_⟩) (fun e5 => ⟨fun _ => ?_, fun z => absurd rfl z⟩)⟩⟩) (fun z => absurd e z)⟩)
  · rw [if_pos e5] at hx
    cases Option.some.inj hx
    exact (hK J3 _ j3 (fun _ => by rw [e]) ((f1.tr f2).tr f3)).2 rfl
  · rw [if_neg e5] at hx
    cases Option.some.inj hx
    exact (hK J2 _ j2 (fun x => nomatch x) (f1.tr f2)).1 rfl
theorem c_compares {d : Nat} (hd : 1 ≤ d) {k : Int32} {M : pM} {K : Int32 → pM → Prop} (h1 : (k = 60 ∨ k = 62 ∨ k = 61 ∨ k = 22 ∨ k = 23) → K 1 M) (h0 : ¬ (k = 60 ∨ k = 62 ∨ k = 61 ∨ k = 22 ∨ k = 23) → K 0 M) : pCall_i d mX2_compares (0, 0) [.int k] M K := by
  refine CP_go (by omega) okX2_compares (Nat.le_of_ble_eq_true rfl) ?_
  exact bX2_compares_0 ⟨fun e => ⟨_, rfl, h1 (Or.inl e)⟩, fun n1 => ⟨fun e => ⟨_, rfl, h1 (Or.inr (Or.inl e))⟩, fun n2 => ⟨fun e => ⟨_, rfl, h1 (Or.inr (Or.inr (Or.inl e)))⟩, fun n3 => ⟨fun e => ⟨_, rfl, h1 (Or.inr (Or.inr (Or.inr (Or.inl e))))⟩, fun n4 => ⟨fun e => ⟨_, rfl, h1 (Or.inr (Or.inr (Or.inr (Or.inr e))))⟩, fun n5 => ⟨_, rfl, h0 (fun z => z.elim n1 (fun z => z.elim n2 (fun z => z.elim n3 (fun z => z.elim n4 n5))))⟩⟩⟩⟩⟩⟩
theorem g_tail_test {B : pM} {g qt qp qb : Nat} {t : tK} {tp : List Int32} (hg : gramE B g qt qp qb) (hk : kfE (kfT t)) {N : Nat} (IH : ∀ m, m < N → GS B g qt qp qb t tp m) {d dd : Nat} (hdd : dd ≤ 8) (hd : 12 * (8 - dd) + (12 - 1) ≤ d) {Q : pR → pM → Prop} : ∀ (m a i : Nat) (ok : Bool) (a' : Nat) (s : List (Int32 × Int32)) (I : pIm) (b : bB), m ≤ N → i ≤ a → gP (kfT t) (nmT tp t) m 7 dd a = some (ok, a', s) → gS I g qt qp qb t tp a b → gOut B g qt qp qb t tp I b ok a' s (fun v M => Q (.inl (some (.int v))) M) → Go d mX2_test Q 8 ([some (.ref g), some (.int (nI dd)), some (.int 1), some (.int (nI i))], [], 0, 0) (pset B I) := by
  intro m
  induction m with
  | zero => intro a i ok a' s I b hm hi h; exact nomatch h
  | succ m ih =>
    intro a i ok a' s I b hm hi h hs hQ
    rw [gP] at h
    refine bX2_test_8 ⟨fun e => ?_, fun e => ⟨fun e2 => absurd e2 (by decide), fun _ => ⟨hg.1, g_skip (by omega) hg hs (fun z => hk.lt z (by decide) (by decide) (by decide)) (fun e16 J hJ fJ => ⟨fun x => absurd x (by decide), fun _ => ⟨hg.1, ?_⟩⟩) (fun e16 => ⟨fun _ => ?_, fun z => absurd rfl z⟩)⟩⟩⟩
    · have h4 := hs.2.2.2.2.2
      have hi4 := (nI_leI (a := 400) (b := i) (by omega) (by omega)).mp e
      rw [if_neg (fun z => by have := hk.lt z (by decide) (by decide) (by decide); omega)] at h
      cases Option.some.inj h
      exact ⟨Or.inr rfl, hQ I b hs (fun _ => rfl) Fr2.rf⟩
    · rw [if_pos e16] at h
      rcases gB_some h with ⟨a1, s1, e1, hx⟩ | ⟨a1, s1, e1, h⟩
      · cases hx
        refine IH m (by omega) 1 (by decide) d dd (a + 1) _ _ _ J b _ e1 hdd (by omega) hJ (fun J2 b2 hJ2 _ f2 => ⟨hg.1, qb, hg.2.1.2.2.2, hg.2.2.2.2.1.1, g_step (by omega) hg hJ2 (fun J3 hJ3 f3 => ?_)⟩)
        have q := hQ J3 _ hJ3 (fun x => nomatch x) ((fJ.tr f2).tr f3)
        exact bX2_test_8 ⟨fun _ => ⟨Or.inl rfl, q⟩, fun _ => ⟨fun _ => ⟨Or.inl rfl, q⟩, fun z => absurd rfl z⟩⟩
      · refine IH m (by omega) 1 (by decide) d dd (a + 1) _ _ _ J b _ e1 hdd (by omega) hJ (fun J2 b2 hJ2 hb2 f2 => ⟨hg.1, qb, hg.2.1.2.2.2, hg.2.2.2.2.1.1, g_step (by omega) hg hJ2 (fun J3 hJ3 f3 => ?_)⟩)
        rw [nI_1]
        have ha1 := (gP_at hk _ _ _ _ _ e1).1
        dsimp only at ha1
        rcases gB_some h with ⟨a2, s2, e2, hx⟩ | ⟨a2, s2, e2, h⟩
        · cases hx
          exact ih a1 (i + 1) _ _ _ J3 _ (by omega) (by omega) e2 hJ3 (fun J4 b4 h4 _ f4 => hQ J4 b4 h4 (fun x => nomatch x) (((fJ.tr f2).tr f3).tr f4))
        · cases Option.some.inj h
          refine ih a1 (i + 1) _ _ _ J3 _ (by omega) (by omega) e2 hJ3 (fun J4 b4 h4 hb4 f4 => hQ J4 b4 h4 (fun _ => ?_) (((fJ.tr f2).tr f3).tr f4))
          rw [hb4 rfl, hb2 rfl, stB_app]
          rfl
    · rw [if_neg e16] at h
      cases Option.some.inj h
      exact ⟨Or.inr rfl, hQ I b hs (fun _ => rfl) Fr2.rf⟩
theorem g_test {B : pM} {g qt qp qb : Nat} {t : tK} {tp : List Int32} (hg : gramE B g qt qp qb) (hk : kfE (kfT t)) {N : Nat} (IH : ∀ m, m < N → GS B g qt qp qb t tp m) {d dd a : Nat} {ok : Bool} {a' : Nat} {s : List (Int32 × Int32)} {I : pIm} {b : bB} {K : Int32 → pM → Prop} (h : gP (kfT t) (nmT tp t) N 0 dd a = some (ok, a', s)) (hdd : dd ≤ 8) (hd : 12 * (8 - dd) + (12 - 0) ≤ d) (hs : gS I g qt qp qb t tp a b) (hK : gOut B g qt qp qb t tp I b ok a' s K) : pCall_i d mX2_test (0, 0) [.ref g, .int (nI dd)] (pset B I) K := by
  match N, IH, h with
  | 0, _, h => exact nomatch h
  | N + 1, IH, h =>
    rw [gP] at h
    refine CP_go (by omega) okX2_test (Nat.le_of_ble_eq_true rfl) ?_
    rcases gB_some h with ⟨a1, s1, e1, hx⟩ | ⟨a1, s1, e1, h⟩
    · cases hx
      refine bX2_test_0 ⟨hg.1, IH N (by omega) 1 (by decide) (d - 1) dd a _ _ _ I b _ e1 hdd (by omega) hs (fun J2 b2 hJ2 _ f2 => ?_)⟩
      have q := hK J2 _ hJ2 (fun x => nomatch x) f2
      exact bX2_test_8 ⟨fun _ => ⟨Or.inl rfl, _, rfl, q⟩, fun _ => ⟨fun _ => ⟨Or.inl rfl, _, rfl, q⟩, fun z => absurd rfl z⟩⟩
    · refine bX2_test_0 ⟨hg.1, IH N (by omega) 1 (by decide) (d - 1) dd a _ _ _ I b _ e1 hdd (by omega) hs (fun J2 b2 hJ2 hb2 f2 => ?_)⟩
      rcases gB_some h with ⟨a2, s2, e2, hx⟩ | ⟨a2, s2, e2, h⟩
      · cases hx
        exact g_tail_test hg hk IH hdd (by omega) N a1 0 _ _ _ J2 _ (by omega) (by omega) e2 hJ2 (fun J4 b4 h4 _ f4 => ⟨_, rfl, hK J4 b4 h4 (fun x => nomatch x) (f2.tr f4)⟩)
      · cases Option.some.inj h
        refine g_tail_test hg hk IH hdd (by omega) N a1 0 _ _ _ J2 _ (by omega) (by omega) e2 hJ2 (fun J4 b4 h4 hb4 f4 => ⟨_, rfl, hK J4 b4 h4 (fun _ => ?_) (f2.tr f4)⟩)
        rw [hb4 rfl, hb2 rfl, stB_app]
theorem g_tail_both {B : pM} {g qt qp qb : Nat} {t : tK} {tp : List Int32} (hg : gramE B g qt qp qb) (hk : kfE (kfT t)) {N : Nat} (IH : ∀ m, m < N → GS B g qt qp qb t tp m) {d dd : Nat} (hdd : dd ≤ 8) (hd : 12 * (8 - dd) + (12 - 2) ≤ d) {Q : pR → pM → Prop} : ∀ (m a i : Nat) (ok : Bool) (a' : Nat) (s : List (Int32 × Int32)) (I : pIm) (b : bB), m ≤ N → i ≤ a → gP (kfT t) (nmT tp t) m 8 dd a = some (ok, a', s) → gS I g qt qp qb t tp a b → gOut B g qt qp qb t tp I b ok a' s (fun v M => Q (.inl (some (.int v))) M) → Go d mX2_both Q 8 ([some (.ref g), some (.int (nI dd)), some (.int 1), some (.int (nI i))], [], 0, 0) (pset B I) := by
  intro m
  induction m with
  | zero => intro a i ok a' s I b hm hi h; exact nomatch h
  | succ m ih =>
    intro a i ok a' s I b hm hi h hs hQ
    rw [gP] at h
    refine bX2_both_8 ⟨fun e => ?_, fun e => ⟨fun e2 => absurd e2 (by decide), fun _ => ⟨hg.1, g_skip (by omega) hg hs (fun z => hk.lt z (by decide) (by decide) (by decide)) (fun e16 J hJ fJ => ⟨fun x => absurd x (by decide), fun _ => ⟨hg.1, ?_⟩⟩) (fun e16 => ⟨fun _ => ?_, fun z => absurd rfl z⟩)⟩⟩⟩
    · have h4 := hs.2.2.2.2.2
      have hi4 := (nI_leI (a := 400) (b := i) (by omega) (by omega)).mp e
      rw [if_neg (fun z => by have := hk.lt z (by decide) (by decide) (by decide); omega)] at h
      cases Option.some.inj h
      exact ⟨Or.inr rfl, hQ I b hs (fun _ => rfl) Fr2.rf⟩
    · rw [if_pos e16] at h
      rcases gB_some h with ⟨a1, s1, e1, hx⟩ | ⟨a1, s1, e1, h⟩
      · cases hx
        refine IH m (by omega) 2 (by decide) d dd (a + 1) _ _ _ J b _ e1 hdd (by omega) hJ (fun J2 b2 hJ2 _ f2 => ⟨hg.1, qb, hg.2.1.2.2.2, hg.2.2.2.2.1.1, g_step (by omega) hg hJ2 (fun J3 hJ3 f3 => ?_)⟩)
        have q := hQ J3 _ hJ3 (fun x => nomatch x) ((fJ.tr f2).tr f3)
        exact bX2_both_8 ⟨fun _ => ⟨Or.inl rfl, q⟩, fun _ => ⟨fun _ => ⟨Or.inl rfl, q⟩, fun z => absurd rfl z⟩⟩
      · refine IH m (by omega) 2 (by decide) d dd (a + 1) _ _ _ J b _ e1 hdd (by omega) hJ (fun J2 b2 hJ2 hb2 f2 => ⟨hg.1, qb, hg.2.1.2.2.2, hg.2.2.2.2.1.1, g_step (by omega) hg hJ2 (fun J3 hJ3 f3 => ?_)⟩)
        rw [nI_1]
        have ha1 := (gP_at hk _ _ _ _ _ e1).1
        dsimp only at ha1
        rcases gB_some h with ⟨a2, s2, e2, hx⟩ | ⟨a2, s2, e2, h⟩
        · cases hx
          exact ih a1 (i + 1) _ _ _ J3 _ (by omega) (by omega) e2 hJ3 (fun J4 b4 h4 _ f4 => hQ J4 b4 h4 (fun x => nomatch x) (((fJ.tr f2).tr f3).tr f4))
        · cases Option.some.inj h
          refine ih a1 (i + 1) _ _ _ J3 _ (by omega) (by omega) e2 hJ3 (fun J4 b4 h4 hb4 f4 => hQ J4 b4 h4 (fun _ => ?_) (((fJ.tr f2).tr f3).tr f4))
          rw [hb4 rfl, hb2 rfl, stB_app]
          rfl
    · rw [if_neg e16] at h
      cases Option.some.inj h
      exact ⟨Or.inr rfl, hQ I b hs (fun _ => rfl) Fr2.rf⟩
theorem g_both {B : pM} {g qt qp qb : Nat} {t : tK} {tp : List Int32} (hg : gramE B g qt qp qb) (hk : kfE (kfT t)) {N : Nat} (IH : ∀ m, m < N → GS B g qt qp qb t tp m) {d dd a : Nat} {ok : Bool} {a' : Nat} {s : List (Int32 × Int32)} {I : pIm} {b : bB} {K : Int32 → pM → Prop} (h : gP (kfT t) (nmT tp t) N 1 dd a = some (ok, a', s)) (hdd : dd ≤ 8) (hd : 12 * (8 - dd) + (12 - 1) ≤ d) (hs : gS I g qt qp qb t tp a b) (hK : gOut B g qt qp qb t tp I b ok a' s K) : pCall_i d mX2_both (0, 0) [.ref g, .int (nI dd)] (pset B I) K := by
  match N, IH, h with
  | 0, _, h => exact nomatch h
  | N + 1, IH, h =>
    rw [gP] at h
    refine CP_go (by omega) okX2_both (Nat.le_of_ble_eq_true rfl) ?_
    rcases gB_some h with ⟨a1, s1, e1, hx⟩ | ⟨a1, s1, e1, h⟩
    · cases hx
      refine bX2_both_0 ⟨hg.1, IH N (by omega) 2 (by decide) (d - 1) dd a _ _ _ I b _ e1 hdd (by omega) hs (fun J2 b2 hJ2 _ f2 => ?_)⟩
      have q := hK J2 _ hJ2 (fun x => nomatch x) f2
      exact bX2_both_8 ⟨fun _ => ⟨Or.inl rfl, _, rfl, q⟩, fun _ => ⟨fun _ => ⟨Or.inl rfl, _, rfl, q⟩, fun z => absurd rfl z⟩⟩
    · refine bX2_both_0 ⟨hg.1, IH N (by omega) 2 (by decide) (d - 1) dd a _ _ _ I b _ e1 hdd (by omega) hs (fun J2 b2 hJ2 hb2 f2 => ?_)⟩
      rcases gB_some h with ⟨a2, s2, e2, hx⟩ | ⟨a2, s2, e2, h⟩
      · cases hx
        exact g_tail_both hg hk IH hdd (by omega) N a1 0 _ _ _ J2 _ (by omega) (by omega) e2 hJ2 (fun J4 b4 h4 _ f4 => ⟨_, rfl, hK J4 b4 h4 (fun x => nomatch x) (f2.tr f4)⟩)
      · cases Option.some.inj h
        refine g_tail_both hg hk IH hdd (by omega) N a1 0 _ _ _ J2 _ (by omega) (by omega) e2 hJ2 (fun J4 b4 h4 hb4 f4 => ⟨_, rfl, hK J4 b4 h4 (fun _ => ?_) (f2.tr f4)⟩)
        rw [hb4 rfl, hb2 rfl, stB_app]
theorem g_tail_sum {B : pM} {g qt qp qb : Nat} {t : tK} {tp : List Int32} (hg : gramE B g qt qp qb) (hk : kfE (kfT t)) {N : Nat} (IH : ∀ m, m < N → GS B g qt qp qb t tp m) {d dd : Nat} (hdd : dd ≤ 8) (hd : 12 * (8 - dd) + (12 - 5) ≤ d) {Q : pR → pM → Prop} : ∀ (m a i : Nat) (ok : Bool) (a' : Nat) (s : List (Int32 × Int32)) (I : pIm) (b : bB), m ≤ N → i ≤ a → gP (kfT t) (nmT tp t) m 9 dd a = some (ok, a', s) → gS I g qt qp qb t tp a b → gOut B g qt qp qb t tp I b ok a' s (fun v M => Q (.inl (some (.int v))) M) → Go d mX2_sum Q 8 ([some (.ref g), some (.int (nI dd)), some (.int 1), some (.int (nI i)), none], [], 0, 0) (pset B I) := by
  intro m
  induction m with
  | zero => intro a i ok a' s I b hm hi h; exact nomatch h
  | succ m ih =>
    intro a i ok a' s I b hm hi h hs hQ
    rw [gP] at h
    have h4 := hs.2.2.2.2.2
    have hlt : (kfT t a = 43 ∨ kfT t a = 45) → a < 400 := fun z => z.elim (fun z => hk.lt z (by decide) (by decide) (by decide)) (fun z => hk.lt z (by decide) (by decide) (by decide))
    have stop : ¬ (kfT t a = 43 ∨ kfT t a = 45) → Q (.inl (some (.int 1))) (pset B I) := by
      intro z
      rw [if_neg z] at h
      cases Option.some.inj h
      exact hQ I b hs (fun _ => rfl) Fr2.rf
    have on : (kfT t a = 43 ∨ kfT t a = 45) → Go d mX2_sum Q 37 ([some (.ref g), some (.int (nI dd)), none, some (.int (nI i)), none], [], 0, 0) (pset B I) := by
      intro ek
      rw [if_pos ek] at h
      refine bX2_sum_37 ⟨hg.1, _, hg.2.1.2.1, hg.1, hg.2.2.1.2.2.2.1.1, g_at (by omega) hg hs ⟨hg.1, g_skip (by omega) hg hs (fun _ => hlt ek) (fun _ J hJ fJ => ⟨fun x => absurd x (by decide), fun _ => ⟨hg.1, ?_⟩⟩) (fun z => absurd rfl z)⟩⟩
      rcases gB_some h with ⟨a1, s1, e1, hx⟩ | ⟨a1, s1, e1, h⟩
      · cases hx
        refine IH m (by omega) 5 (by decide) d dd (a + 1) _ _ _ J b _ e1 hdd (by omega) hJ (fun J2 b2 hJ2 _ f2 => ⟨fun _ => bX2_sum_71 ⟨hg.1, qb, hg.2.1.2.2.2, hg.2.2.2.2.1.1, g_step (by omega) hg hJ2 (fun J3 hJ3 f3 => ?_)⟩, fun z => absurd rfl z⟩)
        have q := hQ J3 _ hJ3 (fun x => nomatch x) ((fJ.tr f2).tr f3)
        exact bX2_sum_8 ⟨fun _ => ⟨Or.inl rfl, q⟩, fun _ => ⟨fun _ => ⟨Or.inl rfl, q⟩, fun z => absurd rfl z⟩⟩
      · refine IH m (by omega) 5 (by decide) d dd (a + 1) _ _ _ J b _ e1 hdd (by omega) hJ (fun J2 b2 hJ2 hb2 f2 => ⟨fun x => absurd x (by decide), fun _ => ⟨hg.1, qb, hg.2.1.2.2.2, hg.2.2.2.2.1.1, g_step (by omega) hg hJ2 (fun J3 hJ3 f3 => ?_)⟩⟩)
        rw [nI_1]
        have ha1 := (gP_at hk _ _ _ _ _ e1).1
        dsimp only at ha1
        rcases gB_some h with ⟨a2, s2, e2, hx⟩ | ⟨a2, s2, e2, h⟩
        · cases hx
          exact ih a1 (i + 1) _ _ _ J3 _ (by omega) (by omega) e2 hJ3 (fun J4 b4 h4 _ f4 => hQ J4 b4 h4 (fun x => nomatch x) (((fJ.tr f2).tr f3).tr f4))
        · cases Option.some.inj h
          refine ih a1 (i + 1) _ _ _ J3 _ (by omega) (by omega) e2 hJ3 (fun J4 b4 h4 hb4 f4 => hQ J4 b4 h4 (fun _ => ?_) (((fJ.tr f2).tr f3).tr f4))
          rw [hb4 rfl, hb2 rfl, stB_app]
          rfl
    refine bX2_sum_8 ⟨fun e => ?_, fun e => ⟨fun e2 => absurd e2 (by decide), fun _ => ⟨hg.1, g_is (by omega) hg hs ?_⟩⟩⟩
    · have hi4 := (nI_leI (a := 400) (b := i) (by omega) (by omega)).mp e
      exact ⟨Or.inr rfl, stop (fun z => by have := hlt z; omega)⟩
    · by_cases e1 : kfT t a = 43
      · rw [if_pos e1]
        exact ⟨fun x => absurd x (by decide), fun _ => on (Or.inl e1)⟩
      · rw [if_neg e1]
        refine ⟨fun _ => ⟨hg.1, g_is (by omega) hg hs ?_⟩, fun z => absurd rfl z⟩
        by_cases e2 : kfT t a = 45
        · rw [if_pos e2]
          exact ⟨fun x => absurd x (by decide), fun _ => on (Or.inr e2)⟩
        · rw [if_neg e2]
          exact ⟨fun _ => ⟨Or.inr rfl, stop (fun z => z.elim e1 e2)⟩, fun z => absurd rfl z⟩
theorem g_sum {B : pM} {g qt qp qb : Nat} {t : tK} {tp : List Int32} (hg : gramE B g qt qp qb) (hk : kfE (kfT t)) {N : Nat} (IH : ∀ m, m < N → GS B g qt qp qb t tp m) {d dd a : Nat} {ok : Bool} {a' : Nat} {s : List (Int32 × Int32)} {I : pIm} {b : bB} {K : Int32 → pM → Prop} (h : gP (kfT t) (nmT tp t) N 4 dd a = some (ok, a', s)) (hdd : dd ≤ 8) (hd : 12 * (8 - dd) + (12 - 4) ≤ d) (hs : gS I g qt qp qb t tp a b) (hK : gOut B g qt qp qb t tp I b ok a' s K) : pCall_i d mX2_sum (0, 0) [.ref g, .int (nI dd)] (pset B I) K := by
  match N, IH, h with
  | 0, _, h => exact nomatch h
  | N + 1, IH, h =>
    rw [gP] at h
    refine CP_go (by omega) okX2_sum (Nat.le_of_ble_eq_true rfl) ?_
    rcases gB_some h with ⟨a1, s1, e1, hx⟩ | ⟨a1, s1, e1, h⟩
    · cases hx
      refine bX2_sum_0 ⟨hg.1, IH N (by omega) 5 (by decide) (d - 1) dd a _ _ _ I b _ e1 hdd (by omega) hs (fun J2 b2 hJ2 _ f2 => ?_)⟩
      have q := hK J2 _ hJ2 (fun x => nomatch x) f2
      exact bX2_sum_8 ⟨fun _ => ⟨Or.inl rfl, _, rfl, q⟩, fun _ => ⟨fun _ => ⟨Or.inl rfl, _, rfl, q⟩, fun z => absurd rfl z⟩⟩
    · refine bX2_sum_0 ⟨hg.1, IH N (by omega) 5 (by decide) (d - 1) dd a _ _ _ I b _ e1 hdd (by omega) hs (fun J2 b2 hJ2 hb2 f2 => ?_)⟩
      rcases gB_some h with ⟨a2, s2, e2, hx⟩ | ⟨a2, s2, e2, h⟩
      · cases hx
        exact g_tail_sum hg hk IH hdd (by omega) N a1 0 _ _ _ J2 _ (by omega) (by omega) e2 hJ2 (fun J4 b4 h4 _ f4 => ⟨_, rfl, hK J4 b4 h4 (fun x => nomatch x) (f2.tr f4)⟩)
      · cases Option.some.inj h
        refine g_tail_sum hg hk IH hdd (by omega) N a1 0 _ _ _ J2 _ (by omega) (by omega) e2 hJ2 (fun J4 b4 h4 hb4 f4 => ⟨_, rfl, hK J4 b4 h4 (fun _ => ?_) (f2.tr f4)⟩)
        rw [hb4 rfl, hb2 rfl, stB_app]
theorem g_tail_product {B : pM} {g qt qp qb : Nat} {t : tK} {tp : List Int32} (hg : gramE B g qt qp qb) (hk : kfE (kfT t)) {N : Nat} (IH : ∀ m, m < N → GS B g qt qp qb t tp m) {d dd : Nat} (hdd : dd ≤ 8) (hd : 12 * (8 - dd) + (12 - 6) ≤ d) {Q : pR → pM → Prop} : ∀ (m a i : Nat) (ok : Bool) (a' : Nat) (s : List (Int32 × Int32)) (I : pIm) (b : bB), m ≤ N → i ≤ a → gP (kfT t) (nmT tp t) m 10 dd a = some (ok, a', s) → gS I g qt qp qb t tp a b → gOut B g qt qp qb t tp I b ok a' s (fun v M => Q (.inl (some (.int v))) M) → Go d mX2_product Q 8 ([some (.ref g), some (.int (nI dd)), some (.int 1), some (.int (nI i)), none], [], 0, 0) (pset B I) := by
  intro m
  induction m with
  | zero => intro a i ok a' s I b hm hi h; exact nomatch h
  | succ m ih =>
    intro a i ok a' s I b hm hi h hs hQ
    rw [gP] at h
    have h4 := hs.2.2.2.2.2
    have hlt : (kfT t a = 42 ∨ kfT t a = 47) → a < 400 := fun z => z.elim (fun z => hk.lt z (by decide) (by decide) (by decide)) (fun z => hk.lt z (by decide) (by decide) (by decide))
    have stop : ¬ (kfT t a = 42 ∨ kfT t a = 47) → Q (.inl (some (.int 1))) (pset B I) := by
      intro z
      rw [if_neg z] at h
      cases Option.some.inj h
      exact hQ I b hs (fun _ => rfl) Fr2.rf
    have on : (kfT t a = 42 ∨ kfT t a = 47) → Go d mX2_product Q 37 ([some (.ref g), some (.int (nI dd)), none, some (.int (nI i)), none], [], 0, 0) (pset B I) := by
      intro ek
      rw [if_pos ek] at h
      refine bX2_product_37 ⟨hg.1, _, hg.2.1.2.1, hg.1, hg.2.2.1.2.2.2.1.1, g_at (by omega) hg hs ⟨hg.1, g_skip (by omega) hg hs (fun _ => hlt ek) (fun _ J hJ fJ => ⟨fun x => absurd x (by decide), fun _ => ⟨hg.1, ?_⟩⟩) (fun z => absurd rfl z)⟩⟩
      rcases gB_some h with ⟨a1, s1, e1, hx⟩ | ⟨a1, s1, e1, h⟩
      · cases hx
        refine IH m (by omega) 6 (by decide) d dd (a + 1) _ _ _ J b _ e1 hdd (by omega) hJ (fun J2 b2 hJ2 _ f2 => ⟨fun _ => bX2_product_71 ⟨hg.1, qb, hg.2.1.2.2.2, hg.2.2.2.2.1.1, g_step (by omega) hg hJ2 (fun J3 hJ3 f3 => ?_)⟩, fun z => absurd rfl z⟩)
        have q := hQ J3 _ hJ3 (fun x => nomatch x) ((fJ.tr f2).tr f3)
        exact bX2_product_8 ⟨fun _ => ⟨Or.inl rfl, q⟩, fun _ => ⟨fun _ => ⟨Or.inl rfl, q⟩, fun z => absurd rfl z⟩⟩
      · refine IH m (by omega) 6 (by decide) d dd (a + 1) _ _ _ J b _ e1 hdd (by omega) hJ (fun J2 b2 hJ2 hb2 f2 => ⟨fun x => absurd x (by decide), fun _ => ⟨hg.1, qb, hg.2.1.2.2.2, hg.2.2.2.2.1.1, g_step (by omega) hg hJ2 (fun J3 hJ3 f3 => ?_)⟩⟩)
        rw [nI_1]
        have ha1 := (gP_at hk _ _ _ _ _ e1).1
        dsimp only at ha1
        rcases gB_some h with ⟨a2, s2, e2, hx⟩ | ⟨a2, s2, e2, h⟩
        · cases hx
          exact ih a1 (i + 1) _ _ _ J3 _ (by omega) (by omega) e2 hJ3 (fun J4 b4 h4 _ f4 => hQ J4 b4 h4 (fun x => nomatch x) (((fJ.tr f2).tr f3).tr f4))
        · cases Option.some.inj h
          refine ih a1 (i + 1) _ _ _ J3 _ (by omega) (by omega) e2 hJ3 (fun J4 b4 h4 hb4 f4 => hQ J4 b4 h4 (fun _ => ?_) (((fJ.tr f2).tr f3).tr f4))
          rw [hb4 rfl, hb2 rfl, stB_app]
          rfl
    refine bX2_product_8 ⟨fun e => ?_, fun e => ⟨fun e2 => absurd e2 (by decide), fun _ => ⟨hg.1, g_is (by omega) hg hs ?_⟩⟩⟩
    · have hi4 := (nI_leI (a := 400) (b := i) (by omega) (by omega)).mp e
      exact ⟨Or.inr rfl, stop (fun z => by have := hlt z; omega)⟩
    · by_cases e1 : kfT t a = 42
      · rw [if_pos e1]
        exact ⟨fun x => absurd x (by decide), fun _ => on (Or.inl e1)⟩
      · rw [if_neg e1]
        refine ⟨fun _ => ⟨hg.1, g_is (by omega) hg hs ?_⟩, fun z => absurd rfl z⟩
        by_cases e2 : kfT t a = 47
        · rw [if_pos e2]
          exact ⟨fun x => absurd x (by decide), fun _ => on (Or.inr e2)⟩
        · rw [if_neg e2]
          exact ⟨fun _ => ⟨Or.inr rfl, stop (fun z => z.elim e1 e2)⟩, fun z => absurd rfl z⟩
theorem g_product {B : pM} {g qt qp qb : Nat} {t : tK} {tp : List Int32} (hg : gramE B g qt qp qb) (hk : kfE (kfT t)) {N : Nat} (IH : ∀ m, m < N → GS B g qt qp qb t tp m) {d dd a : Nat} {ok : Bool} {a' : Nat} {s : List (Int32 × Int32)} {I : pIm} {b : bB} {K : Int32 → pM → Prop} (h : gP (kfT t) (nmT tp t) N 5 dd a = some (ok, a', s)) (hdd : dd ≤ 8) (hd : 12 * (8 - dd) + (12 - 5) ≤ d) (hs : gS I g qt qp qb t tp a b) (hK : gOut B g qt qp qb t tp I b ok a' s K) : pCall_i d mX2_product (0, 0) [.ref g, .int (nI dd)] (pset B I) K := by
  match N, IH, h with
  | 0, _, h => exact nomatch h
  | N + 1, IH, h =>
    rw [gP] at h
    refine CP_go (by omega) okX2_product (Nat.le_of_ble_eq_true rfl) ?_
    rcases gB_some h with ⟨a1, s1, e1, hx⟩ | ⟨a1, s1, e1, h⟩
    · cases hx
      refine bX2_product_0 ⟨hg.1, IH N (by omega) 6 (by decide) (d - 1) dd a _ _ _ I b _ e1 hdd (by omega) hs (fun J2 b2 hJ2 _ f2 => ?_)⟩
      have q := hK J2 _ hJ2 (fun x => nomatch x) f2
      exact bX2_product_8 ⟨fun _ => ⟨Or.inl rfl, _, rfl, q⟩, fun _ => ⟨fun _ => ⟨Or.inl rfl, _, rfl, q⟩, fun z => absurd rfl z⟩⟩
    · refine bX2_product_0 ⟨hg.1, IH N (by omega) 6 (by decide) (d - 1) dd a _ _ _ I b _ e1 hdd (by omega) hs (fun J2 b2 hJ2 hb2 f2 => ?_)⟩
      rcases gB_some h with ⟨a2, s2, e2, hx⟩ | ⟨a2, s2, e2, h⟩
      · cases hx
        exact g_tail_product hg hk IH hdd (by omega) N a1 0 _ _ _ J2 _ (by omega) (by omega) e2 hJ2 (fun J4 b4 h4 _ f4 => ⟨_, rfl, hK J4 b4 h4 (fun x => nomatch x) (f2.tr f4)⟩)
      · cases Option.some.inj h
        refine g_tail_product hg hk IH hdd (by omega) N a1 0 _ _ _ J2 _ (by omega) (by omega) e2 hJ2 (fun J4 b4 h4 hb4 f4 => ⟨_, rfl, hK J4 b4 h4 (fun _ => ?_) (f2.tr f4)⟩)
        rw [hb4 rfl, hb2 rfl, stB_app]
theorem g_cmp {B : pM} {g qt qp qb : Nat} {t : tK} {tp : List Int32} (hg : gramE B g qt qp qb) (hk : kfE (kfT t)) {N : Nat} (IH : ∀ m, m < N → GS B g qt qp qb t tp m) {d dd a : Nat} {ok : Bool} {a' : Nat} {s : List (Int32 × Int32)} {I : pIm} {b : bB} {Q0 Q1 : pM → Prop} (h : gP (kfT t) (nmT tp t) N 3 dd a = some (ok, a', s)) (hdd : dd ≤ 8) (hd : 12 * (8 - dd) + (12 - 4) ≤ d) (hs : gS I g qt qp qb t tp a b)
    (hK : ∀ J b', gS J g qt qp qb t tp a' b' → (ok = true → b' = stB b s) → Fr2 g qb I J → (ok = false → Q0 (pset B J)) ∧ (ok = true → Q1 (pset B J))) : pK (pset B I) g = (1, 2) ∧ pCall_i d mX2_sum (0, 0) [.ref g, .int (nI dd)] (pset B I) (fun v7 M8 => ((v7 = 0 → Q0 M8) ∧ (¬ v7 = 0 → pK M8 g = (1, 2) ∧ ∃ b3 : Nat, pP M8 g 1 = b3 + 1 ∧ pK M8 g = (1, 2) ∧ pK M8 b3 = (1, 9) ∧ pCall_i d mX9_at (0, 0) [.ref b3, .int (pI M8 g 4)] M8 (fun v8 M9 => pCall_i d mX2_compares (0, 0) [.int v8] M9 (fun v9 M10 => ((v9 = 0 → Q0 M10) ∧ (¬ v9 = 0 → pK M10 g = (1, 2) ∧ pCall_i d mX2_skip (0, 0) [.ref g, .int v8] M10 (fun v10 M11 => ((v10 = 0 → Q0 M11) ∧ (¬ v10 = 0 → pK M11 g = (1, 2) ∧ pCall_i d mX2_sum (0, 0) [.ref g, .int (nI dd)] M11 (fun v11 M12 => ((v11 = 0 → Q0 M12) ∧ (¬ v11 = 0 → pK M12 g = (1, 2) ∧ ∃ b4 : Nat, pP M12 g 3 = b4 + 1 ∧ pK M12 b4 = (1, 1) ∧ pCall_v d mX1_addStep (0, 0) [.ref b4, .int v8, .int 0] M12 (fun M13 => Q1 M13)))))))))))))) := by
  match N, IH, h with
  | 0, _, h => exact nomatch h
  | N + 1, IH, h =>
    rw [gP] at h
    have h4 := hs.2.2.2.2.2
    refine ⟨hg.1, ?_⟩
    rcases gB_some h with ⟨a1, s1, e1, hx⟩ | ⟨a1, s1, e1, h⟩
    · cases hx
      exact IH N (by omega) 4 (by decide) d dd a _ _ _ I b _ e1 hdd (by omega) hs (fun J2 b2 hJ2 _ f2 => ⟨fun _ => (hK J2 _ hJ2 (fun x => nomatch x) f2).1 rfl, fun z => absurd rfl z⟩)
    · refine IH N (by omega) 4 (by decide) d dd a _ _ _ I b _ e1 hdd (by omega) hs (fun J2 b2 hJ2 hb2 f2 => ⟨fun x => absurd x (by decide), fun _ => ⟨hg.1, _, hg.2.1.2.1, hg.1, hg.2.2.1.2.2.2.1.1, g_at (by omega) hg hJ2 (c_compares (by omega) (fun ek => ⟨fun x => absurd x (by decide), fun _ => ?_⟩) (fun n => ⟨fun _ => ?_, fun z => absurd rfl z⟩))⟩⟩)
      · rw [if_pos ek] at h
        have hlt : a1 < 400 := ek.elim (fun e => hk.lt e (by decide) (by decide) (by decide)) (fun e2 => e2.elim (fun e => hk.lt e (by decide) (by decide) (by decide)) (fun e2 => e2.elim (fun e => hk.lt e (by decide) (by decide) (by decide)) (fun e2 => e2.elim (fun e => hk.lt e (by decide) (by decide) (by decide)) (fun e => hk.lt e (by decide) (by decide) (by decide)))))
        refine ⟨hg.1, g_skip (by omega) hg hJ2 (fun _ => hlt) (fun _ J3 hJ3 f3 => ⟨fun x => absurd x (by decide), fun _ => ⟨hg.1, ?_⟩⟩) (fun z => absurd rfl z)⟩
        rcases gB_some h with ⟨a2, s2, e2, hx⟩ | ⟨a2, s2, e2, h⟩
        · cases hx
          exact IH N (by omega) 4 (by decide) d dd (a1 + 1) _ _ _ J3 _ _ e2 hdd (by omega) hJ3 (fun J4 b4 hJ4 _ f4 => ⟨fun _ => (hK J4 _ hJ4 (fun x => nomatch x) ((f2.tr f3).tr f4)).1 rfl, fun z => absurd rfl z⟩)
        · cases Option.some.inj h
          refine IH N (by omega) 4 (by decide) d dd (a1 + 1) _ _ _ J3 _ _ e2 hdd (by omega) hJ3 (fun J4 b4 hJ4 hb4 f4 => ⟨fun x => absurd x (by decide), fun _ => ⟨hg.1, qb, hg.2.1.2.2.2, hg.2.2.2.2.1.1, g_step (by omega) hg hJ4 (fun J5 hJ5 f5 => (hK J5 _ hJ5 (fun _ => ?_) (((f2.tr f3).tr f4).tr f5)).2 rfl)⟩⟩)
          rw [hb4 rfl, hb2 rfl, stB_app, stB_app]
      · rw [if_neg n] at h
        cases Option.some.inj h
        exact (hK J2 _ hJ2 (fun x => nomatch x) f2).1 rfl
theorem g_single {B : pM} {g qt qp qb : Nat} {t : tK} {tp : List Int32} (hg : gramE B g qt qp qb) (hk : kfE (kfT t)) {N : Nat} (IH : ∀ m, m < N → GS B g qt qp qb t tp m) {d dd a : Nat} {ok : Bool} {a' : Nat} {s : List (Int32 × Int32)} {I : pIm} {b : bB} {K : Int32 → pM → Prop} (h : gP (kfT t) (nmT tp t) N 2 dd a = some (ok, a', s)) (hdd : dd ≤ 8) (hd : 12 * (8 - dd) + (12 - 2) ≤ d) (hs : gS I g qt qp qb t tp a b) (hK : gOut B g qt qp qb t tp I b ok a' s K) : pCall_i d mX2_single (0, 0) [.ref g, .int (nI dd)] (pset B I) K := by
  match N, IH, h with
  | 0, _, h => exact nomatch h
  | N + 1, IH, h =>
    rw [gP] at h
    have h4 := hs.2.2.2.2.2
    refine CP_go (by omega) okX2_single (Nat.le_of_ble_eq_true rfl) ?_
    refine bX2_single_0 ⟨hg.1, _, hg.2.1.2.1, hg.1, hg.2.2.1.2.2.2.1.1, g_at (by omega) hg hs ?_⟩
    have nam : (kfT t a = 12 ∨ kfT t a = 13) → Go (d - 1) mX2_single (fun r M1 => ∃ v, r = .inl (some (.int v)) ∧ K v M1) 132 ([some (.ref g), none, some (.int (kfT t a)), none], [], 0, 0) (pset B I) := by
      intro ek
      rw [if_pos ek] at h
      have hlt : a < 400 := ek.elim (fun e => hk.lt e (by decide) (by decide) (by decide)) (fun e => hk.lt e (by decide) (by decide) (by decide))
      exact bX2_single_132 (g_name (by omega) hg hk hs rfl hlt h (fun J b' hJ hb hf => ⟨fun eo => ⟨_, rfl, by have := hK J b' hJ hb hf; rw [eo] at this; exact this⟩, fun eo => ⟨_, rfl, by have := hK J b' hJ hb hf; rw [eo] at this; exact this⟩⟩))
    refine ⟨fun e => nam (Or.inl e), fun n1 => ⟨fun e => nam (Or.inr e), fun n2 => ?_⟩⟩
    rw [if_neg (fun z => z.elim n1 n2)] at h
    refine ⟨fun e => ?_, fun n3 => ?_⟩
    · have no : ¬ (dd < 8 ∧ kfT t a = kfT t a) → K 0 (pset B I) := by
        intro z
        rw [if_pos e, if_neg (fun y => z ⟨y, rfl⟩)] at h
        cases Option.some.inj h
        exact hK I b hs (fun x => nomatch x) Fr2.rf
      refine g_deep (by omega) hg hs hdd (fun _ => hk.lt e (by decide) (by decide) (by decide)) (fun e8 _ J1 hJ1 f1 => ⟨hg.1, ?_⟩) (fun z => ⟨_, rfl, no z⟩) (fun z => ⟨_, rfl, no z⟩)
      rw [if_pos e, if_pos e8] at h
      rw [nI_1]
      rcases gB_some h with ⟨a1, s1, e1, hx⟩ | ⟨a1, s1, e1, h⟩
      · cases hx
        exact IH N (by omega) 2 (by decide) (d - 1) (dd + 1) (a + 1) _ _ _ J1 _ _ e1 (by omega) (by omega) hJ1 (fun J4 b4 hJ4 _ f4 => ⟨fun _ => ⟨_, rfl, hK J4 _ hJ4 (fun x => nomatch x) (f1.tr f4)⟩, fun z => absurd rfl z⟩)
      · cases Option.some.inj h
        refine IH N (by omega) 2 (by decide) (d - 1) (dd + 1) (a + 1) _ _ _ J1 _ _ e1 (by omega) (by omega) hJ1 (fun J4 b4 hJ4 hb4 f4 => ⟨fun x => absurd x (by decide), fun _ => ⟨hg.1, qb, hg.2.1.2.2.2, hg.2.2.2.2.1.1, g_step (by omega) hg hJ4 (fun J5 hJ5 f5 => ⟨_, rfl, hK J5 _ hJ5 (fun _ => ?_) ((f1.tr f4).tr f5)⟩)⟩⟩)
        rw [hb4 rfl, stB_app, e]
    rw [if_neg n3] at h
    refine ⟨fun e => ?_, fun n4 => ?_⟩
    · have no : ¬ (dd < 8 ∧ kfT t a = kfT t a) → K 0 (pset B I) := by
        intro z
        rw [if_pos e, if_neg (fun y => z ⟨y, rfl⟩)] at h
        cases Option.some.inj h
        exact hK I b hs (fun x => nomatch x) Fr2.rf
      refine g_deep (by omega) hg hs hdd (fun _ => hk.lt e (by decide) (by decide) (by decide)) (fun e8 _ J1 hJ1 f1 => ⟨hg.1, ?_⟩) (fun z => ⟨_, rfl, no z⟩) (fun z => ⟨_, rfl, no z⟩)
      rw [if_pos e, if_pos e8] at h
      rw [nI_1]
      rcases gB_some h with ⟨a1, s1, e1, hx⟩ | ⟨a1, s1, e1, h⟩
      · cases hx
        exact IH N (by omega) 0 (by decide) (d - 1) (dd + 1) (a + 1) _ _ _ J1 _ _ e1 (by omega) (by omega) hJ1 (fun J4 b4 hJ4 _ f4 => ⟨fun _ => ⟨_, rfl, hK J4 _ hJ4 (fun x => nomatch x) (f1.tr f4)⟩, fun z => absurd rfl z⟩)
      · refine IH N (by omega) 0 (by decide) (d - 1) (dd + 1) (a + 1) _ _ _ J1 _ _ e1 (by omega) (by omega) hJ1 (fun J4 b4 hJ4 hb4 f4 => ⟨fun x => absurd x (by decide), fun _ => ⟨hg.1, g_skip (by omega) hg hJ4 (fun z => hk.lt z (by decide) (by decide) (by decide)) (fun e9 J5 hJ5 f5 => ⟨fun x => absurd x (by decide), fun _ => ⟨_, rfl, ?_⟩⟩) (fun e9 => ⟨fun _ => ⟨_, rfl, ?_⟩, fun z => absurd rfl z⟩)⟩⟩)
        · rw [if_pos e9] at h
          cases Option.some.inj h
          exact hK J5 _ hJ5 (fun _ => hb4 rfl) ((f1.tr f4).tr f5)
        · rw [if_neg e9] at h
          cases Option.some.inj h
          exact hK J4 _ hJ4 (fun x => nomatch x) (f1.tr f4)
    rw [if_neg n4] at h
    exact g_cmp hg hk (fun m hm => IH m (by omega)) h hdd (by omega) hs (fun J b' hJ hb hf => ⟨fun eo => ⟨_, rfl, by have := hK J b' hJ hb hf; rw [eo] at this; exact this⟩, fun eo => ⟨_, rfl, by have := hK J b' hJ hb hf; rw [eo] at this; exact this⟩⟩)
theorem g_value {B : pM} {g qt qp qb : Nat} {t : tK} {tp : List Int32} (hg : gramE B g qt qp qb) (hk : kfE (kfT t)) {N : Nat} (IH : ∀ m, m < N → GS B g qt qp qb t tp m) {d dd a : Nat} {ok : Bool} {a' : Nat} {s : List (Int32 × Int32)} {I : pIm} {b : bB} {K : Int32 → pM → Prop} (h : gP (kfT t) (nmT tp t) N 6 dd a = some (ok, a', s)) (hdd : dd ≤ 8) (hd : 12 * (8 - dd) + (12 - 6) ≤ d) (hs : gS I g qt qp qb t tp a b) (hK : gOut B g qt qp qb t tp I b ok a' s K) : pCall_i d mX2_value (0, 0) [.ref g, .int (nI dd)] (pset B I) K := by
  match N, IH, h with
  | 0, _, h => exact nomatch h
  | N + 1, IH, h =>
    rw [gP] at h
    have h4 := hs.2.2.2.2.2
    refine CP_go (by omega) okX2_value (Nat.le_of_ble_eq_true rfl) ?_
    refine bX2_value_0 ⟨hg.1, _, hg.2.1.2.1, hg.1, hg.2.2.1.2.2.2.1.1, g_at (by omega) hg hs ?_⟩
    refine ⟨fun e => ?_, fun n1 => ?_⟩
    · rw [if_pos e] at h
      have hlt : a < 400 := hk.lt e (by decide) (by decide) (by decide)
      exact g_name (by omega) hg hk hs rfl hlt h (fun J b' hJ hb hf => ⟨fun eo => ⟨_, rfl, by have := hK J b' hJ hb hf; rw [eo] at this; exact this⟩, fun eo => ⟨_, rfl, by have := hK J b' hJ hb hf; rw [eo] at this; exact this⟩⟩)
    rw [if_neg n1] at h
    have own : (kfT t a = 8 ∨ kfT t a = 9 ∨ kfT t a = 10 ∨ kfT t a = 11) → Go (d - 1) mX2_value (fun r M1 => ∃ v, r = .inl (some (.int v)) ∧ K v M1) 133 ([some (.ref g), none, some (.int (kfT t a))], [], 0, 0) (pset B I) := by
      intro ek
      rw [if_pos ek] at h
      cases Option.some.inj h
      have hlt : a < 400 := ek.elim (fun e => hk.lt e (by decide) (by decide) (by decide)) (fun e2 => e2.elim (fun e => hk.lt e (by decide) (by decide) (by decide)) (fun e2 => e2.elim (fun e => hk.lt e (by decide) (by decide) (by decide)) (fun e => hk.lt e (by decide) (by decide) (by decide))))
      exact bX2_value_133 ⟨hg.1, qb, hg.2.1.2.2.2, hg.2.2.2.2.1.1, g_step (by omega) hg hs (fun J1 hJ1 f1 => ⟨hg.1, g_skip (by omega) hg hJ1 (fun _ => hlt) (fun _ J2 hJ2 f2 => ⟨Or.inr rfl, _, rfl, hK J2 _ hJ2 (fun _ => rfl) (f1.tr f2)⟩) (fun z => absurd rfl z)⟩)⟩
    refine ⟨fun e => own (Or.inl e), fun n2 => ⟨fun e => own (Or.inr (Or.inl e)), fun n3 => ⟨fun e => own (Or.inr (Or.inr (Or.inl e))), fun n4 => ⟨fun e => own (Or.inr (Or.inr (Or.inr e))), fun n5 => ?_⟩⟩⟩⟩
    rw [if_neg (fun z => z.elim n2 (fun z => z.elim n3 (fun z => z.elim n4 n5)))] at h
    have two : (kfT t a = 17 ∨ kfT t a = 18) → Go (d - 1) mX2_value (fun r M1 => ∃ v, r = .inl (some (.int v)) ∧ K v M1) 262 ([some (.ref g), some (.int (nI dd)), some (.int (kfT t a))], [], 0, 0) (pset B I) := by
      intro ek
      rw [if_pos ek] at h
      have hlt : a < 400 := ek.elim (fun e => hk.lt e (by decide) (by decide) (by decide)) (fun e => hk.lt e (by decide) (by decide) (by decide))
      refine bX2_value_262 ⟨hg.1, g_skip (by omega) hg hs (fun _ => hlt) (fun _ J1 hJ1 f1 => ⟨fun x => absurd x (by decide), fun _ => ⟨hg.1, ?_⟩⟩) (fun z => absurd rfl z)⟩
      refine CP_go (by omega) okX2_ofTwo (Nat.le_of_ble_eq_true rfl) ?_
      have bad : ∀ (J : pIm) (b' : bB) (x : Nat), (ok, a', s) = (false, x, []) → gS J g qt qp qb t tp x b' → Fr2 g qb I J → ∃ v, (Sum.inl (some (Value.int 0)) : pR) = .inl (some (.int v)) ∧ ((v = 0 → ∃ v_1, (Sum.inl (some (Value.int 0)) : pR) = Sum.inl (some (Value.int v_1)) ∧ K v_1 (pset B J)) ∧ (¬ v = 0 → ∃ v_1, (Sum.inl (some (Value.int 1)) : pR) = Sum.inl (some (Value.int v_1)) ∧ K v_1 (pset B J))) := by
        intro J b' x hx hJ hf
        cases hx
        exact ⟨_, rfl, fun _ => ⟨_, rfl, hK J b' hJ (fun x => nomatch x) hf⟩, fun z => absurd rfl z⟩
      refine bX2_ofTwo_0 (g_deep (by omega) hg hJ1 hdd (fun z => hk.lt z (by decide) (by decide) (by decide)) (fun e8 e40 J2 hJ2 f2 => ⟨hg.1, ?_⟩) (fun z => ?_) (fun z => ?_))
      · rw [if_pos ⟨e8, e40⟩] at h
        rw [nI_1]
        rcases gB_some h with ⟨a1, s1, e1, hx⟩ | ⟨a1, s1, e1, h⟩
        · exact IH N (by omega) 4 (by decide) (d - 1 - 1) (dd + 1) (a + 1 + 1) _ _ _ J2 _ _ e1 (by omega) (by omega) hJ2 (fun J4 b4 hJ4 _ f4 => ⟨fun _ => bad J4 b4 _ hx hJ4 ((f1.tr f2).tr f4), fun z => absurd rfl z⟩)
        · refine IH N (by omega) 4 (by decide) (d - 1 - 1) (dd + 1) (a + 1 + 1) _ _ _ J2 _ _ e1 (by omega) (by omega) hJ2 (fun J4 b4 hJ4 hb4 f4 => ⟨fun x => absurd x (by decide), fun _ => ⟨hg.1, g_skip (by omega) hg hJ4 (fun z => hk.lt z (by decide) (by decide) (by decide)) (fun e9 J5 hJ5 f5 => ⟨fun x => absurd x (by decide), fun _ => ⟨hg.1, ?_⟩⟩) (fun e9 => ⟨fun _ => ?_, fun z => absurd rfl z⟩)⟩⟩)
          · rw [if_pos e9] at h
            rcases gB_some h with ⟨a2, s2, e2, hx⟩ | ⟨a2, s2, e2, h⟩
            · exact IH N (by omega) 4 (by decide) (d - 1 - 1) (dd + 1) (a1 + 1) _ _ _ J5 _ _ e2 (by omega) (by omega) hJ5 (fun J6 b6 hJ6 _ f6 => ⟨fun _ => bad J6 b6 _ hx hJ6 ((((f1.tr f2).tr f4).tr f5).tr f6), fun z => absurd rfl z⟩)
            · refine IH N (by omega) 4 (by decide) (d - 1 - 1) (dd + 1) (a1 + 1) _ _ _ J5 _ _ e2 (by omega) (by omega) hJ5 (fun J6 b6 hJ6 hb6 f6 => ⟨fun x => absurd x (by decide), fun _ => ⟨hg.1, g_skip (by omega) hg hJ6 (fun z => hk.lt z (by decide) (by decide) (by decide)) (fun e10 J7 hJ7 f7 => ⟨fun x => absurd x (by decide), fun _ => ⟨hg.1, qb, hg.2.1.2.2.2, hg.2.2.2.2.1.1, g_step (by omega) hg hJ7 (fun J8 hJ8 f8 => ⟨_, rfl, fun x => absurd x (by decide), fun _ => ⟨_, rfl, ?_⟩⟩)⟩⟩) (fun e10 => ⟨fun _ => ?_, fun z => absurd rfl z⟩)⟩⟩)
              · rw [if_pos e10] at h
                cases Option.some.inj h
                refine hK J8 _ hJ8 (fun _ => ?_) ((((((f1.tr f2).tr f4).tr f5).tr f6).tr f7).tr f8)
                rw [hb6 rfl, hb4 rfl, stB_app, stB_app]
              · rw [if_neg e10] at h
                exact bad J6 b6 _ (Option.some.inj h).symm hJ6 ((((f1.tr f2).tr f4).tr f5).tr f6)
          · rw [if_neg e9] at h
            exact bad J4 b4 _ (Option.some.inj h).symm hJ4 ((f1.tr f2).tr f4)
      · rw [if_neg z] at h
        exact bad J1 _ _ (Option.some.inj h).symm hJ1 f1
      · rw [if_neg z] at h
        exact bad J1 _ _ (Option.some.inj h).symm hJ1 f1
    refine ⟨fun e => two (Or.inl e), fun n6 => ⟨fun e => two (Or.inr e), fun n7 => ?_⟩⟩
    rw [if_neg (fun z => z.elim n6 n7)] at h
    refine ⟨fun e => ⟨hg.1, qb, hg.2.1.2.2.2, hg.1, qt, hg.2.1.1, hg.1, qp, hg.2.1.2.2.1, hg.1, hg.2.2.1.1, ?_⟩, fun n8 => ?_⟩
    · rw [if_pos e] at h
      cases Option.some.inj h
      have e4 : pI (pset B I) g 4 = nI a := hs.1
      rw [e4]
      refine c_number (by omega) hg.2.2.1 hs.2.1 hg.2.2.2.1 hs.2.2.2.1 hs.2.2.1 ⟨hg.2.2.2.2.1.1, g_step (by omega) hg hs (fun J1 hJ1 f1 => ⟨hg.1, g_skip (by omega) hg hJ1 (fun _ => hk.lt e (by decide) (by decide) (by decide)) (fun _ J2 hJ2 f2 => ⟨Or.inr rfl, _, rfl, hK J2 _ hJ2 (fun _ => ?_) (f1.tr f2)⟩) (fun z => absurd rfl z)⟩)⟩
      rw [e]; rfl
    rw [if_neg n8] at h
    refine ⟨fun e => ?_, fun n9 => ?_⟩
    · have no : ¬ (dd < 8 ∧ kfT t a = kfT t a) → K 0 (pset B I) := by
        intro z
        rw [if_pos e, if_neg (fun y => z ⟨y, rfl⟩)] at h
        cases Option.some.inj h
        exact hK I b hs (fun x => nomatch x) Fr2.rf
      refine g_deep (by omega) hg hs hdd (fun _ => hk.lt e (by decide) (by decide) (by decide)) (fun e8 _ J1 hJ1 f1 => ⟨hg.1, ?_⟩) (fun z => ⟨_, rfl, no z⟩) (fun z => ⟨_, rfl, no z⟩)
      rw [if_pos e, if_pos e8] at h
      rw [nI_1]
      rcases gB_some h with ⟨a1, s1, e1, hx⟩ | ⟨a1, s1, e1, h⟩
      · cases hx
        exact IH N (by omega) 4 (by decide) (d - 1) (dd + 1) (a + 1) _ _ _ J1 _ _ e1 (by omega) (by omega) hJ1 (fun J4 b4 hJ4 _ f4 => ⟨fun _ => ⟨_, rfl, hK J4 _ hJ4 (fun x => nomatch x) (f1.tr f4)⟩, fun z => absurd rfl z⟩)
      · refine IH N (by omega) 4 (by decide) (d - 1) (dd + 1) (a + 1) _ _ _ J1 _ _ e1 (by omega) (by omega) hJ1 (fun J4 b4 hJ4 hb4 f4 => ⟨fun x => absurd x (by decide), fun _ => ⟨hg.1, g_skip (by omega) hg hJ4 (fun z => hk.lt z (by decide) (by decide) (by decide)) (fun e9 J5 hJ5 f5 => ⟨fun x => absurd x (by decide), fun _ => ⟨_, rfl, ?_⟩⟩) (fun e9 => ⟨fun _ => ⟨_, rfl, ?_⟩, fun z => absurd rfl z⟩)⟩⟩)
        · rw [if_pos e9] at h
          cases Option.some.inj h
          exact hK J5 _ hJ5 (fun _ => hb4 rfl) ((f1.tr f4).tr f5)
        · rw [if_neg e9] at h
          cases Option.some.inj h
          exact hK J4 _ hJ4 (fun x => nomatch x) (f1.tr f4)
    rw [if_neg n9] at h
    refine ⟨fun e => ?_, fun n10 => ⟨_, rfl, ?_⟩⟩
    · have no : ¬ (dd < 8 ∧ kfT t a = kfT t a) → K 0 (pset B I) := by
        intro z
        rw [if_pos e, if_neg (fun y => z ⟨y, rfl⟩)] at h
        cases Option.some.inj h
        exact hK I b hs (fun x => nomatch x) Fr2.rf
      refine g_deep (by omega) hg hs hdd (fun _ => hk.lt e (by decide) (by decide) (by decide)) (fun e8 _ J1 hJ1 f1 => ⟨hg.1, ?_⟩) (fun z => ⟨_, rfl, no z⟩) (fun z => ⟨_, rfl, no z⟩)
      rw [if_pos e, if_pos e8] at h
      rw [nI_1]
      rcases gB_some h with ⟨a1, s1, e1, hx⟩ | ⟨a1, s1, e1, h⟩
      · cases hx
        exact IH N (by omega) 6 (by decide) (d - 1) (dd + 1) (a + 1) _ _ _ J1 _ _ e1 (by omega) (by omega) hJ1 (fun J4 b4 hJ4 _ f4 => ⟨fun _ => ⟨_, rfl, hK J4 _ hJ4 (fun x => nomatch x) (f1.tr f4)⟩, fun z => absurd rfl z⟩)
      · cases Option.some.inj h
        refine IH N (by omega) 6 (by decide) (d - 1) (dd + 1) (a + 1) _ _ _ J1 _ _ e1 (by omega) (by omega) hJ1 (fun J4 b4 hJ4 hb4 f4 => ⟨fun x => absurd x (by decide), fun _ => ⟨hg.1, qb, hg.2.1.2.2.2, hg.2.2.2.2.1.1, g_step (by omega) hg hJ4 (fun J5 hJ5 f5 => ⟨_, rfl, hK J5 _ hJ5 (fun _ => ?_) ((f1.tr f4).tr f5)⟩)⟩⟩)
        rw [hb4 rfl, stB_app]
    · rw [if_neg n10] at h
      cases Option.some.inj h
      exact hK I b hs (fun x => nomatch x) Fr2.rf
theorem g_all {B : pM} {g qt qp qb : Nat} {t : tK} {tp : List Int32} (hg : gramE B g qt qp qb) (hk : kfE (kfT t)) : ∀ N, GS B g qt qp qb t tp N := by
  intro N
  induction N using Nat.strongRecOn with
  | _ N IH =>
    intro c hc d dd a ok a' s I b K h hdd hd hs hK
    match c, hc, h, hd with
    | 0, _, h, hd => exact g_test hg hk IH h hdd hd hs hK
    | 1, _, h, hd => exact g_both hg hk IH h hdd hd hs hK
    | 2, _, h, hd => exact g_single hg hk IH h hdd hd hs hK
    | 3, hc, _, _ => exact absurd rfl hc.2
    | 4, _, h, hd => exact g_sum hg hk IH h hdd hd hs hK
    | 5, _, h, hd => exact g_product hg hk IH h hdd hd hs hK
    | 6, _, h, hd => exact g_value hg hk IH h hdd hd hs hK
    | (c + 7), hc, _, _ => omega
