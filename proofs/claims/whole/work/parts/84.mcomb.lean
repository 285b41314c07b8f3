/-! THE REFERENCE'S PARSER: heads and tails -/
def vM (B : pM) (r td dr : Nat) (tp : List Int32) (t : tK) (n0 : Nat) (b0 : bK) (N : List Nat) (m : pMI) (off c : Nat) (T : Bool) (n : Nat) : Prop := ∀ (a dd : Nat) (ok : Bool) (a' : Nat) (s : List (Int32 × Int32)) (I : pIm) (er et : Int32) (nn tx d : Nat) (K : Int32 → pM → Prop), gP (kfT t) (nmT tp t) n c dd a = some (ok, a', s) → vIn B I r td dr tp t n0 b0 N a dd er et nn tx → (1 ≤ a ∧ kfT t (a - 1) ≠ 2) → 10 * (9 - dd) + off ≤ d → vOut B r dr tp t n0 b0 T I a dd nn tx [] ok a' s K → pCall_i d m (0, 0) [.ref r] (pset B I) K
def vG (B : pM) (r td dr : Nat) (tp : List Int32) (t : tK) (n0 : Nat) (b0 : bK) (N : List Nat) (m : pMI) (ex : List (Option Value)) (off c : Nat) (T : Bool) (n : Nat) : Prop := ∀ (a dd : Nat) (ok : Bool) (a' : Nat) (s : List (Int32 × Int32)) (I : pIm) (er et : Int32) (nn tx d m0 : Nat) (s0 : List (Int32 × Int32)) (K : Int32 → pM → Prop), gP (kfT t) (nmT tp t) n c dd a = some (ok, a', s) → vIn B I r td dr tp t n0 b0 N a dd er et nn tx → m0 < nn → ((sF t tp b0 a).1 = 0 → nvX T I dr (sF t tp b0 a).2.2.1.2.1.length nn tx s0.length m0 (s0.map (payG t tp b0))) → 10 * (9 - dd) + off ≤ d → vOut B r dr tp t n0 b0 T I a dd nn tx s0 ok a' s K → Go d m (fun r M1 => ∃ v, r = .inl (some (.int v)) ∧ K v M1) 5 (some (.ref r) :: some (.int (nI m0)) :: ex, [], 0, 0) (pset B I)
theorem v_comb {B : pM} {r td dr n0 n c1 c2 offh offt : Nat} {tp : List Int32} {t : tK} {b0 : bK} {N : List Nat} {mh mt : pMI} {ex : List (Option Value)} {T : Bool} (hh : vM B r td dr tp t n0 b0 N mh offh c1 T n) (ht : vG B r td dr tp t n0 b0 N mt ex offt c2 T n)
    (skip : ∀ (d : Nat) (J : pIm) (v : Int32) (Q : pR → pM → Prop), 2 ≤ d → ¬ J r 14 = -1 → Q (.inl (some (.int v))) (pset B J) → Go d mt Q 5 (some (.ref r) :: some (.int v) :: ex, [], 0, 0) (pset B J))
    {a dd : Nat} {ok : Bool} {a' : Nat} {s : List (Int32 × Int32)} {I : pIm} {er et : Int32} {nn tx d : Nat} {K : Int32 → pM → Prop} (h : (gB (gP (kfT t) (nmT tp t) n c1 dd a) fun a1 s1 => gB (gP (kfT t) (nmT tp t) n c2 dd a1) fun a2 s2 => some (true, a2, s1 ++ s2)) = some (ok, a', s)) (hv : vIn B I r td dr tp t n0 b0 N a dd er et nn tx) (hp : 1 ≤ a ∧ kfT t (a - 1) ≠ 2) (hd : 10 * (9 - dd) + offh ≤ d) (hd2 : 10 * (9 - dd) + offt ≤ d) (hd3 : 2 ≤ d) (ho : vOut B r dr tp t n0 b0 T I a dd nn tx [] ok a' s K) : pCall_i d mh (0, 0) [.ref r] (pset B I) (fun v M1 => Go d mt (fun r M1 => ∃ v, r = .inl (some (.int v)) ∧ K v M1) 5 (some (.ref r) :: some (.int v) :: ex, [], 0, 0) M1) := by
  have hkm := hv.1.2.2.2.2.2.2.1
  rcases gB_some h with ⟨a1, s1, e, hx⟩ | ⟨a1, s1, e, h2⟩
  · cases hx
    refine hh a dd false a' s1 I er et nn tx d _ e hv hp hd ?_
    intro J v nn' q1 q2 q3
    exact skip d J v _ hd3 q2.no ⟨_, rfl, ho J v nn' q1 q2 q3⟩
  · have m1 := (gP_m hkm _ _ _ _ _ e).1
    refine hh a dd true a1 s1 I er et nn tx d _ e hv hp hd ?_
    intro J m nn' tx' er' et' q1 q2 q3 q4 q5 q6 q7 q8 q9 q10
    have hv2 := hv.next q1 q3 q7 q8
    rcases gB_some h2 with ⟨a2, s2, e2, hx⟩ | ⟨a2, s2, e2, hx⟩
    · cases hx
      have m2 := (gP_m hkm _ _ _ _ _ e2).1
      exact ht a1 dd false a' s2 J er' et' nn' tx' d m s1 K e2 hv2 q9 q10 hd2 (vOut.comp (s' := s2) (sQ := s1) ho q1 q2 q4 q5 q6 m1 m2 q8 (fun z => nomatch z))
    · cases Option.some.inj hx
      have m2 := (gP_m hkm _ _ _ _ _ e2).1
      exact ht a1 dd true a' s2 J er' et' nn' tx' d m s1 K e2 hv2 q9 q10 hd2 (vOut.comp (s' := s2) (sQ := s1) ho q1 q2 q4 q5 q6 m1 m2 q8 (fun _ => rfl))
/-- what a node of two pieces is -/
def nvTwo (T T2 : Bool) (x k : Int32) : Prop := ∀ (J : pIm) (dr nw mx tm f m1 m2 n' : Nat) (s1 s2 : List pS), J (dr + 7) n' = x → J (dr + 8) n' = nI m1 → J (dr + 9) n' = nI m2 → n' < mx → nvX T J dr nw mx tm f m1 s1 → nvX T J dr nw mx tm f m2 s2 → nvX T2 J dr nw mx tm (f + 1) n' (s1 ++ s2 ++ [(k, [0])])
theorem payG_op {t : tK} {tp : List Int32} {b0 : bK} {k : Int32} (h : k ≠ 13 ∧ k ≠ 2 ∧ k ≠ 12) : payG t tp b0 (k, 0) = (k, [0]) := by
  unfold payG
  show (k, if k = 13 then _ else if k = 2 ∨ k = 12 then _ else [0]) = _
  rw [if_neg h.1, if_neg (fun z => z.elim h.2.1 h.2.2)]
theorem v_step {B : pM} {r td dr n0 n c1 c2 offh offt : Nat} {tp : List Int32} {t : tK} {b0 : bK} {N : List Nat} {mh mt : pMI} {ex : List (Option Value)} {T : Bool} (hh : vM B r td dr tp t n0 b0 N mh offh c1 T n) (ht : vG B r td dr tp t n0 b0 N mt ex offt c2 T n)
    (skip : ∀ (d : Nat) (J : pIm) (v : Int32) (Q : pR → pM → Prop), 2 ≤ d → ¬ J r 14 = -1 → Q (.inl (some (.int v))) (pset B J) → Go d mt Q 5 (some (.ref r) :: some (.int v) :: ex, [], 0, 0) (pset B J))
    {a dd : Nat} {ok : Bool} {a' : Nat} {s : List (Int32 × Int32)} {I : pIm} {er et x k : Int32} {nn tx d m0 : Nat} {s0 : List (Int32 × Int32)} {K : Int32 → pM → Prop} (h : (gB (gP (kfT t) (nmT tp t) n c1 dd (a + 1)) fun a1 s1 => gB (gP (kfT t) (nmT tp t) n c2 dd a1) fun a2 s2 => some (true, a2, s1 ++ (k, 0) :: s2)) = some (ok, a', s)) (hk : kfT t a = k) (hk2 : k ≠ 24 ∧ k ≠ 25 ∧ k ≠ -1 ∧ k ≠ 5 ∧ k ≠ 20 ∧ k ≠ 21 ∧ k ≠ 13 ∧ k ≠ 2 ∧ k ≠ 12) (hn : nvTwo T T x k) (hv : vIn B I r td dr tp t n0 b0 N a dd er et nn tx) (hm0 : m0 < nn) (hs0 : (sF t tp b0 a).1 = 0 → nvX T I dr (sF t tp b0 a).2.2.1.2.1.length nn tx s0.length m0 (s0.map (payG t tp b0))) (hd : 10 * (9 - dd) + offh ≤ d) (hd2 : 10 * (9 - dd) + offt ≤ d) (hd3 : 2 ≤ d) (ho : vOut B r dr tp t n0 b0 T I a dd nn tx s0 ok a' s K) : pCall_i d mh (0, 0) [.ref r] (pset B (u2 I r 12 (nI (a + 1)))) (fun v1 M1 => pK M1 dr = (1, 12) ∧ pCall_i d mX12_node (0, 0) [.ref dr, .int x, .int (nI m0), .int v1] M1 (fun v2 M2 => Go d mt (fun r M1 => ∃ v, r = .inl (some (.int v)) ∧ K v M1) 5 (some (.ref r) :: some (.int v2) :: ex, [], 0, 0) M2)) := by
  have hkm := hv.1.2.2.2.2.2.2.1
  have hy := hv.1.1.lay
  have hyd : dr = r + 6 ∨ dr = r + 17 := by omega
  have sb := hv.1.1.2.2.2.2.2.1
  obtain ⟨k1, k2, k3, k4, k5, k6, k7, k8, k9⟩ := hk2
  obtain ⟨hv1, f1, p1, sm1, hlt⟩ := hv.skip (by rw [hk]; exact ⟨k1, k2, k3⟩) (by rw [hk]; exact k4) (by rw [hk]; exact k5) (Or.inl (by rw [hk]; exact k6))
  have hprev : 1 ≤ a + 1 ∧ kfT t (a + 1 - 1) ≠ 2 := ⟨by omega, by rw [Nat.add_sub_cancel, hk]; exact k8⟩
  have hna := hv.2.1.2.2.2.2.2.2.2.2.1
  have h400 := hv.1.2.2.2.2.2.1
  rcases gB_some h with ⟨a1, s1, e, hx⟩ | ⟨a1, s1, e, h2⟩
  · cases hx
    have m1 := (gP_m hkm _ _ _ _ _ e).1
    refine hh (a + 1) dd false a' s1 _ er et nn tx d _ e hv1 hprev hd ?_
    intro J v nn' q1 q2 q3
    have q2' := q2.2.1
    have m1' : a + 1 ≤ a' := m1
    refine ⟨sb.1, c_mnode (by omega) sb q2.2.2 (by omega) ?_⟩
    have F2 := (nodeJ_fr (J := J) (r := r) (nn := nn') (tx := 0) (x := x) (y := nI m0) (z := v) hyd).1
    have q5 : fT (nodeJ J dr nn' x (nI m0) v) r dr a' (nn' + 1) := q2.node hyd
    refine skip d _ (nI nn') _ hd3 q5.no ⟨_, rfl, ho _ _ (nn' + 1) ((f1.tr q1).tr F2) q5 (by omega)⟩
  · have m1 : a + 1 ≤ a1 := (gP_m hkm _ _ _ _ _ e).1
    refine hh (a + 1) dd true a1 s1 _ er et nn tx d _ e hv1 hprev hd ?_
    intro J m nn' tx' er' et' q1 q2 q3 q4 q5 q6 q7 q8 q9 q10
    have ha1 := q3.2.2.2.2.2.2.2.1
    refine ⟨sb.1, c_mnode (by omega) sb q3.2.2.2.2.2.1 (by omega) ?_⟩
    obtain ⟨F2, P2, g1, g2, g3, -⟩ := nodeJ_fr (J := J) (r := r) (nn := nn') (tx := tx') (x := x) (y := nI m0) (z := nI m) hyd
    have q3' : pT (nodeJ J dr nn' x (nI m0) (nI m)) r dr tp t n0 a1 dd er' et' (nn' + 1) tx' := q3.node hyd (by omega)
    have hv2 := (hv1.next q1 q3 q7 q8).next F2 q3' q7 smT.rf
    have FI : FrV r dr I (nodeJ J dr nn' x (nI m0) (nI m)) := (f1.tr q1).tr F2
    have PI : kpV dr I (nodeJ J dr nn' x (nI m0) (nI m)) nn tx := (p1.tr q2 (Nat.le_refl _) (Nat.le_refl _)).tr P2 q4 q5
    have SM := sm1.tr q8
    have node : (sF t tp b0 a1).1 = 0 → nvX T (nodeJ J dr nn' x (nI m0) (nI m)) dr (sF t tp b0 a1).2.2.1.2.1.length (nn' + 1) tx' (s0 ++ s1 ++ [(k, (0 : Int32))]).length nn' ((s0 ++ s1 ++ [(k, (0 : Int32))]).map (payG t tp b0)) := by
      intro z
      have w1 : (sF t tp b0 a1).2.2.1.2.1 = (sF t tp b0 a).2.2.1.2.1 := (SM z).2.2.1
      have L0 := (hs0 (SM z).1).up PI (show nn ≤ nn' + 1 by omega) (show _ ≤ (sF t tp b0 a1).2.2.1.2.1.length by rw [w1]; exact Nat.le_refl _) q5 (show s0.length ≤ s0.length + s1.length by omega)
      have L1 := (q10 z).up P2 (show nn' ≤ nn' + 1 by omega) (Nat.le_refl _) (Nat.le_refl _) (show ([] ++ s1 : List (Int32 × Int32)).length ≤ s0.length + s1.length by simp)
      have := hn (nodeJ J dr nn' x (nI m0) (nI m)) dr (sF t tp b0 a1).2.2.1.2.1.length (nn' + 1) tx' (s0.length + s1.length) m0 m nn' _ _ g1 g2 g3 (by omega) L0 L1
      rw [List.map_append, List.map_append, List.length_append, List.length_append]
      show nvX T _ dr _ _ _ (s0.length + s1.length + 1) nn' (s0.map _ ++ s1.map _ ++ [payG t tp b0 (k, 0)])
      rw [payG_op ⟨k7, k8, k9⟩]
      exact this
    rcases gB_some h2 with ⟨a2, s2, e2, hx⟩ | ⟨a2, s2, e2, hx⟩
    · cases hx
      have m2 := (gP_m hkm _ _ _ _ _ e2).1
      exact ht a1 dd false a' s2 _ er' et' (nn' + 1) tx' d nn' _ K e2 hv2 (by omega) node hd2 (vOut.comp (s' := s2) (sQ := s0 ++ s1 ++ [(k, (0 : Int32))]) ho FI PI (by omega) q5 (by omega) (by omega) m2 SM (fun z => nomatch z))
    · cases Option.some.inj hx
      have m2 := (gP_m hkm _ _ _ _ _ e2).1
      exact ht a1 dd true a' s2 _ er' et' (nn' + 1) tx' d nn' _ K e2 hv2 (by omega) node hd2 (vOut.comp (s' := s2) (sQ := s0 ++ s1 ++ [(k, (0 : Int32))]) ho FI PI (by omega) q5 (by omega) (by omega) m2 SM (fun _ => by simp))
/-- no more of a tail -/
theorem v_end {B : pM} {r td dr n0 a dd nn tx m0 : Nat} {tp : List Int32} {t : tK} {b0 : bK} {N : List Nat} {T : Bool} {ok : Bool} {a' : Nat} {s s0 : List (Int32 × Int32)} {I : pIm} {er et : Int32} {K : Int32 → pM → Prop} (h : some (true, a, []) = some (ok, a', s)) (hv : vIn B I r td dr tp t n0 b0 N a dd er et nn tx) (hm0 : m0 < nn) (hs0 : (sF t tp b0 a).1 = 0 → nvX T I dr (sF t tp b0 a).2.2.1.2.1.length nn tx s0.length m0 (s0.map (payG t tp b0))) (ho : vOut B r dr tp t n0 b0 T I a dd nn tx s0 ok a' s K) : K (nI m0) (pset B I) := by
  cases Option.some.inj h
  exact ho I m0 nn tx er et FrV.rf kpV.rf hv.2.1 (Nat.le_refl _) (Nat.le_refl _) (by omega) hv.2.2.1 smT.rf hm0 (fun z => by rw [List.append_nil]; exact hs0 z)
theorem nvTwoS {x : Int32} (hx : x = 17 ∨ x = 18 ∨ x = 42 ∨ x = 47 ∨ x = 45 ∨ x = 43) : nvTwo false false x x := fun J dr nw mx tm f m1 m2 n' s1 s2 e1 e2 e3 hn h1 h2 => ⟨hn, Or.inr (Or.inr (Or.inr (Or.inr ⟨by rw [e1]; exact hx, m1, m2, s1, s2, e2, e3, h1, h2, by rw [e1]⟩)))⟩
theorem nvTwoT {x : Int32} (hx : x = 15 ∨ x = 16) : nvTwo true true x x := fun J dr nw mx tm f m1 m2 n' s1 s2 e1 e2 e3 hn h1 h2 => ⟨hn, Or.inr (Or.inr (Or.inr (Or.inl ⟨by rw [e1]; exact hx, m1, m2, s1, s2, e2, e3, h1, h2, by rw [e1]⟩)))⟩
theorem nvTwoC {x : Int32} (hx : x = 60 ∨ x = 62 ∨ x = 61 ∨ x = 108 ∨ x = 103) : nvTwo false true x (cmpK x) := fun J dr nw mx tm f m1 m2 n' s1 s2 e1 e2 e3 hn h1 h2 => ⟨hn, Or.inr (Or.inr (Or.inr (Or.inr ⟨by rw [e1]; exact hx, m1, m2, s1, s2, e2, e3, h1, h2, by rw [e1]⟩)))⟩
