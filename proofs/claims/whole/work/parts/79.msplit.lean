/-! THE REFERENCE: split -/
/-- the reference's arrays hold the first tokens of t -/
def tkD (J : pIm) (r : Nat) (tp : List Int32) (t : tK) : Prop := t.2.1.length = t.1.length ∧ t.2.2.length = t.1.length ∧ Ar (J (r + 4)) t.2.1 ∧ Ar (J (r + 5)) t.2.2 ∧ ∀ j kd, t.1[j]? = some kd → kdR kd (J (r + 2) j) (J (r + 3) j) (numO tp t (nI j))
theorem numO_app {tp : List Int32} {t : tK} {a b c : List Int32} {j : Nat} (h1 : j < t.2.1.length) (h2 : j < t.2.2.length) (h3 : t.2.1.length < 1000) (h4 : t.2.2.length < 1000) : numO tp (t.1 ++ a, t.2.1 ++ b, t.2.2 ++ c) (nI j) = numO tp t (nI j) := by
  unfold numO
  have e1 : rat (t.2.1 ++ b) (nI j) = rat t.2.1 (nI j) := by
    rw [rat_nI (by omega), rat_nI (by omega), List.getD_eq_getElem?_getD, List.getD_eq_getElem?_getD, List.getElem?_append_left h1]
  have e2 : rat (t.2.2 ++ c) (nI j) = rat t.2.2 (nI j) := by
    rw [rat_nI (by omega), rat_nI (by omega), List.getD_eq_getElem?_getD, List.getD_eq_getElem?_getD, List.getElem?_append_left h2]
  show numL tp (rat (t.2.1 ++ b) (nI j)) (min (rat (t.2.2 ++ c) (nI j)).toNatClampNeg 6) = _
  rw [e1, e2]
/-- only the tokens' arrays have changed -/
def FrS (r : Nat) (I J : pIm) : Prop := Fr (r + 2) (r + 6) I J
theorem skb_step {tp : List Int32} {p : Nat} (h2 : tp.length ≤ 2000) : skb (tp.drop p) = if mby tp p = 32 ∨ mby tp p = 10 then skb (tp.drop (p + 1)) + 1 else 0 := by
  by_cases c : p < tp.length
  · rw [mby_at c h2, rat_in (List.getElem?_eq_getElem c) (by omega), List.drop_eq_getElem_cons c, skb]
  · rw [mby_out (by omega), List.drop_of_length_le (by omega), if_neg (by decide)]
    rfl
theorem kdR_end {kd so va nu : Int32} (h : kdR kd so va nu) : (so = 0 ↔ kd = 24) ∧ (so = 5 ↔ kd = 25) := by
  rcases h with ⟨e, e'⟩ | ⟨e, e'⟩ | ⟨e, e'⟩ | ⟨e, e', -⟩ | ⟨e, e', -⟩ | ⟨e, e', -⟩ | ⟨k, hk, e, e', -⟩ | ⟨e, e', -⟩
  · subst e e'; decide
  · subst e e'; decide
  · subst e e'; decide
  · subst e e'; decide
  · subst e e'; decide
  · subst e e'; decide
  · subst e'
    have n1 : kd ≠ 24 := fun z => by rw [e] at z; have := (nI_eq (b := 24) (by omega) (by omega)).mp z; omega
    have n2 : kd ≠ 25 := fun z => by rw [e] at z; have := (nI_eq (b := 25) (by omega) (by omega)).mp z; omega
    exact ⟨⟨fun z => absurd z (by decide), fun z => absurd z n1⟩, ⟨fun z => absurd z (by decide), fun z => absurd z n2⟩⟩
  · subst e'
    have n1 : kd ≠ 24 := fun z => by rw [z] at e; exact absurd e (by unfold sgn; decide)
    have n2 : kd ≠ 25 := fun z => by rw [z] at e; exact absurd e (by unfold sgn; decide)
    exact ⟨⟨fun z => absurd z (by decide), fun z => absurd z n1⟩, ⟨fun z => absurd z (by decide), fun z => absurd z n2⟩⟩
theorem c_msplit {d : Nat} (hd : 9 ≤ d) {B : pM} {I : pIm} {r td dr : Nat} {tp : List Int32} {K : pM → Prop} (hq : mdS B r td dr) (hl : Tp I r tp) (htb : byteL tp) (h : ∀ J, FrS r I J → tkD J r tp (tkR tp 401 0 0 ([], [], [])) → K (pset B J)) : pCall_v d mX13_split (0, 0) [.ref r] (pset B I) K := by
  refine CP_go (by omega) okX13_split (Nat.le_of_ble_eq_true rfl) ?_
  have h2000 := hl.2.1
  have K2 := hq.2.2.2.1.2.1
  have K4 := hq.2.2.2.1.2.2.2.1
  have K5 := hq.2.2.2.1.2.2.2.2.1
  have p4 := hq.2.1.2.1
  have p6 := hq.2.1.2.2.2.1
  have p7 := hq.2.1.2.2.2.2.1
  have d1 : 1 ≤ d - 1 := by omega
  have d8 : 8 ≤ d - 1 := by omega
  clear hd
  generalize hT0 : tkR tp 401 0 0 ([], [], []) = T0 at h
  have key : ∀ (m i p : Nat) (t : tK) (J : pIm), i + m = 401 → 0 < m → p ≤ tp.length → (t.1.length = i ∧ t.2.1.length = i ∧ t.2.2.length = i) → FrS r I J → tkD J r tp t → T0 = tkR tp m i p t → Go (d - 1) mX13_split (fun r M1 => r = .inl none ∧ K M1) 10 ([some (.ref r), some (.int (nI p)), some (.int (nI i)), none], [], 0, 0) (pset B J) := by
    intro m
    induction m with
    | zero => intro i p t J _ z; exact absurd z (by omega)
    | succ m ih =>
      intro i p t J hm _ hp hlen hf hT he
      have hl2 : Tp J r tp := hl.cg (by rw [hf r (by omega)]) (hf _ (by omega))
      have vi : vp_in (nI i) 402 := vp_inN (by omega) (by omega)
      have ci : (nI i).toNatClampNeg = i := nI_clamp (by omega)
      have ha := tkA_le hp
      have hln := lenI_2000 h2000 ha
      -- the token at its place
      have tok : Go (d - 1) mX13_split (fun r M1 => r = .inl none ∧ K M1) 10 ([some (.ref r), some (.int (nI (tkA tp p))), some (.int (nI i)), none], [], 0, 0) (pset B J) := by
        have hs0 : ¬ (mby tp (tkA tp p) = 32 ∨ mby tp (tkA tp p) = 10) := by
          intro z
          have q : ∀ (n k : Nat), skb (tp.drop k) = n → skb (tp.drop (k + n)) = 0 := by
            intro n
            induction n with
            | zero => intro k e; exact e
            | succ n ihn =>
              intro k e
              rw [skb_step h2000] at e
              split at e
              · have := ihn (k + 1) (by omega)
                rw [show k + (n + 1) = k + 1 + n by omega]
                exact this
              · omega
          have q2 := q _ p rfl
          have q3 : skb (tp.drop (tkA tp p)) = 0 := q2
          rw [skb_step h2000, if_pos z] at q3
          omega
        refine bX13_split_10 ⟨hq.1, c_mbyteAt d1 hq hl2 (by omega) ⟨fun z => absurd (Or.inl z) hs0, fun _ => ⟨hq.1, c_mbyteAt d1 hq hl2 (by omega) ⟨fun z => absurd (Or.inr z) hs0, fun _ => ⟨hq.1, r + 4, p6, 402, K4, vi, hq.1, ?_⟩⟩⟩⟩⟩
        rw [ci, psI_set]
        have hl3 : Tp (u2 J (r + 4) i (nI (tkA tp p))) r tp := hl2.cg (by rw [u2_a (by omega)]) (u2_a (by omega))
        refine c_mread d8 hq hl3 htb (by omega) ha (fun J3 f3 s5 kd3 => ?_)
        have F3 : FrS r I J3 := fun y hy => by
          rw [f3.1 y (by omega) (by omega) (by omega), u2_a (by omega)]
          exact hf y hy
        have s4 : J3 (r + 4) i = nI (tkA tp p) := by rw [f3.1 (r + 4) (by omega) (by omega) (by omega)]; exact u2_same
        have old : ∀ y j, j ≠ i → J3 y j = J y j := fun y j hj => by
          rw [f3.2 y j hj]
          by_cases e : y = r + 4
          · subst e; exact u2_j hj
          · rw [u2_a e]
        -- the token counts so
        have ext : ∀ (J4 : pIm), (∀ y j, j ≠ i → J4 y j = J y j) → J4 (r + 4) i = nI (tkA tp p) → J4 (r + 5) i = nI (lenI tp (tkA tp p)) → kdR (tkK tp i (tkA tp p)) (J4 (r + 2) i) (J4 (r + 3) i) (numL tp (nI (tkA tp p)) (min (lenI tp (tkA tp p)) 6)) → tkD J4 r tp (t.1 ++ [tkK tp i (tkA tp p)], t.2.1 ++ [nI (tkA tp p)], t.2.2 ++ [nI (lenI tp (tkA tp p))]) := by
          intro J4 o4 q4 q5 qk
          obtain ⟨t1, t2, t3, t4, t5⟩ := hT
          refine ⟨by rw [List.length_append, List.length_append, t1]; rfl, by rw [List.length_append, List.length_append, t2]; rfl, t3.push _ (fun j hj => o4 _ j (by omega)) (by rw [hlen.2.1]; exact q4), t4.push _ (fun j hj => o4 _ j (by omega)) (by rw [hlen.2.2]; exact q5), fun j kd hj => ?_⟩
          have hj' : (t.1 ++ [tkK tp i (tkA tp p)])[j]? = some kd := hj
          by_cases c : j < i
          · rw [List.getElem?_append_left (by omega)] at hj'
            rw [numO_app (by omega) (by omega) (by omega) (by omega), o4 _ j (by omega), o4 _ j (by omega)]
            exact t5 j kd hj'
          · have ej : j = i := by
              have := (List.getElem?_eq_some_iff.mp hj').1
              rw [List.length_append] at this
              have e : [tkK tp i (tkA tp p)].length = 1 := rfl
              omega
            subst ej
            rw [List.getElem?_append_right (by omega), hlen.1, Nat.sub_self] at hj'
            rw [← Option.some.inj hj']
            have e1 : rat (t.2.1 ++ [nI (tkA tp p)]) (nI j) = nI (tkA tp p) := rat_in (by rw [List.getElem?_append_right (by omega), hlen.2.1, Nat.sub_self]; rfl) (by rw [List.length_append]; simp; omega)
            have e2 : rat (t.2.2 ++ [nI (lenI tp (tkA tp p))]) (nI j) = nI (lenI tp (tkA tp p)) := rat_in (by rw [List.getElem?_append_right (by omega), hlen.2.2, Nat.sub_self]; rfl) (by rw [List.length_append]; simp; omega)
            have e3 : numO tp (t.1 ++ [tkK tp j (tkA tp p)], t.2.1 ++ [nI (tkA tp p)], t.2.2 ++ [nI (lenI tp (tkA tp p))]) (nI j) = numL tp (nI (tkA tp p)) (min (lenI tp (tkA tp p)) 6) := by
              show numL tp (rat (t.2.1 ++ [nI (tkA tp p)]) (nI j)) (min (rat (t.2.2 ++ [nI (lenI tp (tkA tp p))]) (nI j)).toNatClampNeg 6) = _
              rw [e1, e2, nI_clamp (by omega)]
            rw [e3]
            exact qk
        -- and then on
        have on : ∀ (J4 : pIm), FrS r I J4 → tkD J4 r tp (t.1 ++ [tkK tp i (tkA tp p)], t.2.1 ++ [nI (tkA tp p)], t.2.2 ++ [nI (lenI tp (tkA tp p))]) → J4 (r + 5) i = nI (lenI tp (tkA tp p)) → (J4 (r + 2) i = 0 ↔ tkK tp i (tkA tp p) = 24) ∧ (J4 (r + 2) i = 5 ↔ tkK tp i (tkA tp p) = 25) → Go (d - 1) mX13_split (fun r M1 => r = .inl none ∧ K M1) 72 ([some (.ref r), some (.int (nI (tkA tp p))), some (.int (nI i)), none], [], 0, 0) (pset B J4) := by
          intro J4 f4 T4 q5 qe
          have stop : tkK tp i (tkA tp p) = 24 ∨ tkK tp i (tkA tp p) = 25 → Go (d - 1) mX13_split (fun r M1 => r = .inl none ∧ K M1) 95 ([some (.ref r), some (.int (nI (tkA tp p))), some (.int (nI i)), none], [], 0, 0) (pset B J4) := by
            intro hk
            refine bX13_split_95 ⟨hq.1, r + 5, p7, 402, K5, vi, bX13_split_6 ⟨fun _ => ⟨rfl, h J4 f4 ?_⟩, fun z => absurd rfl z⟩⟩
            rw [tkR, if_pos hk] at he
            rw [he]
            exact T4
          have r2 : pI (pset B J4) (r + 2) (Int32.toNatClampNeg (nI i)) = J4 (r + 2) i := by rw [ci]; rfl
          refine bX13_split_72 ⟨hq.1, r + 2, p4, 402, K2, vi, ?_⟩
          rw [r2]
          refine ⟨fun g => stop (Or.inl (qe.1.mp g)), fun g => ⟨hq.1, r + 2, p4, 402, K2, vi, ?_⟩⟩
          rw [r2]
          refine ⟨fun g2 => stop (Or.inr (qe.2.mp g2)), fun g2 => ⟨hq.1, r + 5, p7, 402, K5, vi, ?_⟩⟩
          have n24 : tkK tp i (tkA tp p) ≠ 24 := fun z => g (qe.1.mpr z)
          have n25 : tkK tp i (tkA tp p) ≠ 25 := fun z => g2 (qe.2.mpr z)
          have er5 : pI (pset B J4) (r + 5) (Int32.toNatClampNeg (nI i)) = nI (lenI tp (tkA tp p)) := by rw [ci]; exact q5
          rw [er5, nI_add, nI_1]
          rw [tkR, if_neg (fun z => z.elim n24 n25)] at he
          have hi400 : i ≠ 400 := by
            intro z
            unfold tkK at n24 n25
            rw [if_pos z] at n24 n25
            split at n24
            · exact n24 ‹_›
            · rename_i c
              rw [if_neg c] at n25
              exact n25 rfl
          have hin : tkA tp p < tp.length := by
            refine Nat.not_le.mp (fun z => ?_)
            have e := rat_out (l := tp) z (by omega)
            have ek : kindI tp (tkA tp p) (lenI tp (tkA tp p)) = 24 := by unfold kindI; rw [e, if_pos (by decide)]
            refine n24 ?_
            unfold tkK
            rw [if_neg hi400, ek]
          refine bX13_split_6 ⟨fun z => absurd z (by decide), fun _ => ?_⟩
          exact ih (i + 1) _ _ J4 (by omega) (by omega) (lenI_le h2000 hin) (by simp; omega) f4 T4 he
        have kd' := kdR_end kd3
        refine ⟨fun g => ⟨hq.1, r + 2, p4, 402, K2, vi, ?_⟩, fun g => ?_⟩
        · have ei : i = 400 := (nI_eq (b := 400) (by omega) (by omega)).mp g
          have r2 : pI (pset B J3) (r + 2) i = J3 (r + 2) i := rfl
          rw [r2]
          refine ⟨fun g2 => ?_, fun g2 => ⟨hq.1, r + 2, p4, 402, K2, vi, ?_⟩⟩
          · have ek : tkK tp i (tkA tp p) = kindI tp (tkA tp p) (lenI tp (tkA tp p)) := by
              unfold tkK
              rw [if_pos ei, if_pos (kd'.1.mp g2)]
            refine on J3 F3 (ext J3 old s4 s5 (by rw [ek]; exact kd3)) s5 (by rw [ek]; exact kd')
          · have ek : tkK tp i (tkA tp p) = 25 := by
              unfold tkK
              rw [if_pos ei, if_neg (fun z => g2 (kd'.1.mpr z))]
            rw [psI_set]
            have e5 : u2 J3 (r + 2) i 5 (r + 2) i = 5 := u2_same
            refine on _ (F3.tr (Fr.u (by omega) (by omega))) (ext _ (fun y j hj => ?_) (by rw [u2_a (by omega)]; exact s4) (by rw [u2_a (by omega)]; exact s5) ?_) (by rw [u2_a (by omega)]; exact s5) ?_
            · by_cases e : y = r + 2
              · subst e; rw [u2_j hj]; exact old _ j hj
              · rw [u2_a e]; exact old _ j hj
            · rw [ek, e5]
              exact Or.inr (Or.inl ⟨rfl, rfl⟩)
            · rw [ek, e5]
              decide
        · have ei : ¬ i = 400 := fun z => g (by rw [z]; rfl)
          have ek : tkK tp i (tkA tp p) = kindI tp (tkA tp p) (lenI tp (tkA tp p)) := by
            unfold tkK
            rw [if_neg ei]
          exact on J3 F3 (ext J3 old s4 s5 (by rw [ek]; exact kd3)) s5 (by rw [ek]; exact kd')
      -- over the blanks
      have blank : ∀ (n k : Nat), skb (tp.drop k) = n → k ≤ tp.length → k + n = tkA tp p → Go (d - 1) mX13_split (fun r M1 => r = .inl none ∧ K M1) 10 ([some (.ref r), some (.int (nI k)), some (.int (nI i)), none], [], 0, 0) (pset B J) := by
        intro n
        induction n with
        | zero =>
          intro k e hk ek
          have : k = tkA tp p := by omega
          rw [this]
          exact tok
        | succ n ihn =>
          intro k e hk ek
          rw [skb_step h2000] at e
          split at e
          · rename_i hz
            have hin : k < tp.length := by
              refine Nat.not_le.mp (fun z => ?_)
              rw [mby_out z] at hz
              exact hz.elim (by decide) (by decide)
            have next := ihn (k + 1) (by omega) (by omega) (by omega)
            refine bX13_split_10 ⟨hq.1, c_mbyteAt d1 hq hl2 (by omega) ⟨fun _ => bX13_split_30 (by rw [nI_1]; exact next), fun g1 => ⟨hq.1, c_mbyteAt d1 hq hl2 (by omega) ⟨fun _ => bX13_split_30 (by rw [nI_1]; exact next), fun g2 => absurd hz (fun z => z.elim g1 g2)⟩⟩⟩⟩
          · omega
      exact blank _ p rfl hp rfl
  refine bX13_split_0 (bX13_split_6 ⟨fun z => absurd z (by decide), fun _ => ?_⟩)
  exact key 401 0 0 ([], [], []) I rfl (by omega) (by omega) ⟨rfl, rfl, rfl⟩ Fr.rf ⟨rfl, rfl, (fun j x hx => nomatch hx), (fun j x hx => nomatch hx), (fun j kd hj => nomatch hj)⟩ hT0.symm
