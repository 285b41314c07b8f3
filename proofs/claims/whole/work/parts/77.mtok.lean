/-! THE REFERENCE: tokens -/
theorem isLt_01 {c : Int32} : isLt c = 0 ∨ isLt c = 1 := by
  unfold isLt
  repeat' split
  all_goals first | exact Or.inl rfl | exact Or.inr rfl
theorem keyw_at : ∀ k, k < 19 → keyw[k]? = some (sB (16 + k)) ∧ fidx keyw (sB (16 + k)) 0 = nI k ∧ (sB (16 + k)).length ≤ 10 := by decide +kernel
theorem fidx_at {ls : List (List Int32)} {l : List Int32} {k0 k : Nat} (hk : ls.length + k0 < 2 ^ 31) (h : fidx ls l k0 = nI k) (hk2 : k < 2 ^ 31) : k0 ≤ k ∧ ls[k - k0]? = some l := by
  induction ls generalizing k0 with
  | nil =>
    unfold fidx at h
    exact absurd (by rw [← h]; decide) (nI_pos (n := k) hk2)
  | cons a r ih =>
    unfold fidx at h
    simp only [List.length_cons] at hk
    by_cases e : a = l
    · rw [if_pos e] at h
      have := (nI_eq (by omega) hk2).mp h
      subst this
      exact ⟨Nat.le_refl _, by rw [Nat.sub_self, e]; rfl⟩
    · rw [if_neg e] at h
      obtain ⟨h1, h2⟩ := ih (k0 := k0 + 1) (by omega) h
      refine ⟨by omega, ?_⟩
      have e2 : k - k0 = (k - (k0 + 1)) + 1 := by omega
      rw [e2, List.getElem?_cons_succ]
      exact h2
theorem keyw_iff {nm : List Int32} {k : Nat} (hk : k < 19) : fidx keyw nm 0 = nI k ↔ sB (16 + k) = nm := by
  obtain ⟨h1, h2, h3⟩ := keyw_at k hk
  constructor
  · intro h
    have := (fidx_at (by decide) h (by omega)).2
    rw [Nat.sub_zero, h1] at this
    exact Option.some.inj this
  · intro h
    rw [← h]; exact h2
theorem copyl_at {tp : List Int32} {a n j : Nat} (hj : j < n) (ha : a + n < 2 ^ 31) : (copyl tp (nI a) n)[j]? = some (rat tp (nI (a + j))) := by
  unfold copyl
  rw [map_at hj, nI_add]
theorem c_misWord {d : Nat} (hd : 5 ≤ d) {B : pM} {I : pIm} {r td dr a n i : Nat} {tp : List Int32} {K : Int32 → pM → Prop} (hq : mdS B r td dr) (hl : Tp I r tp) (hi : i < 35) (ha : a + n ≤ tp.length) (h1 : sB i = copyl tp (nI a) n → K 1 (pset B I)) (h0 : ¬ sB i = copyl tp (nI a) n → K 0 (pset B I)) : pCall_i d mX13_isWord (0, 0) [.ref r, .int (nI a), .int (nI n), .ref (pBIG + i)] (pset B I) K := by
  refine CP_go (by omega) okX13_isWord (Nat.le_of_ble_eq_true rfl) ?_
  have h2000 := hl.2.1
  have hn := sN_len i hi
  have hn2 := sN_lt i hi
  refine st_aload oX13_isWord_0 rfl ?_
  refine st_callSt_i [] oX13_isWord_1 rfl rfl hi (ps8 rfl) (c_slength (by omega) hi ?_)
  refine st_iload oX13_isWord_4 rfl ?_
  refine st_icmp oX13_isWord_5 (fun g => ?_) (fun g => ?_)
  rotate_left
  · refine st_const oX13_isWord_8 ?_
    refine st_zret oX13_isWord_9 (Or.inl rfl) ⟨_, rfl, h0 (fun z => g ?_)⟩
    have := congrArg List.length z
    rw [copyl_len, ← hn] at this
    show nI (sN i) = nI n
    rw [this]
  have en : sN i = n := (nI_eq (by omega) (by omega)).mp g
  refine st_const oX13_isWord_10 ?_
  refine st_istore (L2 := [some (.ref r), some (.int (nI a)), some (.int (nI n)), some (.ref (pBIG + i)), some (.int (nI 0))]) oX13_isWord_11 (by decide) rfl rfl ?_
  have key : ∀ (m k : Nat), n - k = m → k ≤ n → (∀ j, j < k → (sB i)[j]? = (copyl tp (nI a) n)[j]?) → Go (d - 1) mX13_isWord (fun r M1 => ∃ v, r = .inl (some (.int v)) ∧ K v M1) 13 ([some (.ref r), some (.int (nI a)), some (.int (nI n)), some (.ref (pBIG + i)), some (.int (nI k))], [], 0, 0) (pset B I) := by
    intro m
    induction m with
    | zero =>
      intro k hm hk hs
      refine st_iload oX13_isWord_13 rfl ?_
      refine st_iload oX13_isWord_15 rfl ?_
      refine st_icmp oX13_isWord_16 (fun g2 => ?_) (fun g2 => absurd (nI_le (show n ≤ k by omega) (by omega)) g2)
      refine st_const oX13_isWord_45 ?_
      refine st_zret oX13_isWord_46 (Or.inr rfl) ⟨_, rfl, h1 ?_⟩
      apply List.ext_getElem?
      intro j
      by_cases c : j < n
      · exact hs j (by omega)
      · rw [List.getElem?_eq_none (by omega), List.getElem?_eq_none (by rw [copyl_len]; omega)]
    | succ m ih =>
      intro k hm hk hs
      have hkn : k < n := by omega
      refine st_iload oX13_isWord_13 rfl ?_
      refine st_iload oX13_isWord_15 rfl ?_
      refine st_icmp oX13_isWord_16 (fun g2 => absurd ((nI_leI (by omega) (by omega)).mp g2) (by omega)) (fun g2 => ?_)
      refine st_aload oX13_isWord_19 rfl ?_
      refine st_getP oX13_isWord_20 hq.1 hq.2.1.1 ?_
      refine st_iload oX13_isWord_23 rfl ?_
      refine st_iload oX13_isWord_24 rfl ?_
      refine st_ibin oX13_isWord_26 ?_
      have e1 : nI a + nI k = nI (a + k) := nI_add _ _
      refine st_iald oX13_isWord_27 hq.2.2.2.1.1 (show vp_in (nI a + nI k) 2000 by rw [e1]; exact vp_inN (by omega) (by omega)) ?_
      refine st_aload oX13_isWord_28 rfl ?_
      refine st_iload oX13_isWord_29 rfl ?_
      refine st_callSt_i [.int (nI k)] oX13_isWord_31 rfl rfl hi (ps8 rfl) (c_scharAt (by omega) hi (by omega) ?_)
      have e2 : pI (pset B I) (r + 1) (nI a + nI k).toNatClampNeg = rat tp (nI (a + k)) := by
        rw [e1, nI_clamp (by omega)]
        have e := List.getElem?_eq_getElem (l := tp) (i := a + k) (by omega)
        rw [rat_in e (by omega)]
        exact hl.2.2 _ _ e
      have e3 : (sB i)[k]? = some ((sB i).getD k 0) := by
        rw [List.getD_eq_getElem?_getD, List.getElem?_eq_getElem (by omega)]
        rfl
      have e4 : (copyl tp (nI a) n)[k]? = some (rat tp (nI (a + k))) := copyl_at hkn (by omega)
      refine st_icmp oX13_isWord_34 (fun g3 => ?_) (fun g3 => ?_)
      · refine st_iinc (L2 := [some (.ref r), some (.int (nI a)), some (.int (nI n)), some (.ref (pBIG + i)), some (.int (nI (k + 1)))]) oX13_isWord_39 rfl (by decide) rfl (by show _ = _; rw [← nI_1]; rfl) ?_
        refine st_goto oX13_isWord_42 (ih (k + 1) (by omega) (by omega) (fun j hj => ?_))
        by_cases c : j = k
        · subst c
          have g3' : rat tp (nI (a + j)) = (sB i).getD j 0 := by rw [← e2]; exact g3
          rw [e3, e4, g3']
        · exact hs j (by omega)
      · refine st_const oX13_isWord_37 ?_
        refine st_zret oX13_isWord_38 (Or.inl rfl) ⟨_, rfl, h0 (fun z => g3 ?_)⟩
        show pI (pset B I) (r + 1) (nI a + nI k).toNatClampNeg = (sB i).getD k 0
        rw [e2]
        have e5 : (sB i)[k]? = (copyl tp (nI a) n)[k]? := by rw [z]
        rw [e4, e3] at e5
        exact (Option.some.inj e5).symm
  exact key _ 0 rfl (by omega) (fun j hj => absurd hj (by omega))
/-- only the tokens' arrays have changed, at one place -/
def FrK (r i : Nat) (I J : pIm) : Prop := (∀ y, y ≠ r + 2 → y ≠ r + 3 → y ≠ r + 5 → J y = I y) ∧ ∀ y j, j ≠ i → J y j = I y j
theorem FrK.rf {r i : Nat} {I : pIm} : FrK r i I I := ⟨fun _ _ _ _ => rfl, fun _ _ _ => rfl⟩
theorem FrK.tr {r i : Nat} {I J K : pIm} (h : FrK r i I J) (g : FrK r i J K) : FrK r i I K := ⟨fun y h1 h2 h3 => (g.1 y h1 h2 h3).trans (h.1 y h1 h2 h3), fun y j hj => (g.2 y j hj).trans (h.2 y j hj)⟩
theorem FrK.u {r i c : Nat} {I : pIm} {v : Int32} (hc : c = r + 2 ∨ c = r + 3 ∨ c = r + 5) : FrK r i I (u2 I c i v) := ⟨fun y h1 h2 h3 => u2_a (by omega), fun y j hj => by
  by_cases e : y = c
  · subst e; exact u2_j hj
  · rw [u2_a e]⟩
theorem Tp.fk {r i : Nat} {I J : pIm} {tp : List Int32} (h : Tp I r tp) (f : FrK r i I J) : Tp J r tp := h.cg (by rw [f.1 r (by omega) (by omega) (by omega)]) (f.1 _ (by omega) (by omega) (by omega))
theorem mby_at {tp : List Int32} {a : Nat} (h : a < tp.length) (h2 : tp.length ≤ 2000) : mby tp a = rat tp (nI a) := by
  unfold mby
  rw [List.getD_eq_getElem?_getD, List.getElem?_eq_getElem h, rat_in (List.getElem?_eq_getElem h) (by omega)]
  rfl
theorem mby_out {tp : List Int32} {a : Nat} (h : tp.length ≤ a) : mby tp a = 0 := by
  unfold mby
  rw [List.getD_eq_getElem?_getD, List.getElem?_eq_none h]
  rfl
theorem rnl_step {f : Int32} {tp : List Int32} {a : Nat} (h : a < tp.length) : rnl f (tp.drop a) = if isDg tp[a] = 0 ∧ (f = 0 ∨ isLt tp[a] = 0) then 0 else rnl f (tp.drop (a + 1)) + 1 := by
  rw [List.drop_eq_getElem_cons h, rnl]
theorem rnl_end {f : Int32} {tp : List Int32} {a : Nat} (h : tp.length ≤ a) : rnl f (tp.drop a) = 0 := by
  rw [List.drop_of_length_le h]
  rfl
theorem c_mreadWord {d : Nat} (hd : 7 ≤ d) {B : pM} {I : pIm} {r td dr i a : Nat} {tp : List Int32} {K : pM → Prop} (hq : mdS B r td dr) (hl : Tp I r tp) (hi : i < 402) (ha : a ≤ tp.length) (h : ∀ J, FrK r i I J → J (r + 5) i = nI (rnl 1 (tp.drop a)) → (∀ k, k < 19 → fidx keyw (copyl tp (nI a) (rnl 1 (tp.drop a))) 0 = nI k → J (r + 2) i = 2 ∧ J (r + 3) i = nI k) → ((∀ k, k < 19 → fidx keyw (copyl tp (nI a) (rnl 1 (tp.drop a))) 0 ≠ nI k) → J (r + 2) i = (if rnl 1 (tp.drop a) ≤ 10 then 1 else 5)) → K (pset B J)) : pCall_v d mX13_readWord (0, 0) [.ref r, .int (nI i), .int (nI a)] (pset B I) K := by
  refine CP_go (by omega) okX13_readWord (Nat.le_of_ble_eq_true rfl) ?_
  have h2000 := hl.2.1
  have K2 := hq.2.2.2.1.2.1
  have K3 := hq.2.2.2.1.2.2.1
  have K5 := hq.2.2.2.1.2.2.2.2.1
  have vi : vp_in (nI i) 402 := vp_inN hi (by omega)
  have ci : (nI i).toNatClampNeg = i := nI_clamp (by omega)
  have hL := rnl_le (f := 1) (l := tp.drop a)
  rw [List.length_drop] at hL
  generalize hLe : rnl 1 (tp.drop a) = L at h hL
  -- behind the run
  have behind : Go (d - 1) mX13_readWord (fun r M1 => r = .inl none ∧ K M1) 30 ([some (.ref r), some (.int (nI i)), some (.int (nI a)), some (.int (nI (a + L))), none], [], 0, 0) (pset B I) := by
    have eL : nI (a + L) - nI a = nI L := by rw [nI_sub (by omega)]; congr 1; omega
    refine st_aload oX13_readWord_30 rfl ?_
    refine st_getP oX13_readWord_31 hq.1 hq.2.1.2.2.2.2.1 ?_
    refine st_iload oX13_readWord_34 rfl ?_
    refine st_iload oX13_readWord_35 rfl ?_
    refine st_iload oX13_readWord_36 rfl ?_
    refine st_ibin oX13_readWord_37 ?_
    refine st_iast oX13_readWord_38 K5 vi ?_
    rw [ci, eL, psI_set]
    refine st_aload oX13_readWord_39 rfl ?_
    refine st_getP oX13_readWord_40 hq.1 hq.2.1.2.1 ?_
    refine st_iload oX13_readWord_43 rfl ?_
    refine st_iload oX13_readWord_44 rfl ?_
    refine st_iload oX13_readWord_45 rfl ?_
    refine st_ibin oX13_readWord_46 ?_
    rw [eL]
    refine st_const oX13_readWord_47 ?_
    have F5 : FrK r i I (u2 I (r + 5) i (nI L)) := FrK.u (by omega)
    have put : ∀ v, v = (if L ≤ 10 then 1 else 5 : Int32) → Go (d - 1) mX13_readWord (fun r M1 => r = .inl none ∧ K M1) 57 ([some (.ref r), some (.int (nI i)), some (.int (nI a)), some (.int (nI (a + L))), none], [.int v, .int (nI i), .ref (r + 2)], 0, 0) (pset B (u2 I (r + 5) i (nI L))) := by
      intro v ev
      refine st_iast oX13_readWord_57 K2 vi ?_
      rw [ci, psI_set]
      refine st_const oX13_readWord_58 ?_
      refine st_istore (L2 := [some (.ref r), some (.int (nI i)), some (.int (nI a)), some (.int (nI (a + L))), some (.int (nI 0))]) oX13_readWord_59 (by decide) rfl rfl ?_
      have F2 : FrK r i I (u2 (u2 I (r + 5) i (nI L)) (r + 2) i v) := F5.tr (FrK.u (by omega))
      have key : ∀ (m k : Nat) (J : pIm), 19 - k = m → k ≤ 19 → FrK r i I J → J (r + 5) i = nI L → (∀ j, j < k → fidx keyw (copyl tp (nI a) L) 0 = nI j → J (r + 2) i = 2 ∧ J (r + 3) i = nI j) → ((∀ j, j < k → fidx keyw (copyl tp (nI a) L) 0 ≠ nI j) → J (r + 2) i = v) → Go (d - 1) mX13_readWord (fun r M1 => r = .inl none ∧ K M1) 61 ([some (.ref r), some (.int (nI i)), some (.int (nI a)), some (.int (nI (a + L))), some (.int (nI k))], [], 0, 0) (pset B J) := by
        intro m
        induction m with
        | zero =>
          intro k J hm hk f s5 s1 s2
          have e : k = 19 := by omega
          subst e
          refine st_iload oX13_readWord_61 rfl ?_
          refine st_const oX13_readWord_63 ?_
          refine st oX13_readWord_66 ⟨rfl, ?_⟩
          refine st_icmp oX13_readWord_67 (fun g => ?_) (fun g => absurd (by decide) g)
          exact st_vret oX13_readWord_111 ⟨rfl, h J f s5 s1 (fun z => (s2 z).trans ev)⟩
        | succ m ih =>
          intro k J hm hk f s5 s1 s2
          have hk19 : k < 19 := by omega
          refine st_iload oX13_readWord_61 rfl ?_
          refine st_const oX13_readWord_63 ?_
          refine st oX13_readWord_66 ⟨rfl, ?_⟩
          refine st_icmp oX13_readWord_67 (fun g => absurd ((nI_leI (a := 19) (by omega) (by omega)).mp g) (by omega)) (fun g => ?_)
          refine st_aload oX13_readWord_70 rfl ?_
          refine st_iload oX13_readWord_71 rfl ?_
          refine st_iload oX13_readWord_72 rfl ?_
          refine st_iload oX13_readWord_73 rfl ?_
          refine st_ibin oX13_readWord_74 ?_
          rw [eL]
          refine st_const oX13_readWord_75 ?_
          refine st_iload oX13_readWord_78 rfl ?_
          refine st oX13_readWord_80 ⟨rfl, vp_inN hk19 (by omega), ?_⟩
          rw [nI_clamp (show k < 2 ^ 31 by omega)]
          refine st_callV0_i [.int (nI a), .int (nI L), .ref (pBIG + (16 + k))] oX13_readWord_81 rfl rfl hq.1 (ps8 rfl) ?_
          refine c_misWord (by omega) hq (hl.fk f) (by omega) (by omega) (fun e => ?_) (fun e => ?_)
          · refine st_if oX13_readWord_84 (fun z => absurd z (by decide)) (fun _ => ?_)
            refine st_aload oX13_readWord_90 rfl ?_
            refine st_getP oX13_readWord_91 hq.1 hq.2.1.2.1 ?_
            refine st_iload oX13_readWord_94 rfl ?_
            refine st_const oX13_readWord_95 ?_
            refine st_iast oX13_readWord_96 K2 vi ?_
            rw [ci, psI_set]
            refine st_aload oX13_readWord_97 rfl ?_
            refine st_getP oX13_readWord_98 hq.1 hq.2.1.2.2.1 ?_
            refine st_iload oX13_readWord_101 rfl ?_
            refine st_iload oX13_readWord_102 rfl ?_
            refine st_iast oX13_readWord_104 K3 vi ?_
            rw [ci, psI_set]
            refine st_iinc (L2 := [some (.ref r), some (.int (nI i)), some (.int (nI a)), some (.int (nI (a + L))), some (.int (nI (k + 1)))]) oX13_readWord_105 rfl (by decide) rfl (by show _ = _; rw [← nI_1]; rfl) ?_
            have ek : fidx keyw (copyl tp (nI a) L) 0 = nI k := (keyw_iff hk19).mpr e
            refine st_goto oX13_readWord_108 (ih (k + 1) _ (by omega) (by omega) ((f.tr (FrK.u (by omega))).tr (FrK.u (by omega))) (by rw [u2_a (by omega), u2_a (by omega)]; exact s5) (fun j hj ej => ?_) (fun z => absurd ek (z k (by omega))))
            have : k = j := (nI_eq (by omega) (by omega)).mp (ek.symm.trans ej)
            subst this
            exact ⟨by rw [u2_a (by omega)]; exact u2_same, u2_same⟩
          · refine st_if oX13_readWord_84 (fun _ => ?_) (fun z => absurd rfl z)
            refine st_goto oX13_readWord_87 ?_
            refine st_iinc (L2 := [some (.ref r), some (.int (nI i)), some (.int (nI a)), some (.int (nI (a + L))), some (.int (nI (k + 1)))]) oX13_readWord_105 rfl (by decide) rfl (by show _ = _; rw [← nI_1]; rfl) ?_
            refine st_goto oX13_readWord_108 (ih (k + 1) J (by omega) (by omega) f s5 (fun j hj ej => ?_) (fun z => s2 (fun j hj => z j (by omega))))
            by_cases c : j = k
            · subst c
              exact absurd ((keyw_iff hk19).mp ej) e
            · exact s1 j (by omega) ej
      exact key _ 0 _ rfl (by omega) F2 (by rw [u2_a (by omega)]; exact u2_same) (fun j hj => absurd hj (by omega)) (fun _ => u2_same)
    refine st_icmp oX13_readWord_49 (fun g => ?_) (fun g => ?_)
    · have hL10 := (nI_leI (b := 10) (by omega) (by omega)).mp g
      refine st_const oX13_readWord_56 (put _ (by rw [if_pos hL10]))
    · refine st_const oX13_readWord_52 (st_goto oX13_readWord_53 (put _ (by rw [if_neg (fun z => g (nI_le (b := 10) z (by omega)))])))
  -- the run
  have run : ∀ (m k : Nat), L - k = m → k ≤ L → rnl 1 (tp.drop (a + k)) = L - k → Go (d - 1) mX13_readWord (fun r M1 => r = .inl none ∧ K M1) 2 ([some (.ref r), some (.int (nI i)), some (.int (nI a)), some (.int (nI (a + k))), none], [], 0, 0) (pset B I) := by
    intro m
    induction m with
    | zero =>
      intro k hm hk e
      have ek : k = L := by omega
      subst ek
      refine st_aload oX13_readWord_2 rfl ?_
      refine st_iload oX13_readWord_3 rfl ?_
      refine st_callV0_i [.int (nI (a + k))] oX13_readWord_4 rfl rfl hq.1 (ps8 rfl) (c_mbyteAt (by omega) hq hl (by omega) ?_)
      have hz : isLt (mby tp (a + k)) = 0 ∧ isDg (mby tp (a + k)) = 0 := by
        by_cases c : a + k < tp.length
        · rw [mby_at c h2000, rat_in (List.getElem?_eq_getElem c) (by omega)]
          rw [rnl_step c] at e
          split at e
          · rename_i g
            exact ⟨g.2.resolve_left (by decide), g.1⟩
          · omega
        · rw [mby_out (by omega)]
          exact ⟨rfl, rfl⟩
      refine st_callS0_i [.int (mby tp (a + k))] oX13_readWord_7 rfl rfl (ps8 rfl) (c_misLetter (by omega) ?_)
      rw [hz.1]
      refine st_if oX13_readWord_10 (fun _ => ?_) (fun z => absurd rfl z)
      refine st_aload oX13_readWord_13 rfl ?_
      refine st_iload oX13_readWord_14 rfl ?_
      refine st_callV0_i [.int (nI (a + k))] oX13_readWord_15 rfl rfl hq.1 (ps8 rfl) (c_mbyteAt (by omega) hq hl (by omega) ?_)
      refine st_callS0_i [.int (mby tp (a + k))] oX13_readWord_18 rfl rfl (ps8 rfl) (c_misDigit (by omega) ?_)
      rw [hz.2]
      exact st_if oX13_readWord_21 (fun _ => behind) (fun z => absurd rfl z)
    | succ m ih =>
      intro k hm hk e
      have hin : a + k < tp.length := by omega
      have more : Go (d - 1) mX13_readWord (fun r M1 => r = .inl none ∧ K M1) 24 ([some (.ref r), some (.int (nI i)), some (.int (nI a)), some (.int (nI (a + k))), none], [], 0, 0) (pset B I) := by
        refine st_iinc (L2 := [some (.ref r), some (.int (nI i)), some (.int (nI a)), some (.int (nI (a + (k + 1)))), none]) oX13_readWord_24 rfl (by decide) rfl (by show _ = _; rw [← Nat.add_assoc, ← nI_1]; rfl) ?_
        refine st_goto oX13_readWord_27 (ih (k + 1) (by omega) (by omega) ?_)
        rw [rnl_step hin] at e
        split at e
        · omega
        · rw [← Nat.add_assoc]; omega
      refine st_aload oX13_readWord_2 rfl ?_
      refine st_iload oX13_readWord_3 rfl ?_
      refine st_callV0_i [.int (nI (a + k))] oX13_readWord_4 rfl rfl hq.1 (ps8 rfl) (c_mbyteAt (by omega) hq hl (by omega) ?_)
      refine st_callS0_i [.int (mby tp (a + k))] oX13_readWord_7 rfl rfl (ps8 rfl) (c_misLetter (by omega) ?_)
      refine st_if oX13_readWord_10 (fun g => ?_) (fun _ => more)
      refine st_aload oX13_readWord_13 rfl ?_
      refine st_iload oX13_readWord_14 rfl ?_
      refine st_callV0_i [.int (nI (a + k))] oX13_readWord_15 rfl rfl hq.1 (ps8 rfl) (c_mbyteAt (by omega) hq hl (by omega) ?_)
      refine st_callS0_i [.int (mby tp (a + k))] oX13_readWord_18 rfl rfl (ps8 rfl) (c_misDigit (by omega) ?_)
      refine st_if oX13_readWord_21 (fun g2 => ?_) (fun _ => more)
      exfalso
      rw [mby_at hin h2000, rat_in (List.getElem?_eq_getElem hin) (by omega)] at g g2
      rw [rnl_step hin, if_pos ⟨g2, Or.inr g⟩] at e
      omega
  refine st_iload oX13_readWord_0 rfl ?_
  refine st_istore (L2 := [some (.ref r), some (.int (nI i)), some (.int (nI a)), some (.int (nI (a + 0))), none]) oX13_readWord_1 (by decide) rfl rfl ?_
  exact run _ 0 rfl (by omega) (by rw [Nat.add_zero, Nat.sub_zero]; exact hLe)
theorem c_mreadNum {d : Nat} (hd : 2 ≤ d) {B : pM} {I : pIm} {r td dr i a : Nat} {tp : List Int32} {K : pM → Prop} (hq : mdS B r td dr) (hl : Tp I r tp) (hi : i < 402) (ha : a ≤ tp.length) (h : ∀ J, FrK r i I J → J (r + 5) i = nI (rnl 0 (tp.drop a)) → J (r + 3) i = numL tp (nI a) (min (rnl 0 (tp.drop a)) 6) → J (r + 2) i = (if rnl 0 (tp.drop a) ≤ 6 then 3 else 5) → K (pset B J)) : pCall_v d mX13_readNumber (0, 0) [.ref r, .int (nI i), .int (nI a)] (pset B I) K := by
  refine CP_go (by omega) okX13_readNumber (Nat.le_of_ble_eq_true rfl) ?_
  have h2000 := hl.2.1
  have K1 := hq.2.2.2.1.1
  have K2 := hq.2.2.2.1.2.1
  have K3 := hq.2.2.2.1.2.2.1
  have K5 := hq.2.2.2.1.2.2.2.2.1
  have p1 := hq.2.1.1
  have p4 := hq.2.1.2.1
  have p5 := hq.2.1.2.2.1
  have p7 := hq.2.1.2.2.2.2.1
  have vi : vp_in (nI i) 402 := vp_inN hi (by omega)
  have ci : (nI i).toNatClampNeg = i := nI_clamp (by omega)
  have hL := rnl_le (f := 0) (l := tp.drop a)
  rw [List.length_drop] at hL
  generalize hLe : rnl 0 (tp.drop a) = L at h hL
  have eq0 : ∀ k, nI (a + k) - nI a = nI k := fun k => by rw [nI_sub (by omega)]; congr 1; omega
  have run : ∀ (m k : Nat), L - k = m → k ≤ L → rnl 0 (tp.drop (a + k)) = L - k → Go (d - 1) mX13_readNumber (fun r M1 => r = .inl none ∧ K M1) 5 ([some (.ref r), some (.int (nI i)), some (.int (nI a)), some (.int (nI (a + k))), some (.int (numL tp (nI a) (min k 6)))], [], 0, 0) (pset B I) := by
    intro m
    induction m with
    | zero =>
      intro k hm hk e
      have ek : k = L := by omega
      subst ek
      have hz : isDg (mby tp (a + k)) = 0 := by
        by_cases c : a + k < tp.length
        · rw [mby_at c h2000, rat_in (List.getElem?_eq_getElem c) (by omega)]
          rw [rnl_step c] at e
          split at e
          · rename_i g
            exact g.1
          · omega
        · rw [mby_out (by omega)]
          rfl
      refine bX13_readNumber_5 ⟨hq.1, c_mbyteAt (by omega) hq hl (by omega) (c_misDigit (by omega) ⟨fun _ => ⟨hq.1, r + 5, p7, 402, K5, vi, hq.1, r + 3, p5, 402, K3, vi, hq.1, r + 2, p4, ?_⟩, fun z => absurd hz z⟩)⟩
      rw [ci, eq0, psI_set, psI_set]
      refine ⟨fun g => ⟨402, K2, vi, rfl, ?_⟩, fun g => ⟨402, K2, vi, rfl, ?_⟩⟩
      · rw [psI_set]
        refine h _ (((FrK.u (by omega)).tr (FrK.u (by omega))).tr (FrK.u (by omega))) (by rw [u2_a (by omega), u2_a (by omega)]; exact u2_same) (by rw [u2_a (by omega)]; exact u2_same) ?_
        rw [if_pos ((nI_leI (b := 6) (by omega) (by omega)).mp g)]
        exact u2_same
      · rw [psI_set]
        refine h _ (((FrK.u (by omega)).tr (FrK.u (by omega))).tr (FrK.u (by omega))) (by rw [u2_a (by omega), u2_a (by omega)]; exact u2_same) (by rw [u2_a (by omega)]; exact u2_same) ?_
        rw [if_neg (fun z => g (nI_le (b := 6) z (by omega)))]
        exact u2_same
    | succ m ih =>
      intro k hm hk e
      have hin : a + k < tp.length := by omega
      have next := ih (k + 1) (by omega) (by omega) (by
        rw [rnl_step hin] at e
        split at e
        · omega
        · rw [← Nat.add_assoc]; omega)
      refine bX13_readNumber_5 ⟨hq.1, c_mbyteAt (by omega) hq hl (by omega) (c_misDigit (by omega) ⟨fun g => ?_, fun _ => ?_⟩)⟩
      · exfalso
        rw [mby_at hin h2000, rat_in (List.getElem?_eq_getElem hin) (by omega)] at g
        rw [rnl_step hin, if_pos ⟨g, Or.inl rfl⟩] at e
        omega
      · rw [eq0]
        refine ⟨fun g => bX13_readNumber_41 ?_, fun g => ⟨hq.1, r + 1, p1, 2000, K1, vp_inN (by omega) (by omega), bX13_readNumber_41 ?_⟩⟩
        · have h6 := (nI_leI (a := 6) (by omega) (by omega)).mp g
          rw [nI_1, Nat.add_assoc]
          rw [Nat.min_eq_right (by omega)] at next ⊢
          exact next
        · have h6 : k < 6 := Nat.not_le.mp (fun z => g (nI_le (a := 6) z (by omega)))
          have e2 : pI (pset B I) (r + 1) (a + k) = rat tp (nI (a + k)) := by
            have e := List.getElem?_eq_getElem hin
            rw [rat_in e (by omega)]
            exact hl.2.2 _ _ e
          rw [nI_1, Nat.add_assoc, nI_clamp (by omega), e2]
          rw [Nat.min_eq_left (show k + 1 ≤ 6 by omega), numL, nI_add] at next
          rw [Nat.min_eq_left (show k ≤ 6 by omega), Int32.mul_comm 10]
          exact next
  have := run _ 0 rfl (by omega) (by rw [Nat.add_zero, Nat.sub_zero]; exact hLe)
  exact bX13_readNumber_0 this
