/-! THE REFERENCE: all tokens -/
def sgn (c : Int32) : Prop := c = 40 ∨ c = 41 ∨ c = 91 ∨ c = 93 ∨ c = 59 ∨ c = 44 ∨ c = 43 ∨ c = 45 ∨ c = 42 ∨ c = 47 ∨ c = 60 ∨ c = 62 ∨ c = 61
/-- a token's sort and value, beside its kind and its number -/
def kdR (kd so va nu : Int32) : Prop := (kd = 24 ∧ so = 0) ∨ (kd = 25 ∧ so = 5) ∨ (kd = 20 ∧ so = 1) ∨ (kd = 21 ∧ so = 3 ∧ va = nu) ∨ (kd = 22 ∧ so = 4 ∧ va = 108) ∨ (kd = 23 ∧ so = 4 ∧ va = 103) ∨ (∃ k, k < 19 ∧ kd = nI k ∧ so = 2 ∧ va = nI k) ∨ (sgn kd ∧ so = 4 ∧ va = kd)
theorem sgn_fi0 : ∀ j, j < 256 → ((fiI (nI j).toInt8.toInt32 (sB 1) 0 < 0) ↔ ¬ (nI j = 40 ∨ nI j = 41 ∨ nI j = 91 ∨ nI j = 93 ∨ nI j = 59 ∨ nI j = 44 ∨ nI j = 43 ∨ nI j = 45 ∨ nI j = 42 ∨ nI j = 47 ∨ nI j = 60 ∨ nI j = 62 ∨ nI j = 61)) := by decide +kernel
theorem sgn_fi {c : Int32} (h0 : 0 ≤ c) (h1 : c ≤ 255) : (fiI c.toInt8.toInt32 (sB 1) 0 < 0) ↔ ¬ sgn c := by
  obtain ⟨j, hj, rfl⟩ := nI_of (Int32.not_lt.mpr h0)
  exact sgn_fi0 j (by have := (nI_leI (b := 255) hj (by omega)).mp h1; omega)
theorem lt_nsg0 : ∀ j, j < 256 → (isLt (nI j) = 0 ∨ isDg (nI j) = 0 ∧ ¬ (nI j = 40 ∨ nI j = 41 ∨ nI j = 91 ∨ nI j = 93 ∨ nI j = 59 ∨ nI j = 44 ∨ nI j = 43 ∨ nI j = 45 ∨ nI j = 42 ∨ nI j = 47 ∨ nI j = 60 ∨ nI j = 62 ∨ nI j = 61)) ∧ (isDg (nI j) = 0 ∨ isLt (nI j) = 0 ∧ ¬ (nI j = 40 ∨ nI j = 41 ∨ nI j = 91 ∨ nI j = 93 ∨ nI j = 59 ∨ nI j = 44 ∨ nI j = 43 ∨ nI j = 45 ∨ nI j = 42 ∨ nI j = 47 ∨ nI j = 60 ∨ nI j = 62 ∨ nI j = 61)) := by decide +kernel
theorem lt_nsg {c : Int32} (h0 : 0 ≤ c) (h1 : c ≤ 255) : (isLt c ≠ 0 → isDg c = 0 ∧ ¬ sgn c) ∧ (isDg c ≠ 0 → isLt c = 0 ∧ ¬ sgn c) := by
  obtain ⟨j, hj, rfl⟩ := nI_of (Int32.not_lt.mpr h0)
  have q := lt_nsg0 j (by have := (nI_leI (b := 255) hj (by omega)).mp h1; omega)
  exact ⟨fun z => q.1.resolve_left z, fun z => q.2.resolve_left z⟩
theorem fidx_cases {ls : List (List Int32)} {l : List Int32} (k0 : Nat) : fidx ls l k0 = -1 ∨ ∃ k, k < ls.length ∧ fidx ls l k0 = nI (k0 + k) := by
  induction ls generalizing k0 with
  | nil => exact Or.inl rfl
  | cons a r ih =>
    unfold fidx
    split
    · exact Or.inr ⟨0, by simp, rfl⟩
    · rcases ih (k0 + 1) with e | ⟨k, hk, e⟩
      · exact Or.inl e
      · exact Or.inr ⟨k + 1, by simp only [List.length_cons]; omega, by rw [e]; congr 1; omega⟩
theorem c_mread {d : Nat} (hd : 8 ≤ d) {B : pM} {I : pIm} {r td dr i a : Nat} {tp : List Int32} {K : pM → Prop} (hq : mdS B r td dr) (hl : Tp I r tp) (htb : byteL tp) (hi : i < 402) (ha : a ≤ tp.length) (h : ∀ J, FrK r i I J → J (r + 5) i = nI (lenI tp a) → kdR (kindI tp a (lenI tp a)) (J (r + 2) i) (J (r + 3) i) (numL tp (nI a) (min (lenI tp a) 6)) → K (pset B J)) : pCall_v d mX13_read (0, 0) [.ref r, .int (nI i), .int (nI a)] (pset B I) K := by
  refine CP_go (by omega) okX13_read (Nat.le_of_ble_eq_true rfl) ?_
  have h2000 := hl.2.1
  have K2 := hq.2.2.2.1.2.1
  have K3 := hq.2.2.2.1.2.2.1
  have K5 := hq.2.2.2.1.2.2.2.2.1
  have p4 := hq.2.1.2.1
  have p5 := hq.2.1.2.2.1
  have p7 := hq.2.1.2.2.2.2.1
  have vi : vp_in (nI i) 402 := vp_inN hi (by omega)
  have ci : (nI i).toNatClampNeg = i := nI_clamp (by omega)
  have d1 : 1 ≤ d - 1 := by omega
  have d2 : 2 ≤ d - 1 := by omega
  have d7 : 7 ≤ d - 1 := by omega
  clear hd
  -- past the signs
  have plain : ¬ sgn (mby tp a) → ∀ J, K (pset B J) → Go (d - 1) mX13_read (fun r M1 => r = .inl none ∧ K M1) 65 ([some (.ref r), some (.int (nI i)), some (.int (nI a)), some (.int (mby tp a))], [], 0, 0) (pset B J) := by
    intro hs J hK
    have fin : Go (d - 1) mX13_read (fun r M1 => r = .inl none ∧ K M1) 150 ([some (.ref r), some (.int (nI i)), some (.int (nI a)), some (.int (mby tp a))], [], 0, 0) (pset B J) := bX13_read_150 ⟨fun g => absurd (by unfold sgn; rw [g]; decide) hs, fun _ => ⟨fun g => absurd (by unfold sgn; rw [g]; decide) hs, fun _ => ⟨rfl, hK⟩⟩⟩
    exact bX13_read_65 ⟨fun g0 => absurd (by unfold sgn; rw [g0]; decide) hs, fun g0 => ⟨fun g1 => absurd (by unfold sgn; rw [g1]; decide) hs, fun g1 => ⟨fun g2 => absurd (by unfold sgn; rw [g2]; decide) hs, fun g2 => ⟨fun g3 => absurd (by unfold sgn; rw [g3]; decide) hs, fun g3 => ⟨fun g4 => absurd (by unfold sgn; rw [g4]; decide) hs, fun g4 => ⟨fun g5 => absurd (by unfold sgn; rw [g5]; decide) hs, fun g5 => ⟨fun g6 => absurd (by unfold sgn; rw [g6]; decide) hs, fun g6 => ⟨fun g7 => absurd (by unfold sgn; rw [g7]; decide) hs, fun g7 => ⟨fun g8 => absurd (by unfold sgn; rw [g8]; decide) hs, fun g8 => ⟨fun g9 => absurd (by unfold sgn; rw [g9]; decide) hs, fun g9 => ⟨fun g10 => absurd (by unfold sgn; rw [g10]; decide) hs, fun g10 => ⟨fun g11 => absurd (by unfold sgn; rw [g11]; decide) hs, fun g11 => ⟨fun g12 => absurd (by unfold sgn; rw [g12]; decide) hs, fun g12 => fin⟩⟩⟩⟩⟩⟩⟩⟩⟩⟩⟩⟩⟩
  have e0 : ∀ so, psI (psI (psI (pset B I) (r + 5) (Int32.toNatClampNeg (nI i)) 1) (r + 3) (Int32.toNatClampNeg (nI i)) (mby tp a)) (r + 2) (Int32.toNatClampNeg (nI i)) so = pset B (u2 (u2 (u2 I (r + 5) i 1) (r + 3) i (mby tp a)) (r + 2) i so) := fun so => by rw [ci, psI_set, psI_set, psI_set]
  have F0 : ∀ so, FrK r i I (u2 (u2 (u2 I (r + 5) i 1) (r + 3) i (mby tp a)) (r + 2) i so) := fun so => ((FrK.u (by omega)).tr (FrK.u (by omega))).tr (FrK.u (by omega))
  have elen : pI (psI (psI (pset B I) (r + 5) (Int32.toNatClampNeg (nI i)) 1) (r + 3) (Int32.toNatClampNeg (nI i)) (mby tp a)) r 2 = nI tp.length := by
    show u2 (u2 I (r + 5) _ 1) (r + 3) _ _ r 2 = _
    rw [u2_a (by omega), u2_a (by omega)]
    exact hl.1
  refine bX13_read_0 ⟨hq.1, c_mbyteAt d1 hq hl (by omega) ⟨hq.1, r + 5, p7, 402, K5, vi, hq.1, r + 3, p5, 402, K3, vi, hq.1, r + 2, p4, hq.1, ?_⟩⟩
  rw [elen]
  by_cases hin : a < tp.length
  · have er := mby_at hin h2000
    have eb := List.getElem?_eq_getElem hin
    have hby : 0 ≤ rat tp (nI a) ∧ rat tp (nI a) ≤ 255 := by
      rw [rat_in eb (by omega)]
      exact htb _ (List.mem_of_getElem? eb)
    have hn0 : ¬ rat tp (nI a) < 0 := Int32.not_lt.mpr hby.1
    refine ⟨fun _ => ⟨402, K2, vi, c_misLetter d1 ?_⟩, fun g => absurd (nI_lt hin (by omega)) g⟩
    rw [e0]
    have T0 := hl.fk (F0 5)
    refine ⟨fun g1 => ?_, fun g1 => ⟨hq.1, c_mreadWord d7 hq T0 hi ha (fun J f s5 s1 s2 => bX13_read_52 (c_misDigit d1 ⟨fun g2 => ?_, fun g2 => ?_⟩))⟩⟩
    · refine bX13_read_52 (c_misDigit d1 ⟨fun g2 => ?_, fun g2 => ⟨hq.1, c_mreadNum d2 hq T0 hi ha (fun J f s5 s3 s2 => ?_)⟩⟩)
      · -- neither letter nor digit
        rw [er] at g1 g2
        have hl0 : lenI tp a = if (rat tp (nI a) = 60 ∨ rat tp (nI a) = 62) ∧ rat tp (nI (a + 1)) = 61 then 2 else 1 := by
          unfold lenI
          rw [if_pos ⟨g1, g2⟩]
        have hk0 : kindI tp a (lenI tp a) = if lenI tp a = 2 then (if rat tp (nI a) = 60 then 22 else 23) else (if fiI (rat tp (nI a)).toInt8.toInt32 (sB 1) 0 < 0 then 25 else rat tp (nI a)) := by
          unfold kindI
          rw [if_neg hn0, if_pos g1, if_pos g2]
        have q5 : u2 (u2 (u2 I (r + 5) i 1) (r + 3) i (mby tp a)) (r + 2) i 5 (r + 5) i = 1 := by rw [u2_a (by omega), u2_a (by omega)]; exact u2_same
        have q3 : u2 (u2 (u2 I (r + 5) i 1) (r + 3) i (mby tp a)) (r + 2) i 5 (r + 3) i = mby tp a := by rw [u2_a (by omega)]; exact u2_same
        have q2 : u2 (u2 (u2 I (r + 5) i 1) (r + 3) i (mby tp a)) (r + 2) i 5 (r + 2) i = 5 := u2_same
        have F5 := F0 5
        generalize u2 (u2 (u2 I (r + 5) i 1) (r + 3) i (mby tp a)) (r + 2) i 5 = J0 at q5 q3 q2 F5 T0
        by_cases hs : sgn (mby tp a)
        · have go143 : Go (d - 1) mX13_read (fun r M1 => r = .inl none ∧ K M1) 143 ([some (.ref r), some (.int (nI i)), some (.int (nI a)), some (.int (mby tp a))], [], 0, 0) (pset B J0) := by
            refine bX13_read_143 ⟨hq.1, r + 2, p4, 402, K2, vi, ?_⟩
            rw [ci, psI_set]
            have F4 : FrK r i I (u2 J0 (r + 2) i 4) := F5.tr (FrK.u (by omega))
            have one : lenI tp a = 1 → K (pset B (u2 J0 (r + 2) i 4)) := by
              intro e1
              have hs' := hs
              rw [er] at hs'
              refine h _ F4 (by rw [u2_a (by omega), e1]; exact q5) ?_
              rw [hk0, e1, if_neg (by decide), if_neg (fun z => (sgn_fi hby.1 hby.2).mp z hs'), u2_same, u2_a (by omega), q3, er]
              exact Or.inr (Or.inr (Or.inr (Or.inr (Or.inr (Or.inr (Or.inr ⟨hs', rfl, rfl⟩))))))
            have two : (mby tp a = 60 ∨ mby tp a = 62) → Go (d - 1) mX13_read (fun r M1 => r = .inl none ∧ K M1) 162 ([some (.ref r), some (.int (nI i)), some (.int (nI a)), some (.int (mby tp a))], [], 0, 0) (pset B (u2 J0 (r + 2) i 4)) := by
              intro h6
              rw [er] at h6
              refine bX13_read_162 ⟨hq.1, ?_⟩
              rw [nI_1]
              refine c_mbyteAt d1 hq (hl.fk F4) (by omega) ?_
              have e61 : mby tp (a + 1) = 61 ↔ rat tp (nI (a + 1)) = 61 := by
                by_cases c : a + 1 < tp.length
                · rw [mby_at c h2000]
                · rw [mby_out (by omega), rat_out (by omega) (by omega)]
                  exact ⟨fun z => absurd z (by decide), fun z => absurd z (by decide)⟩
              refine ⟨fun g3 => ⟨hq.1, r + 5, p7, 402, K5, vi, hq.1, r + 3, p5, ?_⟩, fun g3 => ⟨rfl, one ?_⟩⟩
              · have e2 : lenI tp a = 2 := by rw [hl0, if_pos ⟨h6, e61.mp g3⟩]
                have post : ∀ v kd, kindI tp a (lenI tp a) = kd → ((kd = 22 ∧ v = 108) ∨ (kd = 23 ∧ v = 103)) → K (pset B (u2 (u2 (u2 J0 (r + 2) i 4) (r + 5) i 2) (r + 3) i v)) := by
                  intro v kd ek hv
                  refine h _ ((F4.tr (FrK.u (by omega))).tr (FrK.u (by omega))) (by rw [u2_a (by omega), e2]; exact u2_same) ?_
                  rw [ek, u2_same, u2_a (by omega), u2_a (by omega), u2_same]
                  rcases hv with ⟨e, e'⟩ | ⟨e, e'⟩
                  · exact Or.inr (Or.inr (Or.inr (Or.inr (Or.inl ⟨e, rfl, e'⟩))))
                  · exact Or.inr (Or.inr (Or.inr (Or.inr (Or.inr (Or.inl ⟨e, rfl, e'⟩)))))
                rw [ci, psI_set]
                refine ⟨fun g4 => ⟨402, K3, vi, rfl, ?_⟩, fun g4 => ⟨402, K3, vi, rfl, ?_⟩⟩
                · rw [psI_set]
                  rw [er] at g4
                  exact post _ 22 (by rw [hk0, if_pos e2, if_pos g4]) (Or.inl ⟨rfl, rfl⟩)
                · rw [psI_set]
                  rw [er] at g4
                  exact post _ 23 (by rw [hk0, if_pos e2, if_neg g4]) (Or.inr ⟨rfl, rfl⟩)
              · rw [hl0, if_neg (fun z => g3 (e61.mpr z.2))]
            refine bX13_read_150 ⟨fun g3 => two (Or.inl g3), fun g3 => ⟨fun g4 => two (Or.inr g4), fun g4 => ⟨rfl, one ?_⟩⟩⟩
            rw [er] at g3 g4
            rw [hl0, if_neg (fun z => z.1.elim g3 g4)]
          exact bX13_read_65 ⟨fun g0 => go143, fun g0 => ⟨fun g1 => go143, fun g1 => ⟨fun g2 => go143, fun g2 => ⟨fun g3 => go143, fun g3 => ⟨fun g4 => go143, fun g4 => ⟨fun g5 => go143, fun g5 => ⟨fun g6 => go143, fun g6 => ⟨fun g7 => go143, fun g7 => ⟨fun g8 => go143, fun g8 => ⟨fun g9 => go143, fun g9 => ⟨fun g10 => go143, fun g10 => ⟨fun g11 => go143, fun g11 => ⟨fun g12 => go143, fun g12 => absurd hs (by unfold sgn; intro z; rcases z with z | z | z | z | z | z | z | z | z | z | z | z | z <;> contradiction)⟩⟩⟩⟩⟩⟩⟩⟩⟩⟩⟩⟩⟩
        · refine plain hs _ (h _ F5 ?_ ?_)
          · rw [er] at hs
            rw [hl0, if_neg (fun z => hs (by unfold sgn; rcases z.1 with e | e <;> rw [e] <;> decide)), q5]
            rfl
          · rw [er] at hs
            have e1 : lenI tp a = 1 := by rw [hl0, if_neg (fun z => hs (by unfold sgn; rcases z.1 with e | e <;> rw [e] <;> decide))]
            rw [hk0, e1, if_neg (by decide), if_pos ((sgn_fi hby.1 hby.2).mpr hs), q2]
            exact Or.inr (Or.inl ⟨rfl, rfl⟩)
      · rw [er] at g1 g2
        have hns := ((lt_nsg hby.1 hby.2).2 g2).2
        have hl0 : lenI tp a = rnl 0 (tp.drop a) := by
          unfold lenI
          rw [if_neg (fun z => g2 z.2), g1]
        refine plain (by rw [er]; exact hns) J (h J ((F0 5).tr f) (by rw [hl0]; exact s5) ?_)
        have hk0 : kindI tp a (lenI tp a) = if lenI tp a ≤ 6 then 21 else 25 := by
          unfold kindI
          rw [if_neg hn0, if_pos g1, if_neg g2]
        rw [hk0, hl0, s2, s3]
        by_cases c : rnl 0 (tp.drop a) ≤ 6
        · rw [if_pos c, if_pos c]
          exact Or.inr (Or.inr (Or.inr (Or.inl ⟨rfl, rfl, rfl⟩)))
        · rw [if_neg c, if_neg c]
          exact Or.inr (Or.inl ⟨rfl, rfl⟩)
    · rw [er] at g1 g2
      have hns := ((lt_nsg hby.1 hby.2).1 g1).2
      have e1 : isLt (rat tp (nI a)) = 1 := isLt_01.resolve_left g1
      have hl0 : lenI tp a = rnl 1 (tp.drop a) := by
        unfold lenI
        rw [if_neg (fun z => g1 z.1), e1]
      refine plain (by rw [er]; exact hns) J (h J ((F0 5).tr f) (by rw [hl0]; exact s5) ?_)
      have hk0 : kindI tp a (lenI tp a) = if lenI tp a ≤ 10 then (if 0 ≤ fidx keyw (copyl tp (nI a) (lenI tp a)) 0 then fidx keyw (copyl tp (nI a) (lenI tp a)) 0 else 20) else 25 := by
        unfold kindI
        rw [if_neg hn0, if_neg g1]
      rw [hk0, hl0]
      rcases fidx_cases (ls := keyw) (l := copyl tp (nI a) (rnl 1 (tp.drop a))) 0 with e | ⟨k, hk, e⟩
      · rw [e, s2 (fun k hk z => nI_pos (n := k) (by omega) (by rw [← z, e]; decide))]
        rw [if_neg (show ¬ (0 : Int32) ≤ -1 by decide)]
        split
        · exact Or.inr (Or.inr (Or.inl ⟨rfl, rfl⟩))
        · exact Or.inr (Or.inl ⟨rfl, rfl⟩)
      · rw [Nat.zero_add] at e
        have hk19 : k < 19 := hk
        obtain ⟨q1, q2⟩ := s1 k hk19 e
        have e2 := (keyw_iff hk19).mp e
        have e3 := (keyw_at k hk19).2.2
        rw [e2, copyl_len] at e3
        rw [e, if_pos e3, if_pos (nI_pos' (by omega)), q1, q2]
        exact Or.inr (Or.inr (Or.inr (Or.inr (Or.inr (Or.inr (Or.inl ⟨k, hk19, rfl, rfl, rfl⟩))))))
    · rw [er] at g1 g2
      exact absurd ((lt_nsg hby.1 hby.2).1 g1).1 g2
  · have er : mby tp a = 0 := mby_out (by omega)
    have er2 : rat tp (nI a) = -1 := rat_out (by omega) (by omega)
    have e1 : lenI tp a = 1 := by
      unfold lenI
      rw [er2, if_pos (by decide), if_neg (fun z => z.1.elim (by decide) (by decide))]
    have ek : kindI tp a (lenI tp a) = 24 := by
      unfold kindI
      rw [er2, if_pos (by decide)]
    refine ⟨fun g => absurd ((nI_ltI (by omega) (by omega)).mp g) hin, fun _ => ⟨402, K2, vi, ?_⟩⟩
    rw [e0]
    refine c_misLetter d1 ⟨fun _ => bX13_read_52 (c_misDigit d1 ⟨fun _ => plain (by unfold sgn; rw [er]; decide) _ ?_, fun z => absurd (by rw [er]; rfl) z⟩), fun z => absurd (by rw [er]; rfl) z⟩
    refine h _ (F0 0) (by rw [e1, u2_a (by omega), u2_a (by omega)]; exact u2_same) ?_
    rw [ek]
    exact Or.inl ⟨rfl, u2_same⟩
