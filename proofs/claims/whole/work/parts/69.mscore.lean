/-! THE REFERENCE: scores -/
theorem pushL_lt {n : Nat} {l : List Int32} {v : Int32} (h : l.length < n) : pushL n l v = l ++ [v] := if_pos h
theorem stepL_len {E : rE} {x : pS} {st : List Int32} : (stepL E x st).length ≤ st.length + 1 := by
  unfold stepL
  repeat' split
  all_goals (simp; try omega)
theorem stepR_L {E : rE} {k v : Int32} {st : List Int32} (h : st.length < 400) : stepR E k v st = stepL E (payS E.2.1 (k, v)) st := by
  have h1 : st.dropLast.length < 400 := by rw [List.length_dropLast]; omega
  have h2 : st.dropLast.dropLast.length < 400 := by rw [List.length_dropLast]; omega
  unfold stepR stepL payS
  simp only [pushL_lt h, pushL_lt h1, pushL_lt h2]
  by_cases e13 : k = 13
  · subst e13
    rw [if_neg (by decide), if_neg (by decide), if_neg (by decide), if_pos rfl, if_neg (by decide), if_neg (by decide), if_neg (by decide), if_pos rfl, if_pos rfl]
  · simp only [if_neg e13, List.headD_cons]
theorem runI_L {E : rE} {S : List (Int32 × Int32)} (hS : S.length ≤ 400) : ∀ (n a : Nat) (st : List Int32), a + n ≤ S.length → st.length + n ≤ 400 → runI E (S.map Prod.fst) (S.map Prod.snd) n (nI a) st = runL E (((S.drop a).take n).map (payS E.2.1)) st := by
  intro n
  induction n with
  | zero => intro a st _ _; rw [runI, List.take_zero]; rfl
  | succ n ih =>
    intro a st h1 h2
    have ha : a < S.length := by omega
    rw [runI, nI_1]
    have e1 : rat (S.map Prod.fst) (nI a) = S[a].1 := rat_in (by rw [List.getElem?_map, List.getElem?_eq_getElem ha]; rfl) (by rw [List.length_map]; omega)
    have e2 : rat (S.map Prod.snd) (nI a) = S[a].2 := rat_in (by rw [List.getElem?_map, List.getElem?_eq_getElem ha]; rfl) (by rw [List.length_map]; omega)
    rw [e1, e2, stepR_L (by omega)]
    have hl := stepL_len (E := E) (x := payS E.2.1 (S[a].1, S[a].2)) (st := st)
    rw [ih (a + 1) _ (by omega) (by omega), List.drop_eq_getElem_cons ha, List.take_succ_cons, List.map_cons]
    rfl
theorem flatL_app {L M : List (List (Int32 × Int32) × List (Int32 × Int32))} : flatL (L ++ M) = flatL L ++ flatL M := by unfold flatL; rw [List.map_append, List.flatten_append]
theorem flatL_at {L : List (List (Int32 × Int32) × List (Int32 × Int32))} {i : Nat} {x : List (Int32 × Int32) × List (Int32 × Int32)} (h : L[i]? = some x) : ∃ T, flatL L = flatL (L.take i) ++ (x.1 ++ (x.2 ++ T)) := by
  refine ⟨flatL (L.drop (i + 1)), ?_⟩
  obtain ⟨hi, rfl⟩ := List.getElem?_eq_some_iff.mp h
  have e : L = L.take i ++ (L[i] :: L.drop (i + 1)) := by
    rw [← List.drop_eq_getElem_cons hi, List.take_append_drop]
  have e2 : flatL L = flatL (L.take i ++ (L[i] :: L.drop (i + 1))) := congrArg flatL e
  rw [e2, flatL_app]
  congr 1
  show (L[i].1 ++ L[i].2) ++ flatL (L.drop (i + 1)) = _
  rw [List.append_assoc]
theorem runV_seg {E : rE} {S A X T : List (Int32 × Int32)} {v : Int32} (hS : S.length ≤ 400) (e : S = A ++ (X ++ T)) (h : puts E (X.map (payS E.2.1)) v) : runV E (S.map Prod.fst) (S.map Prod.snd) (nI A.length) (nI (A.length + X.length)) = v := by
  have hl : A.length + X.length ≤ S.length := by rw [e, List.length_append, List.length_append]; omega
  unfold runV
  rw [nI_toInt (show A.length + X.length < 2 ^ 31 by omega), nI_toInt (show A.length < 2 ^ 31 by omega)]
  have e1 : (((A.length + X.length : Nat) : Int) - ((A.length : Nat) : Int)).toNat = X.length := by omega
  rw [e1, runI_L hS _ _ _ (by omega) (by simp; omega)]
  have e2 : (S.drop A.length).take X.length = X := by rw [e]; simp
  rw [e2, h []]
  exact last1
theorem sub_swap {a b c : Int32} : a - c + b = a + b - c := by
  rw [Int32.sub_eq_add_neg, Int32.sub_eq_add_neg, Int32.add_assoc, Int32.add_assoc, Int32.add_comm (-c) b]
theorem c_mscore {d : Nat} (hd : 405 ≤ d) {B : pM} {I : pIm} {r td dr w : Nat} {b : bK} {hn : List Int32 × Int32 × Int32 × Int32} {far : Int32} {K : Int32 → pM → Prop} (hq : mdS B r td dr) (hb : mbD I td b) (hh : mhD I r hn) (hw : w < b.2.1.length) (h : K (rat b.2.2.1 (nI w) + boostI (envB b hn.1 hn.2.1 hn.2.2.1 hn.2.2.2 far) b.2.2.2.2.2 (rat b.2.2.2.1 (nI w)) b.2.2.2.2.2.1.length - 10 * far) (pset B I)) : pCall_i d mX13_scoreOf (0, 0) [.ref r, .int (nI w), .int far] (pset B I) K := by
  refine CP_go (by omega) okX13_scoreOf (Nat.le_of_ble_eq_true rfl) ?_
  have sb := hq.2.2.2.2.1
  have p8 := hq.2.1.2.2.2.2.2.1
  have h40 := hb.2.2.2.2.2.1.2.1
  have htl := hb.2.2.2.2.2.1.2.2.2.2
  obtain ⟨L, q1, q2, q3, q4, q5, q6⟩ := hb.2.2.2.2.2.2.2
  have cw : (nI w).toNatClampNeg = w := nI_clamp (by omega)
  have vw : vp_in (nI w) 40 := vp_inN (by omega) (by omega)
  have e3 : I td 3 = nI b.2.2.2.2.2.1.length := hb.1.2.2.2
  have ewt : I (td + 3) w = rat b.2.2.1 (nI w) := ar_hd hb hw
  have etg : I (td + 4) w = rat b.2.2.2.1 (nI w) := hb.2.2.2.2.1.rat (by rw [htl]; exact hw) (by rw [htl]; omega)
  generalize hE : envB b hn.1 hn.2.1 hn.2.2.1 hn.2.2.2 far = E at h
  have hE2 : E.2.1 = b.2.2.2.2.2.2.2.2.2.2.2 := by rw [← hE]; rfl
  have key : ∀ (m i : Nat), b.2.2.2.2.2.1.length - i = m → i ≤ b.2.2.2.2.2.1.length → Go (d - 1) mX13_scoreOf (fun r M1 => ∃ v, r = .inl (some (.int v)) ∧ K v M1) 18 ([some (.ref r), some (.int (nI w)), some (.int far), some (.int (rat b.2.2.1 (nI w) - 10 * far + boostI E b.2.2.2.2.2 (rat b.2.2.2.1 (nI w)) i)), some (.int (nI (3 * i)))], [], 0, 0) (pset B I) := by
    intro m
    induction m with
    | zero =>
      intro i hm hi
      have e : i = b.2.2.2.2.2.1.length := by omega
      refine bX13_scoreOf_18 ⟨hq.1, td, p8, sb.1, fun g => ⟨_, rfl, ?_⟩, fun g => ?_⟩
      · rw [sub_swap, e]; exact h
      · exfalso
        refine g ?_
        rw [show pI (pset B I) td 3 = nI b.2.2.2.2.2.1.length from e3, show (3 : Int32) * nI b.2.2.2.2.2.1.length = nI (3 * b.2.2.2.2.2.1.length) from nI_mul 3 _]
        exact nI_le (by omega) (by omega)
    | succ m ih =>
      intro i hm hi
      have hiL : i < L.length := by omega
      have eL := List.getElem?_eq_getElem hiL
      obtain ⟨⟨s1, s2, s3⟩, t1, ⟨na, ea, nda⟩, nc, ec, ndc⟩ := q6 i _ eL
      obtain ⟨T, eT⟩ := flatL_at eL
      obtain ⟨v, pv, cv⟩ := m_reckon (far := far) hq hb hh (Nat.le_refl _) 400 na _ nda
      obtain ⟨u, u01, pu, cu⟩ := m_holds (far := far) hq hb hh (Nat.le_refl _) 400 nc _ ndc
      rw [hE, ← hE2] at pv pu
      have rv : runV E b.2.2.2.2.2.2.2.2.2.1 b.2.2.2.2.2.2.2.2.2.2.1 (rat b.2.2.2.2.2.2.1 (nI i)) (rat b.2.2.2.2.2.2.2.1 (nI i)) = v := by
        rw [q4, q5, s1, s2]
        exact runV_seg q3 eT pv
      have ru : runV E b.2.2.2.2.2.2.2.2.2.1 b.2.2.2.2.2.2.2.2.2.2.1 (rat b.2.2.2.2.2.2.2.1 (nI i)) (rat b.2.2.2.2.2.2.2.2.1 (nI i)) = u := by
        rw [q4, q5, s2, s3]
        have := runV_seg (E := E) (S := flatL L) (A := flatL (L.take i) ++ L[i].1) (X := L[i].2) (T := T) q3 (by rw [eT]; simp) pu
        rw [List.length_append] at this
        exact this
      have nx : boostI E b.2.2.2.2.2 (rat b.2.2.2.1 (nI w)) (i + 1) = if rat b.2.2.2.2.2.1 (nI i) = rat b.2.2.2.1 (nI w) then boostI E b.2.2.2.2.2 (rat b.2.2.2.1 (nI w)) i + (if u = 0 then 0 else v) else boostI E b.2.2.2.2.2 (rat b.2.2.2.1 (nI w)) i := by
        rw [boostI, rv, ru]
      have step : ∀ x, x = rat b.2.2.1 (nI w) - 10 * far + boostI E b.2.2.2.2.2 (rat b.2.2.2.1 (nI w)) (i + 1) → Go (d - 1) mX13_scoreOf (fun r M1 => ∃ v, r = .inl (some (.int v)) ∧ K v M1) 94 ([some (.ref r), some (.int (nI w)), some (.int far), some (.int x), some (.int (nI (3 * i)))], [], 0, 0) (pset B I) := by
        intro x ex
        refine bX13_scoreOf_94 ?_
        rw [ex, show nI (3 * i) + 3 = nI (3 * (i + 1)) from nI_add _ 3]
        exact ih (i + 1) (by omega) (by omega)
      refine bX13_scoreOf_18 ⟨hq.1, td, p8, sb.1, fun g => ?_, fun g => ⟨hq.1, td, p8, sb.1, td + 6, sb.2.1.2.2.2.2.2.1, 36, sb.2.2.2.2.2.2.2.1, vp_inN (by omega) (by omega), hq.1, td, p8, sb.1, td + 4, sb.2.1.2.2.2.1, 40, sb.2.2.2.2.2.1, vw, ?_⟩⟩
      · exfalso
        rw [show pI (pset B I) td 3 = nI b.2.2.2.2.2.1.length from e3, show (3 : Int32) * nI b.2.2.2.2.2.1.length = nI (3 * b.2.2.2.2.2.1.length) from nI_mul 3 _] at g
        have := (nI_leI (by omega) (by omega)).mp g
        omega
      · rw [cw, nI_clamp (show 3 * i < 2 ^ 31 by omega), show pI (pset B I) (td + 6) (3 * i) = rat b.2.2.2.2.2.1 (nI i) from t1, show pI (pset B I) (td + 4) w = rat b.2.2.2.1 (nI w) from etg]
        refine ⟨fun g2 => ⟨hq.1, td, p8, sb.1, td + 6, sb.2.1.2.2.2.2.2.1, 36, sb.2.2.2.2.2.2.2.1, ?_, hq.1, ?_⟩, fun g2 => step _ ?_⟩
        · rw [show nI (3 * i) + 2 = nI (3 * i + 2) from nI_add _ 2]; exact vp_inN (by omega) (by omega)
        · rw [show nI (3 * i) + 2 = nI (3 * i + 2) from nI_add _ 2, nI_clamp (show 3 * i + 2 < 2 ^ 31 by omega), show pI (pset B I) (td + 6) (3 * i + 2) = nI nc from ec]
          refine cu (d - 1) _ (by omega) ⟨fun g3 => step _ ?_, fun g3 => ⟨hq.1, td, p8, sb.1, td + 6, sb.2.1.2.2.2.2.2.1, 36, sb.2.2.2.2.2.2.2.1, ?_, hq.1, ?_⟩⟩
          · rw [nx, if_pos g2, if_pos g3, Int32.add_zero]
          · rw [show nI (3 * i) + 1 = nI (3 * i + 1) from nI_add _ 1]; exact vp_inN (by omega) (by omega)
          · rw [show nI (3 * i) + 1 = nI (3 * i + 1) from nI_add _ 1, nI_clamp (show 3 * i + 1 < 2 ^ 31 by omega), show pI (pset B I) (td + 6) (3 * i + 1) = nI na from ea]
            refine cv (d - 1) _ (by omega) (step _ ?_)
            rw [nx, if_pos g2, if_neg g3, Int32.add_assoc]
        · rw [nx, if_neg g2]
  refine bX13_scoreOf_0 ⟨hq.1, td, p8, sb.1, td + 3, sb.2.1.2.2.1, 40, sb.2.2.2.2.1, vw, ?_⟩
  rw [cw, show pI (pset B I) (td + 3) w = rat b.2.2.1 (nI w) from ewt]
  have := key _ 0 rfl (by omega)
  rw [boostI, Int32.add_zero] at this
  exact this
