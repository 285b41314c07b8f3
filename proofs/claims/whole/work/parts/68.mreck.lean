/-! THE REFERENCE: nodes -/
/-- a step over what it names -/
def stepL (E : rE) (x : pS) (st : List Int32) : List Int32 :=
  if x.1 = 21 then st ++ [x.2.headD 0]
  else if x.1 = 11 then st ++ [E.2.2.2.2.2.2]
  else if x.1 = 2 then st ++ [rat E.1 (x.2.headD 0)]
  else if x.1 = 13 then st ++ [bI (x.2 <+: E.2.2.1)]
  else if x.1 = 8 ∨ x.1 = 9 ∨ x.1 = 10 ∨ x.1 = 12 then st ++ [ofHandI x.1 (x.2.headD 0) E.2.2.1 E.2.2.2.1 E.2.2.2.2.1 E.2.2.2.2.2.1]
  else if x.1 = 30 then st.dropLast ++ [-(st.getLastD 0)]
  else if x.1 = 14 then st.dropLast ++ [if st.getLastD 0 = 0 then 1 else 0]
  else st.dropLast.dropLast ++ [ofTwoI x.1 (st.getLastD 0) (st.dropLast.getLastD 0)]
def runL (E : rE) (s : List pS) (st : List Int32) : List Int32 := s.foldl (fun st x => stepL E x st) st
theorem runL_app {E : rE} {s t : List pS} {st : List Int32} : runL E (s ++ t) st = runL E t (runL E s st) := List.foldl_append
theorem runL_one {E : rE} {x : pS} {st : List Int32} : runL E [x] st = stepL E x st := rfl
theorem last1 {st : List Int32} {v : Int32} : (st ++ [v]).getLastD 0 = v := by simp [List.getLastD_eq_getLast?]
theorem drop1 {st : List Int32} {v : Int32} : (st ++ [v]).dropLast = st := by simp
/-- steps that put one value on top -/
def puts (E : rE) (s : List pS) (v : Int32) : Prop := ∀ st, runL E s st = st ++ [v]
theorem puts.one {E : rE} {x : pS} {v : Int32} (h : ∀ st, stepL E x st = st ++ [v]) : puts E [x] v := h
theorem puts.neg {E : rE} {s : List pS} {v : Int32} (h : puts E s v) : puts E (s ++ [(30, [0])]) (-v) := fun st => by
  rw [runL_app, h, runL_one]
  show (st ++ [v]).dropLast ++ [-((st ++ [v]).getLastD 0)] = _
  rw [last1, drop1]
theorem puts.not {E : rE} {s : List pS} {v : Int32} (h : puts E s v) : puts E (s ++ [(14, [0])]) (if v = 0 then 1 else 0) := fun st => by
  rw [runL_app, h, runL_one]
  show (st ++ [v]).dropLast ++ [if (st ++ [v]).getLastD 0 = 0 then (1 : Int32) else 0] = _
  rw [last1, drop1]
theorem puts.two {E : rE} {s t : List pS} {v u k : Int32} (h : puts E s v) (g : puts E t u) (hk : k = 15 ∨ k = 16 ∨ k = 17 ∨ k = 18 ∨ k = 22 ∨ k = 23 ∨ k = 42 ∨ k = 43 ∨ k = 45 ∨ k = 47 ∨ k = 60 ∨ k = 61 ∨ k = 62) : puts E (s ++ t ++ [(k, [0])]) (ofTwoI k u v) := fun st => by
  rw [runL_app, runL_app, h, g, runL_one]
  have e : stepL E (k, [0]) (st ++ [v] ++ [u]) = (st ++ [v] ++ [u]).dropLast.dropLast ++ [ofTwoI k ((st ++ [v] ++ [u]).getLastD 0) ((st ++ [v] ++ [u]).dropLast.getLastD 0)] := by
    unfold stepL
    rcases hk with e | e | e | e | e | e | e | e | e | e | e | e | e <;> subst e <;> rfl
  rw [e, last1, drop1, last1, drop1]
theorem ar_hd {I : pIm} {td : Nat} {b : bK} {w : Nat} (hb : mbD I td b) (hw : w < b.2.1.length) : I (td + 3) w = rat b.2.2.1 (nI w) := hb.2.2.2.1.rat (by rw [hb.2.2.2.2.2.1.2.2.2.1]; exact hw) (by rw [hb.2.2.2.2.2.1.2.2.2.1]; have := hb.2.2.2.2.2.1.2.1; omega)
theorem parts_eq (a : Int32) : a / (-1) = -a := by
  apply Int32.toBitVec_inj.mp
  show a.toBitVec.sdiv (-1#32) = -a.toBitVec
  rw [BitVec.sdiv_neg (by decide), BitVec.sdiv_one]
theorem c_mparts {d : Nat} (hd : 1 ≤ d) {M : pM} {a b : Int32} {K : Int32 → pM → Prop} (h : K (if b = 0 then 0 else a / b) M) : pCall_i d mX13_parts (0, 0) [.int a, .int b] M K := by
  refine CP_go hd okX13_parts (Nat.le_of_ble_eq_true rfl) ?_
  refine bX13_parts_0 ⟨fun g => ⟨_, rfl, ?_⟩, fun g => ⟨fun g2 => ⟨_, rfl, ?_⟩, fun g2 => ⟨g, _, rfl, ?_⟩⟩⟩
  · rw [if_pos g] at h; exact h
  · rw [if_neg g, g2, parts_eq] at h; exact h
  · rw [if_neg g] at h; exact h
/-- what a node gives, whatever called it -/
def nodeC (m : pMI) (f : Nat) (B : pM) (I : pIm) (r n : Nat) (far v : Int32) : Prop := ∀ (d : Nat) (K : Int32 → pM → Prop), f + 3 ≤ d → K v (pset B I) → pCall_i d m (0, 0) [.ref r, .int (nI n), .int far] (pset B I) K
theorem m_reckon {B : pM} {I : pIm} {r td dr : Nat} {b : bK} {hn : List Int32 × Int32 × Int32 × Int32} {far : Int32} (hq : mdS B r td dr) (hb : mbD I td b) (hh : mhD I r hn) {nw : Nat} (hnw : nw ≤ b.2.1.length) : ∀ (f n : Nat) (s : List pS), ndS (I (td + 7)) (I (td + 8)) (I (td + 9)) nw f n s → ∃ v, puts (envB b hn.1 hn.2.1 hn.2.2.1 hn.2.2.2 far) s v ∧ nodeC mX13_reckon f B I r n far v := by
  have sb := hq.2.2.2.2.1
  have p8 := hq.2.1.2.2.2.2.2.1
  have h40 := hb.2.2.2.2.2.1.2.1
  obtain ⟨k1, k2, k3, k4, k5, k6⟩ := id hh
  intro f
  induction f with
  | zero => intro n s h; exact h.elim
  | succ f ih =>
    intro n s h
    obtain ⟨hn4, h⟩ := h
    have vn : vp_in (nI n) 401 := vp_inN (by omega) (by omega)
    have cn : (nI n).toNatClampNeg = n := nI_clamp (by omega)
    rcases h with ⟨e, rfl⟩ | ⟨e, rfl⟩ | ⟨e, w, hw, ew, rfl⟩ | ⟨e, a, s1, ea, ha, rfl⟩ | ⟨e, a, c, s1, s2, ea, ec, ha, hc, rfl⟩
    · refine ⟨_, puts.one (fun st => rfl), fun d K hd hK => ?_⟩
      refine CP_go (by omega) okX13_reckon (Nat.le_of_ble_eq_true rfl) ?_
      refine bX13_reckon_0 ⟨hq.1, td, p8, sb.1, td + 8, sb.2.1.2.2.2.2.2.2.2.1, 401, sb.2.2.2.2.2.2.2.2.2.1, vn, hq.1, td, p8, sb.1, td + 9, sb.2.1.2.2.2.2.2.2.2.2.1, 401, sb.2.2.2.2.2.2.2.2.2.2.1, vn, hq.1, td, p8, sb.1, td + 7, sb.2.1.2.2.2.2.2.2.1, 401, sb.2.2.2.2.2.2.2.2.1, vn, ?_⟩
      rw [cn]
      have e' : pI (pset B I) (td + 7) n = 30 := e
      rw [e']
      iterate 7 refine ⟨fun z => absurd z (by decide), fun _ => ?_⟩
      refine ⟨fun _ => ?_, fun z => absurd rfl z⟩
      exact ⟨_, rfl, hK⟩
    · rcases e with e | e | e | e
      · refine ⟨_, (by rw [e]; exact puts.one (fun st => rfl)), fun d K hd hK => ?_⟩
        refine CP_go (by omega) okX13_reckon (Nat.le_of_ble_eq_true rfl) ?_
        refine bX13_reckon_0 ⟨hq.1, td, p8, sb.1, td + 8, sb.2.1.2.2.2.2.2.2.2.1, 401, sb.2.2.2.2.2.2.2.2.2.1, vn, hq.1, td, p8, sb.1, td + 9, sb.2.1.2.2.2.2.2.2.2.2.1, 401, sb.2.2.2.2.2.2.2.2.2.2.1, vn, hq.1, td, p8, sb.1, td + 7, sb.2.1.2.2.2.2.2.2.1, 401, sb.2.2.2.2.2.2.2.2.1, vn, ?_⟩
        rw [cn]
        have e' : pI (pset B I) (td + 7) n = 8 := e
        rw [e']
        iterate 1 refine ⟨fun z => absurd z (by decide), fun _ => ?_⟩
        refine ⟨fun _ => ?_, fun z => absurd rfl z⟩
        exact ⟨hq.1, _, rfl, by rw [show pI (pset B I) r 18 = nI hn.1.length from k1]; exact hK⟩
      · refine ⟨_, (by rw [e]; exact puts.one (fun st => rfl)), fun d K hd hK => ?_⟩
        refine CP_go (by omega) okX13_reckon (Nat.le_of_ble_eq_true rfl) ?_
        refine bX13_reckon_0 ⟨hq.1, td, p8, sb.1, td + 8, sb.2.1.2.2.2.2.2.2.2.1, 401, sb.2.2.2.2.2.2.2.2.2.1, vn, hq.1, td, p8, sb.1, td + 9, sb.2.1.2.2.2.2.2.2.2.2.1, 401, sb.2.2.2.2.2.2.2.2.2.2.1, vn, hq.1, td, p8, sb.1, td + 7, sb.2.1.2.2.2.2.2.2.1, 401, sb.2.2.2.2.2.2.2.2.1, vn, ?_⟩
        rw [cn]
        have e' : pI (pset B I) (td + 7) n = 9 := e
        rw [e']
        iterate 2 refine ⟨fun z => absurd z (by decide), fun _ => ?_⟩
        refine ⟨fun _ => ?_, fun z => absurd rfl z⟩
        exact ⟨hq.1, _, rfl, by rw [show pI (pset B I) r 19 = hn.2.1 from k4]; exact hK⟩
      · refine ⟨_, (by rw [e]; exact puts.one (fun st => rfl)), fun d K hd hK => ?_⟩
        refine CP_go (by omega) okX13_reckon (Nat.le_of_ble_eq_true rfl) ?_
        refine bX13_reckon_0 ⟨hq.1, td, p8, sb.1, td + 8, sb.2.1.2.2.2.2.2.2.2.1, 401, sb.2.2.2.2.2.2.2.2.2.1, vn, hq.1, td, p8, sb.1, td + 9, sb.2.1.2.2.2.2.2.2.2.2.1, 401, sb.2.2.2.2.2.2.2.2.2.2.1, vn, hq.1, td, p8, sb.1, td + 7, sb.2.1.2.2.2.2.2.2.1, 401, sb.2.2.2.2.2.2.2.2.1, vn, ?_⟩
        rw [cn]
        have e' : pI (pset B I) (td + 7) n = 10 := e
        rw [e']
        iterate 3 refine ⟨fun z => absurd z (by decide), fun _ => ?_⟩
        refine ⟨fun _ => ?_, fun z => absurd rfl z⟩
        exact ⟨hq.1, _, rfl, by rw [show pI (pset B I) r 21 = hn.2.2.2 from k6]; exact hK⟩
      · refine ⟨_, (by rw [e]; exact puts.one (fun st => rfl)), fun d K hd hK => ?_⟩
        refine CP_go (by omega) okX13_reckon (Nat.le_of_ble_eq_true rfl) ?_
        refine bX13_reckon_0 ⟨hq.1, td, p8, sb.1, td + 8, sb.2.1.2.2.2.2.2.2.2.1, 401, sb.2.2.2.2.2.2.2.2.2.1, vn, hq.1, td, p8, sb.1, td + 9, sb.2.1.2.2.2.2.2.2.2.2.1, 401, sb.2.2.2.2.2.2.2.2.2.2.1, vn, hq.1, td, p8, sb.1, td + 7, sb.2.1.2.2.2.2.2.2.1, 401, sb.2.2.2.2.2.2.2.2.1, vn, ?_⟩
        rw [cn]
        have e' : pI (pset B I) (td + 7) n = 11 := e
        rw [e']
        iterate 4 refine ⟨fun z => absurd z (by decide), fun _ => ?_⟩
        refine ⟨fun _ => ?_, fun z => absurd rfl z⟩
        exact ⟨_, rfl, hK⟩
    · refine ⟨_, puts.one (fun st => rfl), fun d K hd hK => ?_⟩
      refine CP_go (by omega) okX13_reckon (Nat.le_of_ble_eq_true rfl) ?_
      refine bX13_reckon_0 ⟨hq.1, td, p8, sb.1, td + 8, sb.2.1.2.2.2.2.2.2.2.1, 401, sb.2.2.2.2.2.2.2.2.2.1, vn, hq.1, td, p8, sb.1, td + 9, sb.2.1.2.2.2.2.2.2.2.2.1, 401, sb.2.2.2.2.2.2.2.2.2.2.1, vn, hq.1, td, p8, sb.1, td + 7, sb.2.1.2.2.2.2.2.2.1, 401, sb.2.2.2.2.2.2.2.2.1, vn, ?_⟩
      rw [cn]
      have e' : pI (pset B I) (td + 7) n = 2 := e
      rw [e']
      refine ⟨fun _ => ?_, fun z => absurd rfl z⟩
      have e2 : pI (pset B I) (td + 8) n = nI w := ew
      rw [e2]
      refine ⟨hq.1, td, p8, sb.1, td + 3, sb.2.1.2.2.1, 40, sb.2.2.2.2.1, vp_inN (by omega) (by omega), _, rfl, ?_⟩
      show K (I (td + 3) (Int32.toNatClampNeg (nI w))) _
      rw [nI_clamp (show w < 2 ^ 31 by omega)]
      rw [ar_hd hb (show w < b.2.1.length by omega)]
      exact hK
    · obtain ⟨v, pa, va⟩ := ih a s1 ha
      refine ⟨_, pa.neg, fun d K hd hK => ?_⟩
      refine CP_go (by omega) okX13_reckon (Nat.le_of_ble_eq_true rfl) ?_
      refine bX13_reckon_0 ⟨hq.1, td, p8, sb.1, td + 8, sb.2.1.2.2.2.2.2.2.2.1, 401, sb.2.2.2.2.2.2.2.2.2.1, vn, hq.1, td, p8, sb.1, td + 9, sb.2.1.2.2.2.2.2.2.2.2.1, 401, sb.2.2.2.2.2.2.2.2.2.2.1, vn, hq.1, td, p8, sb.1, td + 7, sb.2.1.2.2.2.2.2.2.1, 401, sb.2.2.2.2.2.2.2.2.1, vn, ?_⟩
      rw [cn]
      have e' : pI (pset B I) (td + 7) n = 110 := e
      rw [e']
      iterate 11 refine ⟨fun z => absurd z (by decide), fun _ => ?_⟩
      refine ⟨fun _ => ?_, fun z => absurd rfl z⟩
      have e2 : pI (pset B I) (td + 8) n = nI a := ea
      rw [e2]
      exact ⟨hq.1, va (d - 1) _ (by omega) ⟨_, rfl, hK⟩⟩
    · obtain ⟨v, pa, va⟩ := ih a s1 ha
      obtain ⟨u, pc, vc⟩ := ih c s2 hc
      rcases e with e | e | e | e | e | e
      · refine ⟨_, (by rw [e]; exact pa.two pc (by decide)), fun d K hd hK => ?_⟩
        refine CP_go (by omega) okX13_reckon (Nat.le_of_ble_eq_true rfl) ?_
        refine bX13_reckon_0 ⟨hq.1, td, p8, sb.1, td + 8, sb.2.1.2.2.2.2.2.2.2.1, 401, sb.2.2.2.2.2.2.2.2.2.1, vn, hq.1, td, p8, sb.1, td + 9, sb.2.1.2.2.2.2.2.2.2.2.1, 401, sb.2.2.2.2.2.2.2.2.2.2.1, vn, hq.1, td, p8, sb.1, td + 7, sb.2.1.2.2.2.2.2.2.1, 401, sb.2.2.2.2.2.2.2.2.1, vn, ?_⟩
        rw [cn]
        have e' : pI (pset B I) (td + 7) n = 17 := e
        rw [e']
        iterate 5 refine ⟨fun z => absurd z (by decide), fun _ => ?_⟩
        refine ⟨fun _ => ?_, fun z => absurd rfl z⟩
        have e2 : pI (pset B I) (td + 8) n = nI a := ea
        have e3 : pI (pset B I) (td + 9) n = nI c := ec
        rw [e2, e3]
        exact ⟨hq.1, va (d - 1) _ (by omega) ⟨hq.1, vc (d - 1) _ (by omega) ⟨_, rfl, hK⟩⟩⟩
      · refine ⟨_, (by rw [e]; exact pa.two pc (by decide)), fun d K hd hK => ?_⟩
        refine CP_go (by omega) okX13_reckon (Nat.le_of_ble_eq_true rfl) ?_
        refine bX13_reckon_0 ⟨hq.1, td, p8, sb.1, td + 8, sb.2.1.2.2.2.2.2.2.2.1, 401, sb.2.2.2.2.2.2.2.2.2.1, vn, hq.1, td, p8, sb.1, td + 9, sb.2.1.2.2.2.2.2.2.2.2.1, 401, sb.2.2.2.2.2.2.2.2.2.2.1, vn, hq.1, td, p8, sb.1, td + 7, sb.2.1.2.2.2.2.2.2.1, 401, sb.2.2.2.2.2.2.2.2.1, vn, ?_⟩
        rw [cn]
        have e' : pI (pset B I) (td + 7) n = 18 := e
        rw [e']
        iterate 6 refine ⟨fun z => absurd z (by decide), fun _ => ?_⟩
        refine ⟨fun _ => ?_, fun z => absurd rfl z⟩
        have e2 : pI (pset B I) (td + 8) n = nI a := ea
        have e3 : pI (pset B I) (td + 9) n = nI c := ec
        rw [e2, e3]
        exact ⟨hq.1, va (d - 1) _ (by omega) ⟨hq.1, vc (d - 1) _ (by omega) ⟨_, rfl, hK⟩⟩⟩
      · refine ⟨_, (by rw [e]; exact pa.two pc (by decide)), fun d K hd hK => ?_⟩
        refine CP_go (by omega) okX13_reckon (Nat.le_of_ble_eq_true rfl) ?_
        refine bX13_reckon_0 ⟨hq.1, td, p8, sb.1, td + 8, sb.2.1.2.2.2.2.2.2.2.1, 401, sb.2.2.2.2.2.2.2.2.2.1, vn, hq.1, td, p8, sb.1, td + 9, sb.2.1.2.2.2.2.2.2.2.2.1, 401, sb.2.2.2.2.2.2.2.2.2.2.1, vn, hq.1, td, p8, sb.1, td + 7, sb.2.1.2.2.2.2.2.2.1, 401, sb.2.2.2.2.2.2.2.2.1, vn, ?_⟩
        rw [cn]
        have e' : pI (pset B I) (td + 7) n = 42 := e
        rw [e']
        iterate 8 refine ⟨fun z => absurd z (by decide), fun _ => ?_⟩
        refine ⟨fun _ => ?_, fun z => absurd rfl z⟩
        have e2 : pI (pset B I) (td + 8) n = nI a := ea
        have e3 : pI (pset B I) (td + 9) n = nI c := ec
        rw [e2, e3]
        exact ⟨hq.1, va (d - 1) _ (by omega) ⟨hq.1, vc (d - 1) _ (by omega) ⟨_, rfl, hK⟩⟩⟩
      · refine ⟨_, (by rw [e]; exact pa.two pc (by decide)), fun d K hd hK => ?_⟩
        refine CP_go (by omega) okX13_reckon (Nat.le_of_ble_eq_true rfl) ?_
        refine bX13_reckon_0 ⟨hq.1, td, p8, sb.1, td + 8, sb.2.1.2.2.2.2.2.2.2.1, 401, sb.2.2.2.2.2.2.2.2.2.1, vn, hq.1, td, p8, sb.1, td + 9, sb.2.1.2.2.2.2.2.2.2.2.1, 401, sb.2.2.2.2.2.2.2.2.2.2.1, vn, hq.1, td, p8, sb.1, td + 7, sb.2.1.2.2.2.2.2.2.1, 401, sb.2.2.2.2.2.2.2.2.1, vn, ?_⟩
        rw [cn]
        have e' : pI (pset B I) (td + 7) n = 47 := e
        rw [e']
        iterate 10 refine ⟨fun z => absurd z (by decide), fun _ => ?_⟩
        refine ⟨fun _ => ?_, fun z => absurd rfl z⟩
        have e2 : pI (pset B I) (td + 8) n = nI a := ea
        have e3 : pI (pset B I) (td + 9) n = nI c := ec
        rw [e2, e3]
        exact ⟨hq.1, va (d - 1) _ (by omega) ⟨hq.1, vc (d - 1) _ (by omega) (c_mparts (by omega) ⟨_, rfl, hK⟩)⟩⟩
      · refine ⟨_, (by rw [e]; exact pa.two pc (by decide)), fun d K hd hK => ?_⟩
        refine CP_go (by omega) okX13_reckon (Nat.le_of_ble_eq_true rfl) ?_
        refine bX13_reckon_0 ⟨hq.1, td, p8, sb.1, td + 8, sb.2.1.2.2.2.2.2.2.2.1, 401, sb.2.2.2.2.2.2.2.2.2.1, vn, hq.1, td, p8, sb.1, td + 9, sb.2.1.2.2.2.2.2.2.2.2.1, 401, sb.2.2.2.2.2.2.2.2.2.2.1, vn, hq.1, td, p8, sb.1, td + 7, sb.2.1.2.2.2.2.2.2.1, 401, sb.2.2.2.2.2.2.2.2.1, vn, ?_⟩
        rw [cn]
        have e' : pI (pset B I) (td + 7) n = 45 := e
        rw [e']
        iterate 9 refine ⟨fun z => absurd z (by decide), fun _ => ?_⟩
        refine ⟨fun _ => ?_, fun z => absurd rfl z⟩
        have e2 : pI (pset B I) (td + 8) n = nI a := ea
        have e3 : pI (pset B I) (td + 9) n = nI c := ec
        rw [e2, e3]
        exact ⟨hq.1, va (d - 1) _ (by omega) ⟨hq.1, vc (d - 1) _ (by omega) ⟨_, rfl, hK⟩⟩⟩
      · refine ⟨_, (by rw [e]; exact pa.two pc (by decide)), fun d K hd hK => ?_⟩
        refine CP_go (by omega) okX13_reckon (Nat.le_of_ble_eq_true rfl) ?_
        refine bX13_reckon_0 ⟨hq.1, td, p8, sb.1, td + 8, sb.2.1.2.2.2.2.2.2.2.1, 401, sb.2.2.2.2.2.2.2.2.2.1, vn, hq.1, td, p8, sb.1, td + 9, sb.2.1.2.2.2.2.2.2.2.2.1, 401, sb.2.2.2.2.2.2.2.2.2.2.1, vn, hq.1, td, p8, sb.1, td + 7, sb.2.1.2.2.2.2.2.2.1, 401, sb.2.2.2.2.2.2.2.2.1, vn, ?_⟩
        rw [cn]
        have e' : pI (pset B I) (td + 7) n = 43 := e
        rw [e']
        iterate 12 refine ⟨fun z => absurd z (by decide), fun _ => ?_⟩
        have e2 : pI (pset B I) (td + 8) n = nI a := ea
        have e3 : pI (pset B I) (td + 9) n = nI c := ec
        rw [e2, e3]
        exact ⟨hq.1, va (d - 1) _ (by omega) ⟨hq.1, vc (d - 1) _ (by omega) ⟨_, rfl, hK⟩⟩⟩
theorem c_misBegun {d : Nat} (hd : 1 ≤ d) {B : pM} {I : pIm} {r td dr fr : Nat} {l : List Int32} {hn : List Int32 × Int32 × Int32 × Int32} {K : Int32 → pM → Prop} (hq : mdS B r td dr) (hh : mhD I r hn) (h2 : fr + l.length ≤ 2000) (ht : ∀ k x, l[k]? = some x → I (td + 10) (fr + k) = x) (h : K (bI (l <+: hn.1)) (pset B I)) : pCall_i d mX13_isBegun (0, 0) [.ref r, .int (nI fr), .int (nI l.length)] (pset B I) K := by
  refine CP_go hd okX13_isBegun (Nat.le_of_ble_eq_true rfl) ?_
  have sb := hq.2.2.2.2.1
  have p8 := hq.2.1.2.2.2.2.2.1
  have p17 := hq.2.2.1.2.2.1
  have K30 := hq.2.2.2.1.2.2.2.2.2.2.2.1
  obtain ⟨k1, k2, k3, -⟩ := hh
  have e18 : pI (pset B I) r 18 = nI hn.1.length := k1
  refine bX13_isBegun_0 ⟨hq.1, fun g => ?_, fun g => ⟨_, rfl, ?_⟩⟩
  · rw [e18] at g
    have hle : l.length ≤ hn.1.length := (nI_leI (by omega) (by omega)).mp g
    have key : ∀ (m k : Nat), l.length - k = m → k ≤ l.length → (∀ j, j < k → l[j]? = hn.1[j]?) → Go (d - 1) mX13_isBegun (fun r M1 => ∃ v, r = .inl (some (.int v)) ∧ K v M1) 12 ([some (.ref r), some (.int (nI fr)), some (.int (nI l.length)), some (.int (nI k))], [], 0, 0) (pset B I) := by
      intro m
      induction m with
      | zero =>
        intro k hm hk hs
        refine bX13_isBegun_12 ⟨fun _ => ⟨_, rfl, ?_⟩, fun g2 => absurd (nI_le (by omega) (by omega)) g2⟩
        rw [bI_t ?_] at h
        · exact h
        · rw [List.prefix_iff_eq_take]
          apply List.ext_getElem?
          intro j
          rw [List.getElem?_take]
          by_cases c : j < l.length
          · rw [if_pos c]; exact hs j (by omega)
          · rw [if_neg c, List.getElem?_eq_none (by omega)]
      | succ m ih =>
        intro k hm hk hs
        have hkl : k < l.length := by omega
        have e1 := List.getElem?_eq_getElem hkl
        have e2 : hn.1[k]? = some (hn.1[k]'(by omega)) := List.getElem?_eq_getElem (by omega)
        refine bX13_isBegun_12 ⟨fun g2 => absurd ((nI_leI (by omega) (by omega)).mp g2) (by omega), fun _ => ⟨hq.1, r + 30, p17, 20, K30, vp_inN (by omega) (by omega), hq.1, td, p8, sb.1, td + 10, sb.2.1.2.2.2.2.2.2.2.2.2, 2000, sb.2.2.2.2.2.2.2.2.2.2.2, ?_, ?_⟩⟩
        · rw [nI_add]; exact vp_inN (by omega) (by omega)
        · rw [nI_add, nI_clamp (by omega), nI_clamp (by omega), nI_1]
          have f1 : pI (pset B I) (r + 30) k = hn.1[k]'(by omega) := k3 k _ e2
          have f2 : pI (pset B I) (td + 10) (fr + k) = l[k] := ht k _ e1
          rw [f1, f2]
          refine ⟨fun g3 => ih (k + 1) (by omega) (by omega) (fun j hj => ?_), fun g3 => ⟨_, rfl, ?_⟩⟩
          · by_cases c : j = k
            · subst c; rw [e1, e2, g3]
            · exact hs j (by omega)
          · rw [bI_f ?_] at h
            · exact h
            · intro z
              rw [List.prefix_iff_eq_take] at z
              have := congrArg (fun x => x[k]?) z
              simp only [List.getElem?_take, if_pos hkl] at this
              rw [e1, e2] at this
              exact g3 (Option.some.inj this).symm
    exact key _ 0 rfl (by omega) (fun j hj => absurd hj (by omega))
  · rw [e18] at g
    rw [bI_f (fun z => g (nI_le z.length_le (by omega)))] at h
    exact h
theorem two01 {k u v : Int32} : (if holdsI k v u = 0 then (0 : Int32) else 1) = 0 ∨ (if holdsI k v u = 0 then (0 : Int32) else 1) = 1 := by
  split
  · exact Or.inl rfl
  · exact Or.inr rfl
theorem m_holds {B : pM} {I : pIm} {r td dr : Nat} {b : bK} {hn : List Int32 × Int32 × Int32 × Int32} {far : Int32} (hq : mdS B r td dr) (hb : mbD I td b) (hh : mhD I r hn) {nw : Nat} (hnw : nw ≤ b.2.1.length) : ∀ (f n : Nat) (s : List pS), ndT (I (td + 7)) (I (td + 8)) (I (td + 9)) (I (td + 10)) nw f n s → ∃ v, (v = 0 ∨ v = 1) ∧ puts (envB b hn.1 hn.2.1 hn.2.2.1 hn.2.2.2 far) s v ∧ nodeC mX13_holds f B I r n far v := by
  have sb := hq.2.2.2.2.1
  have p8 := hq.2.1.2.2.2.2.2.1
  have h40 := hb.2.2.2.2.2.1.2.1
  obtain ⟨k1, k2, k3, k4, k5, k6⟩ := id hh
  intro f
  induction f with
  | zero => intro n s h; exact h.elim
  | succ f ih =>
    intro n s h
    obtain ⟨hn4, h⟩ := h
    have vn : vp_in (nI n) 401 := vp_inN (by omega) (by omega)
    have cn : (nI n).toNatClampNeg = n := nI_clamp (by omega)
    rcases h with ⟨e, rfl⟩ | ⟨e, fr, l, ea, ec, h2, ht, rfl⟩ | ⟨e, a, s1, ea, ha, rfl⟩ | ⟨e, a, c, s1, s2, ea, ec, ha, hc, rfl⟩ | ⟨e, a, c, s1, s2, ea, ec, ha, hc, rfl⟩
    · refine ⟨if hn.2.2.1 = I (td + 8) n then 1 else 0, by split; exact Or.inr rfl; exact Or.inl rfl, puts.one (fun st => rfl), fun d K hd hK => ?_⟩
      refine CP_go (by omega) okX13_holds (Nat.le_of_ble_eq_true rfl) ?_
      refine bX13_holds_0 ⟨hq.1, td, p8, sb.1, td + 8, sb.2.1.2.2.2.2.2.2.2.1, 401, sb.2.2.2.2.2.2.2.2.2.1, vn, hq.1, td, p8, sb.1, td + 9, sb.2.1.2.2.2.2.2.2.2.2.1, 401, sb.2.2.2.2.2.2.2.2.2.2.1, vn, hq.1, td, p8, sb.1, td + 7, sb.2.1.2.2.2.2.2.2.1, 401, sb.2.2.2.2.2.2.2.2.1, vn, ?_⟩
      rw [cn]
      have e' : pI (pset B I) (td + 7) n = 12 := e
      rw [e']
      refine ⟨fun _ => ?_, fun z => absurd rfl z⟩
      have e2 : pI (pset B I) r 20 = hn.2.2.1 := k5
      rw [e2]
      have hK' : K (if hn.2.2.1 = I (td + 8) n then 1 else 0) (pset B I) := hK
      exact ⟨hq.1, fun g => ⟨_, rfl, by rw [if_pos (show hn.2.2.1 = I (td + 8) n from g)] at hK'; exact hK'⟩, fun g => ⟨_, rfl, by rw [if_neg (show ¬ hn.2.2.1 = I (td + 8) n from g)] at hK'; exact hK'⟩⟩
    · refine ⟨_, bI_01, puts.one (fun st => rfl), fun d K hd hK => ?_⟩
      refine CP_go (by omega) okX13_holds (Nat.le_of_ble_eq_true rfl) ?_
      refine bX13_holds_0 ⟨hq.1, td, p8, sb.1, td + 8, sb.2.1.2.2.2.2.2.2.2.1, 401, sb.2.2.2.2.2.2.2.2.2.1, vn, hq.1, td, p8, sb.1, td + 9, sb.2.1.2.2.2.2.2.2.2.2.1, 401, sb.2.2.2.2.2.2.2.2.2.2.1, vn, hq.1, td, p8, sb.1, td + 7, sb.2.1.2.2.2.2.2.2.1, 401, sb.2.2.2.2.2.2.2.2.1, vn, ?_⟩
      rw [cn]
      have e' : pI (pset B I) (td + 7) n = 13 := e
      rw [e']
      iterate 1 refine ⟨fun z => absurd z (by decide), fun _ => ?_⟩
      refine ⟨fun _ => ?_, fun z => absurd rfl z⟩
      have e2 : pI (pset B I) (td + 8) n = nI fr := ea
      have e3 : pI (pset B I) (td + 9) n = nI l.length := ec
      rw [e2, e3]
      exact ⟨hq.1, c_misBegun (by omega) hq hh h2 ht ⟨bI_01, _, rfl, hK⟩⟩
    · obtain ⟨v, v01, pa, va⟩ := ih a s1 ha
      refine ⟨_, (by split; exact Or.inr rfl; exact Or.inl rfl), pa.not, fun d K hd hK => ?_⟩
      refine CP_go (by omega) okX13_holds (Nat.le_of_ble_eq_true rfl) ?_
      refine bX13_holds_0 ⟨hq.1, td, p8, sb.1, td + 8, sb.2.1.2.2.2.2.2.2.2.1, 401, sb.2.2.2.2.2.2.2.2.2.1, vn, hq.1, td, p8, sb.1, td + 9, sb.2.1.2.2.2.2.2.2.2.2.1, 401, sb.2.2.2.2.2.2.2.2.2.2.1, vn, hq.1, td, p8, sb.1, td + 7, sb.2.1.2.2.2.2.2.2.1, 401, sb.2.2.2.2.2.2.2.2.1, vn, ?_⟩
      rw [cn]
      have e' : pI (pset B I) (td + 7) n = 14 := e
      rw [e']
      iterate 2 refine ⟨fun z => absurd z (by decide), fun _ => ?_⟩
      refine ⟨fun _ => ?_, fun z => absurd rfl z⟩
      have e2 : pI (pset B I) (td + 8) n = nI a := ea
      rw [e2]
      refine ⟨hq.1, va (d - 1) _ (by omega) ⟨fun g => ⟨_, rfl, ?_⟩, fun g => ⟨_, rfl, ?_⟩⟩⟩
      · rw [if_pos g] at hK; exact hK
      · rw [if_neg g] at hK; exact hK
    · obtain ⟨v, v01, pa, va⟩ := ih a s1 ha
      obtain ⟨u, u01, pc, vc⟩ := ih c s2 hc
      rcases e with e | e
      · refine ⟨_, two01 (k := 15) (u := u) (v := v), (by rw [e]; exact pa.two pc (by decide)), fun d K hd hK => ?_⟩
        refine CP_go (by omega) okX13_holds (Nat.le_of_ble_eq_true rfl) ?_
        refine bX13_holds_0 ⟨hq.1, td, p8, sb.1, td + 8, sb.2.1.2.2.2.2.2.2.2.1, 401, sb.2.2.2.2.2.2.2.2.2.1, vn, hq.1, td, p8, sb.1, td + 9, sb.2.1.2.2.2.2.2.2.2.2.1, 401, sb.2.2.2.2.2.2.2.2.2.2.1, vn, hq.1, td, p8, sb.1, td + 7, sb.2.1.2.2.2.2.2.2.1, 401, sb.2.2.2.2.2.2.2.2.1, vn, ?_⟩
        rw [cn]
        have e' : pI (pset B I) (td + 7) n = 15 := e
        rw [e']
        iterate 3 refine ⟨fun z => absurd z (by decide), fun _ => ?_⟩
        refine ⟨fun _ => ?_, fun z => absurd rfl z⟩
        have e2 : pI (pset B I) (td + 8) n = nI a := ea
        have e3 : pI (pset B I) (td + 9) n = nI c := ec
        rw [e2, e3]
        refine ⟨hq.1, va (d - 1) _ (by omega) ⟨hq.1, vc (d - 1) _ (by omega) ⟨?_, _, rfl, ?_⟩⟩⟩
        · rcases v01 with rfl | rfl <;> rcases u01 with rfl | rfl <;> decide
        · rcases v01 with rfl | rfl <;> rcases u01 with rfl | rfl <;> exact hK
      · refine ⟨_, two01 (k := 16) (u := u) (v := v), (by rw [e]; exact pa.two pc (by decide)), fun d K hd hK => ?_⟩
        refine CP_go (by omega) okX13_holds (Nat.le_of_ble_eq_true rfl) ?_
        refine bX13_holds_0 ⟨hq.1, td, p8, sb.1, td + 8, sb.2.1.2.2.2.2.2.2.2.1, 401, sb.2.2.2.2.2.2.2.2.2.1, vn, hq.1, td, p8, sb.1, td + 9, sb.2.1.2.2.2.2.2.2.2.2.1, 401, sb.2.2.2.2.2.2.2.2.2.2.1, vn, hq.1, td, p8, sb.1, td + 7, sb.2.1.2.2.2.2.2.2.1, 401, sb.2.2.2.2.2.2.2.2.1, vn, ?_⟩
        rw [cn]
        have e' : pI (pset B I) (td + 7) n = 16 := e
        rw [e']
        iterate 4 refine ⟨fun z => absurd z (by decide), fun _ => ?_⟩
        refine ⟨fun _ => ?_, fun z => absurd rfl z⟩
        have e2 : pI (pset B I) (td + 8) n = nI a := ea
        have e3 : pI (pset B I) (td + 9) n = nI c := ec
        rw [e2, e3]
        refine ⟨hq.1, va (d - 1) _ (by omega) ⟨hq.1, vc (d - 1) _ (by omega) ⟨?_, _, rfl, ?_⟩⟩⟩
        · rcases v01 with rfl | rfl <;> rcases u01 with rfl | rfl <;> decide
        · rcases v01 with rfl | rfl <;> rcases u01 with rfl | rfl <;> exact hK
    · obtain ⟨v, pa, va⟩ := m_reckon (far := far) hq hb hh hnw f a s1 ha
      obtain ⟨u, pc, vc⟩ := m_reckon (far := far) hq hb hh hnw f c s2 hc
      rcases e with e | e | e | e | e
      · refine ⟨_, (two01 (k := 60) (u := u) (v := v)), (by rw [e]; exact pa.two pc (by decide)), fun d K hd hK => ?_⟩
        refine CP_go (by omega) okX13_holds (Nat.le_of_ble_eq_true rfl) ?_
        refine bX13_holds_0 ⟨hq.1, td, p8, sb.1, td + 8, sb.2.1.2.2.2.2.2.2.2.1, 401, sb.2.2.2.2.2.2.2.2.2.1, vn, hq.1, td, p8, sb.1, td + 9, sb.2.1.2.2.2.2.2.2.2.2.1, 401, sb.2.2.2.2.2.2.2.2.2.2.1, vn, hq.1, td, p8, sb.1, td + 7, sb.2.1.2.2.2.2.2.2.1, 401, sb.2.2.2.2.2.2.2.2.1, vn, ?_⟩
        rw [cn]
        have e' : pI (pset B I) (td + 7) n = 60 := e
        rw [e']
        iterate 5 refine ⟨fun z => absurd z (by decide), fun _ => ?_⟩
        refine ⟨fun _ => ?_, fun z => absurd rfl z⟩
        have e2 : pI (pset B I) (td + 8) n = nI a := ea
        have e3 : pI (pset B I) (td + 9) n = nI c := ec
        rw [e2, e3]
        have hK' : K (if (if u ≤ v then (0 : Int32) else 1) = 0 then 0 else 1) (pset B I) := hK
        refine ⟨hq.1, va (d - 1) _ (by omega) ⟨hq.1, vc (d - 1) _ (by omega) ⟨fun g => ⟨_, rfl, ?_⟩, fun g => ⟨_, rfl, ?_⟩⟩⟩⟩
        · rw [if_pos g] at hK'; exact hK'
        · rw [if_neg g] at hK'; exact hK'
      · refine ⟨_, (two01 (k := 62) (u := u) (v := v)), (by rw [e]; exact pa.two pc (by decide)), fun d K hd hK => ?_⟩
        refine CP_go (by omega) okX13_holds (Nat.le_of_ble_eq_true rfl) ?_
        refine bX13_holds_0 ⟨hq.1, td, p8, sb.1, td + 8, sb.2.1.2.2.2.2.2.2.2.1, 401, sb.2.2.2.2.2.2.2.2.2.1, vn, hq.1, td, p8, sb.1, td + 9, sb.2.1.2.2.2.2.2.2.2.2.1, 401, sb.2.2.2.2.2.2.2.2.2.2.1, vn, hq.1, td, p8, sb.1, td + 7, sb.2.1.2.2.2.2.2.2.1, 401, sb.2.2.2.2.2.2.2.2.1, vn, ?_⟩
        rw [cn]
        have e' : pI (pset B I) (td + 7) n = 62 := e
        rw [e']
        iterate 6 refine ⟨fun z => absurd z (by decide), fun _ => ?_⟩
        refine ⟨fun _ => ?_, fun z => absurd rfl z⟩
        have e2 : pI (pset B I) (td + 8) n = nI a := ea
        have e3 : pI (pset B I) (td + 9) n = nI c := ec
        rw [e2, e3]
        have hK' : K (if (if v ≤ u then (0 : Int32) else 1) = 0 then 0 else 1) (pset B I) := hK
        refine ⟨hq.1, va (d - 1) _ (by omega) ⟨hq.1, vc (d - 1) _ (by omega) ⟨fun g => ⟨_, rfl, ?_⟩, fun g => ⟨_, rfl, ?_⟩⟩⟩⟩
        · rw [if_pos g] at hK'; exact hK'
        · rw [if_neg g] at hK'; exact hK'
      · refine ⟨_, (two01 (k := 61) (u := u) (v := v)), (by rw [e]; exact pa.two pc (by decide)), fun d K hd hK => ?_⟩
        refine CP_go (by omega) okX13_holds (Nat.le_of_ble_eq_true rfl) ?_
        refine bX13_holds_0 ⟨hq.1, td, p8, sb.1, td + 8, sb.2.1.2.2.2.2.2.2.2.1, 401, sb.2.2.2.2.2.2.2.2.2.1, vn, hq.1, td, p8, sb.1, td + 9, sb.2.1.2.2.2.2.2.2.2.2.1, 401, sb.2.2.2.2.2.2.2.2.2.2.1, vn, hq.1, td, p8, sb.1, td + 7, sb.2.1.2.2.2.2.2.2.1, 401, sb.2.2.2.2.2.2.2.2.1, vn, ?_⟩
        rw [cn]
        have e' : pI (pset B I) (td + 7) n = 61 := e
        rw [e']
        iterate 9 refine ⟨fun z => absurd z (by decide), fun _ => ?_⟩
        have e2 : pI (pset B I) (td + 8) n = nI a := ea
        have e3 : pI (pset B I) (td + 9) n = nI c := ec
        rw [e2, e3]
        have hK' : K (if (if v = u then (1 : Int32) else 0) = 0 then 0 else 1) (pset B I) := hK
        refine ⟨hq.1, va (d - 1) _ (by omega) ⟨hq.1, vc (d - 1) _ (by omega) ⟨fun g => ⟨_, rfl, ?_⟩, fun g => ⟨_, rfl, ?_⟩⟩⟩⟩
        · rw [if_pos g] at hK'; exact hK'
        · rw [if_neg g] at hK'; exact hK'
      · refine ⟨_, (two01 (k := 22) (u := u) (v := v)), (by rw [e]; exact pa.two pc (by decide)), fun d K hd hK => ?_⟩
        refine CP_go (by omega) okX13_holds (Nat.le_of_ble_eq_true rfl) ?_
        refine bX13_holds_0 ⟨hq.1, td, p8, sb.1, td + 8, sb.2.1.2.2.2.2.2.2.2.1, 401, sb.2.2.2.2.2.2.2.2.2.1, vn, hq.1, td, p8, sb.1, td + 9, sb.2.1.2.2.2.2.2.2.2.2.1, 401, sb.2.2.2.2.2.2.2.2.2.2.1, vn, hq.1, td, p8, sb.1, td + 7, sb.2.1.2.2.2.2.2.2.1, 401, sb.2.2.2.2.2.2.2.2.1, vn, ?_⟩
        rw [cn]
        have e' : pI (pset B I) (td + 7) n = 108 := e
        rw [e']
        iterate 8 refine ⟨fun z => absurd z (by decide), fun _ => ?_⟩
        refine ⟨fun _ => ?_, fun z => absurd rfl z⟩
        have e2 : pI (pset B I) (td + 8) n = nI a := ea
        have e3 : pI (pset B I) (td + 9) n = nI c := ec
        rw [e2, e3]
        have hK' : K (if (if u < v then (0 : Int32) else 1) = 0 then 0 else 1) (pset B I) := hK
        refine ⟨hq.1, va (d - 1) _ (by omega) ⟨hq.1, vc (d - 1) _ (by omega) ⟨fun g => ⟨_, rfl, ?_⟩, fun g => ⟨_, rfl, ?_⟩⟩⟩⟩
        · rw [if_pos g] at hK'; exact hK'
        · rw [if_neg g] at hK'; exact hK'
      · refine ⟨_, (two01 (k := 23) (u := u) (v := v)), (by rw [e]; exact pa.two pc (by decide)), fun d K hd hK => ?_⟩
        refine CP_go (by omega) okX13_holds (Nat.le_of_ble_eq_true rfl) ?_
        refine bX13_holds_0 ⟨hq.1, td, p8, sb.1, td + 8, sb.2.1.2.2.2.2.2.2.2.1, 401, sb.2.2.2.2.2.2.2.2.2.1, vn, hq.1, td, p8, sb.1, td + 9, sb.2.1.2.2.2.2.2.2.2.2.1, 401, sb.2.2.2.2.2.2.2.2.2.2.1, vn, hq.1, td, p8, sb.1, td + 7, sb.2.1.2.2.2.2.2.2.1, 401, sb.2.2.2.2.2.2.2.2.1, vn, ?_⟩
        rw [cn]
        have e' : pI (pset B I) (td + 7) n = 103 := e
        rw [e']
        iterate 7 refine ⟨fun z => absurd z (by decide), fun _ => ?_⟩
        refine ⟨fun _ => ?_, fun z => absurd rfl z⟩
        have e2 : pI (pset B I) (td + 8) n = nI a := ea
        have e3 : pI (pset B I) (td + 9) n = nI c := ec
        rw [e2, e3]
        have hK' : K (if (if v < u then (0 : Int32) else 1) = 0 then 0 else 1) (pset B I) := hK
        refine ⟨hq.1, va (d - 1) _ (by omega) ⟨hq.1, vc (d - 1) _ (by omega) ⟨fun g => ⟨_, rfl, ?_⟩, fun g => ⟨_, rfl, ?_⟩⟩⟩⟩
        · rw [if_pos g] at hK'; exact hK'
        · rw [if_neg g] at hK'; exact hK'
