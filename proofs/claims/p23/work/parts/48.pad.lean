/-! THE PAD -/
/-- tape, position of the error, book, typed, taken, latest, limit -/
abbrev wS : Type := List Int32 × Int32 × bK × List Int32 × Int32 × Int32 × Int32
def padS (B : pM) (p td dr : Nat) : Prop := pK B p = (1, 11) ∧ (pP B p 0 = (p + 1) + 1 ∧ pP B p 1 = (p + 3) + 1 ∧ pP B p 2 = td + 1 ∧ pP B p 3 = dr + 1 ∧ pP B p 4 = (p + 1111) + 1 ∧ pP B p 5 = (p + 1114) + 1 ∧ pP B p 7 = (p + 1128) + 1 ∧ pP B p 8 = (p + 1131) + 1) ∧ rowS B (p + 1) 2000 ∧ rdE B (p + 3) (p + 1) dr ∧ bookS B td ∧ handS B (p + 1111) ∧ rankS B (p + 1114) ∧ handS B (p + 1128) ∧ rankS B (p + 1131) ∧ ((td = p + 57 ∧ dr = p + 584) ∨ (td = p + 584 ∧ dr = p + 57)) ∧ p + 1145 ≤ pN B
theorem padS.ex {B C : pM} {p td dr : Nat} (h : padS B p td dr) (e : Ex B C) : padS C p td dr := by
  obtain ⟨h0, h1, h2, h3, h4, h5, h6, h7, h8, h9, h10⟩ := h
  obtain ⟨a1, a2, -⟩ := e.2 p (by omega)
  have := e.1
  exact ⟨by rw [a1]; exact h0, by rw [a2]; exact h1, h2.ex e (by omega), h3.ex e (by omega) (by omega) (by omega), h4.ex e (by omega), h5.ex e (by omega), h6.ex e (by omega), h7.ex e (by omega), h8.ex e (by omega), h9, by omega⟩
theorem padS.lay {B : pM} {p td dr : Nat} (h : padS B p td dr) : (td = p + 57 ∧ dr = p + 584) ∨ (td = p + 584 ∧ dr = p + 57) := h.2.2.2.2.2.2.2.2.2.1
def padD (I : pIm) (p td dr : Nat) (s : wS) : Prop := Rw I (p + 1) s.1 ∧ s.1.length ≤ 2000 ∧ byteL s.1 ∧ I p 9 = s.2.1 ∧ Bk I td s.2.2.1 ∧ (∃ b2, Bk I dr b2) ∧ Hd I (p + 1111) s.2.2.2.1 s.2.2.2.2.1 s.2.2.2.2.2.1 s.2.2.2.2.2.2 ∧ Nm I (p + 5) 19 keyw ∧ (I p 6 = 0 ∨ (I p 6 = 1 ∧ Rk I (p + 1114) (rkO s.2.2.1 s.2.2.2.1 s.2.2.2.2.1 s.2.2.2.2.2.1 s.2.2.2.2.2.2)))
/-- the pad, whatever the ranking is -/
def padW (I : pIm) (p td dr : Nat) (s : wS) : Prop := Rw I (p + 1) s.1 ∧ s.1.length ≤ 2000 ∧ byteL s.1 ∧ I p 9 = s.2.1 ∧ Bk I td s.2.2.1 ∧ (∃ b2, Bk I dr b2) ∧ Hd I (p + 1111) s.2.2.2.1 s.2.2.2.2.1 s.2.2.2.2.2.1 s.2.2.2.2.2.2 ∧ Nm I (p + 5) 19 keyw
theorem padD.w {I : pIm} {p td dr : Nat} {s : wS} (h : padD I p td dr s) : padW I p td dr s := ⟨h.1, h.2.1, h.2.2.1, h.2.2.2.1, h.2.2.2.2.1, h.2.2.2.2.2.1, h.2.2.2.2.2.2.1, h.2.2.2.2.2.2.2.1⟩
theorem padW.d0 {I : pIm} {p td dr : Nat} {s : wS} (h : padW I p td dr s) (h6 : I p 6 = 0) : padD I p td dr s := ⟨h.1, h.2.1, h.2.2.1, h.2.2.2.1, h.2.2.2.2.1, h.2.2.2.2.2.1, h.2.2.2.2.2.2.1, h.2.2.2.2.2.2.2, Or.inl h6⟩
/-- the ranking stands -/
def padR (I : pIm) (p : Nat) (s : wS) : Prop := Rk I (p + 1114) (rkO s.2.2.1 s.2.2.2.1 s.2.2.2.2.1 s.2.2.2.2.2.1 s.2.2.2.2.2.2)
def FrP (p : Nat) (I J : pIm) : Prop := Fr p (p + 1145) I J
theorem c_rank {d : Nat} (hd : 6 ≤ d) {B : pM} {I : pIm} {p td dr : Nat} {s : wS} {K : pM → Prop} (hq : padS B p td dr) (hl : padD I p td dr s) (h : ∀ J, padD J p td dr s → padR J p s → FrP p I J → K (pset B J)) : pCall_v d mX11_rank (0, 0) [.ref p] (pset B I) K := by
  refine CP_go (by omega) okX11_rank (Nat.le_of_ble_eq_true rfl) ?_
  have hlay := hq.lay
  obtain ⟨l1, l2, l3, l4, l5, ⟨b2, l6⟩, l7, l8, l9⟩ := id hl
  refine bX11_rank_0 ⟨hq.1, fun g => ⟨hq.1, _, hq.2.1.2.2.2.2.2.1, hq.1, _, hq.2.1.2.2.1, hq.1, _, hq.2.1.2.2.2.2.1, hq.2.2.2.2.2.2.1.1, ?_⟩, fun g => ⟨rfl, ?_⟩⟩
  · refine c_renew (by omega) hq.2.2.2.2.2.2.1 hq.2.2.2.2.1 hq.2.2.2.2.2.1 (by omega) (by omega) l5 l7 (fun J k1 f1 => ⟨hq.1, rfl, ?_⟩)
    rw [psI_set]
    have fu : Fr p (p + 1) J (u2 J p 6 1) := Fr.u (by omega) (by omega)
    refine h _ ⟨(l1.f f1 (by omega)).f fu (by omega), l2, l3, ?_, (l5.f f1 (by omega)).f fu (by omega), ⟨b2, (l6.f f1 (by omega)).f fu (by omega)⟩, (l7.f f1 (by omega)).f fu (by omega), (l8.f f1 (by omega)).f fu (by omega), Or.inr ⟨u2_same, k1.f fu (by omega)⟩⟩ (k1.f fu (by omega)) ((f1.mono (by omega) (by omega)).tr (fu.mono (by omega) (by omega)))
    rw [u2_j (by decide), f1 p (by omega)]
    exact l4
  · rcases l9 with e | e
    · exact absurd e g
    · exact h I hl e.2 Fr.rf
def tkB (b : bK) (tk w : Int32) : bK := (b.1, b.2.1, (if (tk + 1) - (tk + 1) / 8 * 8 = 0 then fadeL (rput b.2.2.1 w (if rat b.2.2.1 w + 5 < 9999 then rat b.2.2.1 w + 5 else 9999)) else rput b.2.2.1 w (if rat b.2.2.1 w + 5 < 9999 then rat b.2.2.1 w + 5 else 9999)), b.2.2.2)
def tkS (s : wS) (w : Int32) : wS := (s.1, s.2.1, tkB s.2.2.1 s.2.2.2.2.1 w, [], s.2.2.2.2.1 + 1, w, s.2.2.2.2.2.2)
theorem c_takeWord {d : Nat} (hd : 3 ≤ d) {B : pM} {I : pIm} {p td dr : Nat} {s : wS} {w : Int32} {K : pM → Prop} (hq : padS B p td dr) (hl : padW I p td dr s) (h : ∀ J, padD J p td dr (tkS s w) → FrP p I J → K (pset B J)) : pCall_v d mX11_takeWord (0, 0) [.ref p, .int w] (pset B I) K := by
  refine CP_go (by omega) okX11_takeWord (Nat.le_of_ble_eq_true rfl) ?_
  have hlay := hq.lay
  obtain ⟨l1, l2, l3, l4, l5, ⟨b2, l6⟩, l7, l8⟩ := hl
  have hb := hq.2.2.2.2.1
  have hh := hq.2.2.2.2.2.1
  have p2 := hq.2.1.2.2.1
  have p4 := hq.2.1.2.2.2.2.1
  refine bX11_takeWord_0 ⟨hq.1, _, p2, hb.1, _, hb.2.1.2.2.1, hq.1, _, p2, hb.1, _, hb.2.1.2.2.1, hb.2.2.2.2.1.1, c_at (by omega) hb.2.2.2.2.1 l5.2.2.2.2.2.2.1 l5.2.2.1 ⟨hb.2.2.2.2.1.1, c_put (by omega) hb.2.2.2.2.1 l5.2.2.2.2.2.2.1 l5.2.2.1 (fun J1 k1 f1 => ⟨hq.1, _, p4, hh.1, hh.1, hq.1, _, p4, hh.1, hq.1, _, p4, hh.1, _, hh.2.1, hh.2.2.1, ?_⟩)⟩⟩
  have lb1 := l5.u3 (f1.mono (by omega) (by omega)) k1 (by rw [rput_len]; exact l5.2.2.2.2.2.2.1)
  obtain ⟨m1, m2, m3, m4, m5⟩ := l7.f f1 (by omega)
  have e3 : pI (pset B J1) (p + 1111) 1 = s.2.2.2.2.1 := m3
  rw [e3, psI_set, psI_set]
  have fu : Fr (p + 1111) (p + 1112) J1 (u2 (u2 J1 (p + 1111) 1 (s.2.2.2.2.1 + 1)) (p + 1111) 2 w) := Fr.tr (Fr.u (by omega) (by omega)) (Fr.u (by omega) (by omega))
  refine c_clear (by omega) hh.2.2 (fun J2 k2 f2 => ⟨hq.1, _, p4, hh.1, ?_⟩)
  have e5 : J2 (p + 1111) = u2 (u2 J1 (p + 1111) 1 (s.2.2.2.2.1 + 1)) (p + 1111) 2 w (p + 1111) := f2 (p + 1111) (by omega)
  have e6 : pI (pset B J2) (p + 1111) 1 = s.2.2.2.2.1 + 1 := by
    show J2 (p + 1111) 1 = _
    rw [e5, u2_j (by decide), u2_same]
  rw [e6]
  have F2 : Fr (p + 1111) (p + 1113) J1 J2 := (fu.mono (by omega) (by omega)).tr (f2.mono (by omega) (by omega))
  have hd2 : Hd J2 (p + 1111) [] (s.2.2.2.2.1 + 1) w s.2.2.2.2.2.2 := by
    refine ⟨k2, by simp, ?_, ?_, ?_⟩
    · rw [e5, u2_j (by decide), u2_same]
    · rw [e5, u2_same]
    · rw [e5, u2_j (by decide), u2_j (by decide)]; exact m5
  have fin : ∀ (J : pIm) (x : List Int32), Bk J td (s.2.2.1.1, s.2.2.1.2.1, x, s.2.2.1.2.2.2) → Fr td (td + 527) J2 J → (tkB s.2.2.1 s.2.2.2.2.1 w) = (s.2.2.1.1, s.2.2.1.2.1, x, s.2.2.1.2.2.2) → K (pset B (u2 J p 6 0)) := by
    intro J x kb fJ ex
    have fw : Fr p (p + 1) J (u2 J p 6 0) := Fr.u (by omega) (by omega)
    refine h _ ⟨(((l1.f f1 (by omega)).f F2 (by omega)).f fJ (by omega)).f fw (by omega), l2, l3, ?_, ?_, ⟨b2, (((l6.f f1 (by omega)).f F2 (by omega)).f fJ (by omega)).f fw (by omega)⟩, (hd2.f fJ (by omega)).f fw (by omega), (((l8.f f1 (by omega)).f F2 (by omega)).f fJ (by omega)).f fw (by omega), Or.inl u2_same⟩ ((((f1.mono (by omega) (by omega)).tr (F2.mono (by omega) (by omega))).tr (fJ.mono (by omega) (by omega))).tr (fw.mono (by omega) (by omega)))
    · rw [u2_j (by decide), fJ p (by omega), F2 p (by omega), f1 p (by omega)]
      exact l4
    · show Bk _ td (tkB s.2.2.1 s.2.2.2.2.1 w)
      rw [ex]
      exact kb.f fw (by omega)
  refine ⟨fun g => ⟨hq.1, _, p2, hb.1, c_fade (by omega) hb (lb1.f F2 (by omega)) (fun J3 k3 f3 => ⟨hq.1, rfl, ?_⟩)⟩, fun g => ⟨hq.1, rfl, ?_⟩⟩
  · rw [psI_set]
    exact fin J3 _ k3 f3 (by unfold tkB; rw [if_pos g])
  · rw [psI_set]
    exact fin J2 _ (lb1.f F2 (by omega)) Fr.rf (by unfold tkB; rw [if_neg g])
/-- the pad's figures -/
def figI (s : wS) (k : Int32) : Int32 :=
  if k = 0 then nI s.2.2.1.2.1.length else if k = 1 then nI s.2.2.1.1.length else if k = 2 then s.2.2.1.2.2.2.2.1.2.2 else if k = 3 then nI s.2.2.1.2.2.2.2.2.1.length
  else if k = 4 then nI s.2.2.2.1.length else if k = 5 then s.2.2.2.2.1 else if k = 6 then s.2.2.2.2.2.2 else if k = 7 then sumI s.2.2.1.2.2.1
  else if k = 8 then (rkO s.2.2.1 s.2.2.2.1 s.2.2.2.2.1 s.2.2.2.2.2.1 s.2.2.2.2.2.2).2.2.2.2 else if k = 9 then nI (begN s.2.2.2.1 s.2.2.1.2.1) else if k = 10 then triN s.2.2.1.2.1 s.2.2.1.2.1.length
  else if k = 11 then s.2.2.2.2.2.1 else nI s.1.length
theorem c_figure {d : Nat} (hd : 5 ≤ d) {B : pM} {I : pIm} {p td dr : Nat} {s : wS} {k : Int32} {K : Int32 → pM → Prop} (hq : padS B p td dr) (hl : padD I p td dr s) (hr : padR I p s) (h : K (figI s k) (pset B I)) : pCall_i d mX11_figure (0, 0) [.ref p, .int k] (pset B I) K := by
  refine CP_go (by omega) okX11_figure (Nat.le_of_ble_eq_true rfl) ?_
  obtain ⟨l1, l2, l3, l4, l5, ⟨b2, l6⟩, l7, l8, l9⟩ := hl
  have hb := hq.2.2.2.2.1
  have hh := hq.2.2.2.2.2.1
  have p2 := hq.2.1.2.2.1
  have p4 := hq.2.1.2.2.2.2.1
  have d4 : 4 ≤ d - 1 := by omega
  have d2 : 2 ≤ d - 1 := by omega
  have d1 : 1 ≤ d - 1 := by omega
  unfold figI at h
  refine bX11_figure_0 ⟨fun g => ?_, fun g => ?_⟩
  · rw [if_pos g] at h
    exact ⟨hq.1, _, p2, hb.1, _, hb.2.1.2.1, hb.2.2.2.1.1, c_nsize d1 hb.2.2.2.1 l5.2.1 ⟨_, rfl, h⟩⟩
  rw [if_neg g] at h
  refine ⟨fun g => ?_, fun g => ?_⟩
  · rw [if_pos g] at h
    exact ⟨hq.1, _, p2, hb.1, _, hb.2.1.1, hb.2.2.1.1, c_nsize d1 hb.2.2.1 l5.1 ⟨_, rfl, h⟩⟩
  rw [if_neg g] at h
  refine ⟨fun g => ?_, fun g => ?_⟩
  · rw [if_pos g] at h
    exact ⟨hq.1, _, p2, hb.1, _, hb.2.1.2.2.2.2.1, hb.2.2.2.2.2.2.1.1, c_krows d1 hb.2.2.2.2.2.2.1 l5.2.2.2.2.1 ⟨_, rfl, h⟩⟩
  rw [if_neg g] at h
  refine ⟨fun g => ?_, fun g => ?_⟩
  · rw [if_pos g] at h
    exact ⟨hq.1, _, p2, hb.1, _, hb.2.1.2.2.2.2.2, hb.2.2.2.2.2.2.2.1, c_bsize d2 hb.2.2.2.2.2.2.2 l5.2.2.2.2.2.1 ⟨_, rfl, h⟩⟩
  rw [if_neg g] at h
  refine ⟨fun g => ?_, fun g => ?_⟩
  · rw [if_pos g] at h
    exact ⟨hq.1, _, p4, hh.1, _, hh.2.1, hh.2.2.1, c_size d1 hh.2.2 l7.1 ⟨_, rfl, h⟩⟩
  rw [if_neg g] at h
  refine ⟨fun g => ?_, fun g => ?_⟩
  · rw [if_pos g] at h
    have e : pI (pset B I) (p + 1111) 1 = s.2.2.2.2.1 := l7.2.2.1
    exact ⟨hq.1, _, p4, hh.1, _, rfl, by rw [e]; exact h⟩
  rw [if_neg g] at h
  refine ⟨fun g => ?_, fun g => ?_⟩
  · rw [if_pos g] at h
    have e : pI (pset B I) (p + 1111) 3 = s.2.2.2.2.2.2 := l7.2.2.2.2
    exact ⟨hq.1, _, p4, hh.1, _, rfl, by rw [e]; exact h⟩
  rw [if_neg g] at h
  refine ⟨fun g => ?_, fun g => ?_⟩
  · rw [if_pos g] at h
    exact ⟨hq.1, _, p2, hb.1, c_allWeights d2 hb l5 ⟨_, rfl, h⟩⟩
  rw [if_neg g] at h
  refine ⟨fun g => ?_, fun g => ?_⟩
  · rw [if_pos g] at h
    exact ⟨hq.1, _, hq.2.1.2.2.2.2.2.1, hq.2.2.2.2.2.2.1.1, c_nearWords d1 hq.2.2.2.2.2.2.1 hr ⟨_, rfl, h⟩⟩
  rw [if_neg g] at h
  refine ⟨fun g => ?_, fun g => ?_⟩
  · rw [if_pos g] at h
    exact ⟨hq.1, _, p2, hq.1, _, p4, hh.1, _, hh.2.1, hb.1, c_wordsThatBegin d4 hb l5 hh.2.2 l7.2.1 l7.1 ⟨_, rfl, h⟩⟩
  rw [if_neg g] at h
  refine ⟨fun g => ?_, fun g => ?_⟩
  · rw [if_pos g] at h
    exact ⟨hq.1, _, p2, hb.1, c_trieNodes d2 hb l5 ⟨_, rfl, h⟩⟩
  rw [if_neg g] at h
  refine ⟨fun g => ?_, fun g => ?_⟩
  · rw [if_pos g] at h
    have e : pI (pset B I) (p + 1111) 2 = s.2.2.2.2.2.1 := l7.2.2.2.1
    exact ⟨hq.1, _, p4, hh.1, _, rfl, by rw [e]; exact h⟩
  rw [if_neg g] at h
  exact ⟨hq.1, _, hq.2.1.1, hq.2.2.1.1, c_size d1 hq.2.2.1 l1 ⟨_, rfl, h⟩⟩
/-- a word's figures -/
def wfI (s : wS) (w k : Int32) : Int32 :=
  if k = 0 then rat s.2.2.1.2.2.1 w else if k = 1 then rat s.2.2.1.2.2.2.1 w else if k = 2 then nI (lat s.2.2.1.2.1 w).length
  else if k = 3 then rat (rkO s.2.2.1 s.2.2.2.1 s.2.2.2.2.1 s.2.2.2.2.2.1 s.2.2.2.2.2.2).1 w else if k = 4 then rat (rkO s.2.2.1 s.2.2.2.1 s.2.2.2.2.1 s.2.2.2.2.2.1 s.2.2.2.2.2.2).2.1 w else rat (rkO s.2.2.1 s.2.2.2.1 s.2.2.2.2.1 s.2.2.2.2.2.1 s.2.2.2.2.2.2).2.2.1 w
theorem c_wordFigure {d : Nat} (hd : 3 ≤ d) {B : pM} {I : pIm} {p td dr : Nat} {s : wS} {w k : Int32} {K : Int32 → pM → Prop} (hq : padS B p td dr) (hl : padD I p td dr s) (hr : padR I p s) (h : K (wfI s w k) (pset B I)) : pCall_i d mX11_wordFigure (0, 0) [.ref p, .int w, .int k] (pset B I) K := by
  refine CP_go (by omega) okX11_wordFigure (Nat.le_of_ble_eq_true rfl) ?_
  obtain ⟨l1, l2, l3, l4, l5, ⟨b2, l6⟩, l7, l8, l9⟩ := hl
  have hb := hq.2.2.2.2.1
  have hk := hq.2.2.2.2.2.2.1
  have p2 := hq.2.1.2.2.1
  have p5 := hq.2.1.2.2.2.2.2.1
  have d2 : 2 ≤ d - 1 := by omega
  have d1 : 1 ≤ d - 1 := by omega
  unfold wfI at h
  refine bX11_wordFigure_0 ⟨fun g => ?_, fun g => ?_⟩
  · rw [if_pos g] at h
    exact ⟨hq.1, _, p2, hb.1, _, hb.2.1.2.2.1, hb.2.2.2.2.1.1, c_at d1 hb.2.2.2.2.1 l5.2.2.2.2.2.2.1 l5.2.2.1 ⟨_, rfl, h⟩⟩
  rw [if_neg g] at h
  refine ⟨fun g => ?_, fun g => ?_⟩
  · rw [if_pos g] at h
    exact ⟨hq.1, _, p2, hb.1, _, hb.2.1.2.2.2.1, hb.2.2.2.2.2.1.1, c_at d1 hb.2.2.2.2.2.1 l5.2.2.2.2.2.2.2 l5.2.2.2.1 ⟨_, rfl, h⟩⟩
  rw [if_neg g] at h
  refine ⟨fun g => ?_, fun g => ?_⟩
  · rw [if_pos g] at h
    exact ⟨hq.1, _, p2, hb.1, _, hb.2.1.2.1, hb.2.2.2.1.1, c_nat d1 hb.2.2.2.1 l5.2.1 (fun a1 m1 s1 s2 s3 _ _ => ⟨s1.1, c_size d1 s1 s3 ⟨_, rfl, h⟩⟩)⟩
  rw [if_neg g] at h
  refine ⟨fun g => ?_, fun g => ?_⟩
  · rw [if_pos g] at h
    exact ⟨hq.1, _, p5, hk.1, c_far d2 hk hr ⟨_, rfl, h⟩⟩
  rw [if_neg g] at h
  refine ⟨fun g => ?_, fun g => ?_⟩
  · rw [if_pos g] at h
    exact ⟨hq.1, _, p5, hk.1, c_score d2 hk hr ⟨_, rfl, h⟩⟩
  rw [if_neg g] at h
  exact ⟨hq.1, _, p5, hk.1, c_place d2 hk hr ⟨_, rfl, h⟩⟩
