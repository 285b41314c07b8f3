/-! THE PAD'S CALLS: typing -/
theorem padW.hand {I J : pIm} {p td dr : Nat} {s : wS} {ty : List Int32} {tk la li : Int32} (h : padW I p td dr s) (hlay : (td = p + 57 ∧ dr = p + 584) ∨ (td = p + 584 ∧ dr = p + 57)) (f : Fr (p + 1111) (p + 1114) I J) (k : Hd J (p + 1111) ty tk la li) : padW J p td dr (s.1, s.2.1, s.2.2.1, ty, tk, la, li) := by
  obtain ⟨l1, l2, l3, l4, l5, ⟨b2, l6⟩, l7, l8⟩ := h
  exact ⟨l1.f f (by omega), l2, l3, by rw [f p (by omega)]; exact l4, l5.f f (by omega), ⟨b2, l6.f f (by omega)⟩, k, l8.f f (by omega)⟩
theorem padW.un {I : pIm} {p td dr : Nat} {s : wS} (h : padW I p td dr s) (hlay : (td = p + 57 ∧ dr = p + 584) ∨ (td = p + 584 ∧ dr = p + 57)) : padD (u2 I p 6 0) p td dr s ∧ Fr p (p + 1) I (u2 I p 6 0) := by
  obtain ⟨l1, l2, l3, l4, l5, ⟨b2, l6⟩, l7, l8⟩ := h
  have f : Fr p (p + 1) I (u2 I p 6 0) := Fr.u (by omega) (by omega)
  exact ⟨⟨l1.f f (by omega), l2, l3, by rw [u2_j (by decide)]; exact l4, l5.f f (by omega), ⟨b2, l6.f f (by omega)⟩, l7.f f (by omega), l8.f f (by omega), Or.inl u2_same⟩, f⟩
def typeO (s : wS) (c : Int32) : pR × wS := if isLt c = 0 then (.inr xIAE, s) else if s.2.2.2.1.length < 20 then (rI (nI (s.2.2.2.1.length + 1)), (s.1, s.2.1, s.2.2.1, s.2.2.2.1 ++ [c], s.2.2.2.2)) else (.inr xISE, s)
theorem o_type {d : Nat} (hd : 3 ≤ d) {B : pM} {I : pIm} {p td dr : Nat} {s : wS} {c : Int32} {Q : pR → pM → Prop} (hq : padS B p td dr) (hl : padD I p td dr s) (hN : pN B < pBIG) (h : padO B I p (typeO s c) Q) : CP d mX11_type (1, 6) [.ref p, .int c] (pset B I) Q := by
  refine CP_go (by omega) okX11_type (Nat.le_of_ble_eq_true rfl) ?_
  unfold typeO at h
  have hlay := hq.lay
  have hh := hq.2.2.2.2.2.1
  have p4 := hq.2.1.2.2.2.2.1
  have l7 := hl.2.2.2.2.2.2.1
  refine bX11_type_0 (c_isLetter (by omega) ⟨fun g => ⟨Nat.le_refl _, Nat.le_refl _, hN, ?_⟩, fun g => ⟨hq.1, _, p4, hh.1, _, hh.2.1, hh.2.2.1, c_isFull (by omega) hh.2.2 l7.2.1 l7.1 ?_⟩⟩)
  · rw [if_pos g] at h; exact pad_throw hq hl Fr.rf h
  rw [if_neg g] at h
  by_cases g2 : s.2.2.2.1.length < 20
  · rw [if_pos g2] at h ⊢
    refine ⟨fun _ => ⟨hq.1, _, p4, hh.1, _, hh.2.1, hh.2.2.1, c_add' (by omega) hh.2.2 g2 l7.1 (fun J k1 f1 => ⟨hq.1, hq.1, _, p4, hh.1, _, hh.2.1, hh.2.2.1, ?_⟩)⟩, fun z => absurd rfl z⟩
    have kh : Hd J (p + 1111) (s.2.2.2.1 ++ [c]) s.2.2.2.2.1 s.2.2.2.2.2.1 s.2.2.2.2.2.2 := ⟨k1, by simp; omega, by rw [f1 _ (by omega)]; exact l7.2.2.1, by rw [f1 _ (by omega)]; exact l7.2.2.2.1, by rw [f1 _ (by omega)]; exact l7.2.2.2.2⟩
    obtain ⟨x1, x2⟩ := (hl.w.hand hlay (f1.mono (by omega) (by omega)) kh).un hlay
    rw [psI_set]
    refine c_size (by omega) hh.2.2 x1.2.2.2.2.2.2.1.1 ?_
    have e : (s.2.2.2.1 ++ [c]).length = s.2.2.2.1.length + 1 := by simp
    have q := pad_stay hq x1 ((f1.mono (by omega) (by omega)).tr (x2.mono (by omega) (by omega))) h
    show Q (.inl (some (.int (nI (s.2.2.2.1 ++ [c]).length)))) _
    rw [e]
    exact q
  · rw [if_neg g2] at h ⊢
    exact ⟨fun z => absurd z (by decide), fun _ => ⟨Nat.le_refl _, Nat.le_refl _, hN, pad_throw hq hl Fr.rf h⟩⟩
def backO (s : wS) : pR × wS := if s.2.2.2.1.length = 0 then (.inr xISE, s) else (rI (s.2.2.2.1.getLastD 0), (s.1, s.2.1, s.2.2.1, s.2.2.2.1.dropLast, s.2.2.2.2))
theorem o_back {d : Nat} (hd : 2 ≤ d) {B : pM} {I : pIm} {p td dr : Nat} {s : wS} {Q : pR → pM → Prop} (hq : padS B p td dr) (hl : padD I p td dr s) (hN : pN B < pBIG) (h : padO B I p (backO s) Q) : CP d mX11_back (1, 6) [.ref p] (pset B I) Q := by
  refine CP_go (by omega) okX11_back (Nat.le_of_ble_eq_true rfl) ?_
  unfold backO at h
  have hlay := hq.lay
  have hh := hq.2.2.2.2.2.1
  have p4 := hq.2.1.2.2.2.2.1
  have l7 := hl.2.2.2.2.2.2.1
  have h20 := l7.2.1
  refine bX11_back_0 ⟨hq.1, _, p4, hh.1, _, hh.2.1, hh.2.2.1, c_size (by omega) hh.2.2 l7.1 ⟨fun g => ⟨Nat.le_refl _, Nat.le_refl _, hN, ?_⟩, fun g => ⟨hq.1, hq.1, _, p4, hh.1, _, hh.2.1, hh.2.2.1, ?_⟩⟩⟩
  · have e : s.2.2.2.1.length = 0 := (nI_eq (b := 0) (by omega) (by omega)).mp g
    rw [if_pos e] at h; exact pad_throw hq hl Fr.rf h
  · have e : ¬ s.2.2.2.1.length = 0 := fun z => g (by rw [z]; rfl)
    rw [if_neg e] at h
    obtain ⟨x1, x2⟩ := hl.w.un hlay
    have m7 := x1.2.2.2.2.2.2.1
    rw [psI_set]
    refine c_removeLast2 (by omega) hh.2.2 m7.2.1 m7.1 (fun J k1 f1 => ?_)
    have kh : Hd J (p + 1111) s.2.2.2.1.dropLast s.2.2.2.2.1 s.2.2.2.2.2.1 s.2.2.2.2.2.2 := ⟨k1, by rw [List.length_dropLast]; omega, by rw [f1 _ (by omega)]; exact m7.2.2.1, by rw [f1 _ (by omega)]; exact m7.2.2.2.1, by rw [f1 _ (by omega)]; exact m7.2.2.2.2⟩
    have y := x1.w.hand hlay (f1.mono (by omega) (by omega)) kh
    refine pad_stay hq (y.d0 ?_) ((x2.mono (by omega) (by omega)).tr (f1.mono (by omega) (by omega))) h
    rw [f1 p (by omega)]
    exact u2_same
def limO (s : wS) (n : Int32) : pR × wS := if n < 0 then (.inr xIAE, s) else if n ≤ 9 then (rI s.2.2.2.2.2.2, (s.1, s.2.1, s.2.2.1, s.2.2.2.1, s.2.2.2.2.1, s.2.2.2.2.2.1, n)) else (.inr xIAE, s)
theorem o_setLimit {d : Nat} (hd : 1 ≤ d) {B : pM} {I : pIm} {p td dr : Nat} {s : wS} {n : Int32} {Q : pR → pM → Prop} (hq : padS B p td dr) (hl : padD I p td dr s) (hN : pN B < pBIG) (h : padO B I p (limO s n) Q) : CP d mX11_setLimit (1, 6) [.ref p, .int n] (pset B I) Q := by
  refine CP_go (by omega) okX11_setLimit (Nat.le_of_ble_eq_true rfl) ?_
  unfold limO at h
  have hlay := hq.lay
  have hh := hq.2.2.2.2.2.1
  have p4 := hq.2.1.2.2.2.2.1
  have l7 := hl.2.2.2.2.2.2.1
  refine bX11_setLimit_0 ⟨fun g => ⟨Nat.le_refl _, Nat.le_refl _, hN, ?_⟩, fun g => ⟨fun g2 => ⟨hq.1, _, p4, hh.1, hq.1, _, p4, hh.1, hq.1, ?_⟩, fun g2 => ⟨Nat.le_refl _, Nat.le_refl _, hN, ?_⟩⟩⟩
  · rw [if_pos g] at h; exact pad_throw hq hl Fr.rf h
  · rw [if_neg g, if_pos g2] at h
    have e : pI (pset B I) (p + 1111) 3 = s.2.2.2.2.2.2 := l7.2.2.2.2
    rw [e, psI_set, psI_set]
    have f : Fr (p + 1111) (p + 1112) I (u2 I (p + 1111) 3 n) := Fr.u (by omega) (by omega)
    have kh : Hd (u2 I (p + 1111) 3 n) (p + 1111) s.2.2.2.1 s.2.2.2.2.1 s.2.2.2.2.2.1 n := ⟨l7.1.f f (by omega), l7.2.1, by rw [u2_j (by decide)]; exact l7.2.2.1, by rw [u2_j (by decide)]; exact l7.2.2.2.1, u2_same⟩
    obtain ⟨x1, x2⟩ := (hl.w.hand hlay (f.mono (by omega) (by omega)) kh).un hlay
    exact pad_stay hq x1 ((f.mono (by omega) (by omega)).tr (x2.mono (by omega) (by omega))) h
  · rw [if_neg g, if_neg g2] at h; exact pad_throw hq hl Fr.rf h
def addB (b : bK) (l : List Int32) : bK := (b.1, b.2.1 ++ [l], rput (pushL 40 b.2.2.1 0) (nI b.2.1.length) 1, pushL 40 b.2.2.2.1 (-1), b.2.2.2.2)
def sayO (s : wS) : pR × wS := if s.2.2.2.1.length = 0 then (.inr xISE, s) else if s.2.2.2.1.length ≤ 10 then
    (if 0 ≤ fidx s.2.2.1.2.1 s.2.2.2.1 0 then (rI (fidx s.2.2.1.2.1 s.2.2.2.1 0), tkS s (fidx s.2.2.1.2.1 s.2.2.2.1 0))
     else if s.2.2.1.2.1.length < 40 then (rI (nI s.2.2.1.2.1.length), tkS (s.1, s.2.1, addB s.2.2.1 s.2.2.2.1, s.2.2.2) (nI s.2.2.1.2.1.length)) else (.inr xISE, s)) else (.inr xISE, s)
theorem padW.told {I J : pIm} {p td dr : Nat} {s : wS} {b : bK} (h : padW I p td dr s) (hlay : (td = p + 57 ∧ dr = p + 584) ∨ (td = p + 584 ∧ dr = p + 57)) (f : Fr td (td + 527) I J) (k : Bk J td b) : padW J p td dr (s.1, s.2.1, b, s.2.2.2) := by
  obtain ⟨l1, l2, l3, l4, l5, ⟨b2, l6⟩, l7, l8⟩ := h
  exact ⟨l1.f f (by omega), l2, l3, by rw [f p (by omega)]; exact l4, k, ⟨b2, l6.f f (by omega)⟩, l7.f f (by omega), l8.f f (by omega)⟩
