/-! THE PAD'S CALLS -/
theorem padD.f {I J : pIm} {p td dr lo hi : Nat} {s : wS} (h : padD I p td dr s) (hlay : (td = p + 57 ∧ dr = p + 584) ∨ (td = p + 584 ∧ dr = p + 57)) (f : Fr lo hi I J) (hq : hi ≤ p ∨ p + 1145 ≤ lo) : padD J p td dr s := by
  obtain ⟨l1, l2, l3, l4, l5, ⟨b2, l6⟩, l7, l8, l9⟩ := h
  refine ⟨l1.f f (by omega), l2, l3, by rw [f p (by omega)]; exact l4, l5.f f (by omega), ⟨b2, l6.f f (by omega)⟩, l7.f f (by omega), l8.f f (by omega), ?_⟩
  rcases l9 with e | e
  · exact Or.inl (by rw [f p (by omega)]; exact e)
  · exact Or.inr ⟨by rw [f p (by omega)]; exact e.1, e.2.f f (by omega)⟩
/-- all cells but the pad's own stand as they stood -/
def ExP (p : Nat) (B C : pM) : Prop := pN B ≤ pN C ∧ ∀ a, a < pN B → pK C a = pK B a ∧ pL C a = pL B a ∧ (a ≠ p → pP C a = pP B a)
theorem Ex.p {p : Nat} {B C : pM} (h : Ex B C) : ExP p B C := ⟨h.1, fun a ha => ⟨(h.2 a ha).1, (h.2 a ha).2.2, fun _ => (h.2 a ha).2.1⟩⟩
def padO (B : pM) (I : pIm) (p : Nat) (o : pR × wS) (Q : pR → pM → Prop) : Prop := ∀ C J td dr, ExP p B C → pN C ≤ pN B + 1 → padS C p td dr → padD J p td dr o.2 → (∀ x, (x < p ∨ p + 1145 ≤ x) → x < pN B → J x = I x) → Q o.1 (pset C J)
theorem pad_stay {B : pM} {I J : pIm} {p td dr : Nat} {r : pR} {s : wS} {Q : pR → pM → Prop} (hq : padS B p td dr) (hl : padD J p td dr s) (hf : FrP p I J) (h : padO B I p (r, s) Q) : Q r (pset B J) := h B J td dr Ex.rf.p (Nat.le_succ _) hq hl (fun x hx _ => hf x hx)
theorem pad_throw {B : pM} {I J : pIm} {p td dr : Nat} {E : String} {s : wS} {Q : pR → pM → Prop} (hq : padS B p td dr) (hl : padD J p td dr s) (hf : FrP p I J) (h : padO B I p (.inr E, s) Q) : Q (.inr E) (pnew (pset B J) (0, 0)) := by
  have hN := hq.2.2.2.2.2.2.2.2.2.2
  have e : Ex B (pnew B (0, 0)) := Ex.new
  rw [pnew_pset]
  refine h _ _ td dr e.p (Nat.le_refl _) (hq.ex e) (hl.f hq.lay (lo := pN B) (hi := pN B + 1) (fun x hx => ?_) (by omega)) (fun x hx hx2 => ?_)
  · funext y
    show (if x = pN B then 0 else J x y) = J x y
    rw [if_neg (by omega)]
  · rw [← hf x hx]
    funext y
    show (if x = pN B then 0 else J x y) = J x y
    rw [if_neg (by omega)]
theorem and255 {x : Int32} : 0 ≤ (x &&& 255) ∧ (x &&& 255) ≤ 255 := by
  have h1 : (x &&& 255).toBitVec.toNat = x.toBitVec.toNat % 256 := by
    show (x.toBitVec &&& 255#32).toNat = _
    rw [BitVec.toNat_and]
    exact Nat.and_two_pow_sub_one_eq_mod _ 8
  have h2 : (x &&& 255).toInt = ((x &&& 255).toBitVec.toNat : Int) := by
    show (x &&& 255).toBitVec.toInt = _
    rw [BitVec.toInt_eq_toNat_cond, if_pos (by omega)]
  refine ⟨Int32.le_iff_toInt_le.mpr ?_, Int32.le_iff_toInt_le.mpr ?_⟩
  · rw [h2]; simp
  · rw [h2, h1]
    show ((x.toBitVec.toNat % 256 : Nat) : Int) ≤ 255
    omega
def bt (x k : Int32) : Int32 := (x.toUInt32 >>> (k.toUInt32 &&& Int32.toUInt32 31)).toInt32 &&& 255
def bt4 (x : Int32) : List Int32 := [bt x 24, bt x 16, bt x 8, bt x 0]
theorem bt4_byte {x : Int32} : byteL (bt4 x) := fun y hy => by
  simp only [bt4, List.mem_cons, List.not_mem_nil, or_false] at hy
  rcases hy with rfl | rfl | rfl | rfl <;> exact and255
theorem byteL_app {l m : List Int32} (h : byteL l) (g : byteL m) : byteL (l ++ m) := fun x hx => (List.mem_append.mp hx).elim (h x) (g x)
theorem c_append {d : Nat} (hd : 2 ≤ d) {B : pM} {I : pIm} {p td dr : Nat} {s : wS} {x : Int32} {K : pM → Prop} (hq : padS B p td dr) (hl : padD I p td dr s) (h4 : s.1.length + 4 ≤ 2000) (h : ∀ J, padD J p td dr (s.1 ++ bt4 x, s.2) → FrP p I J → K (pset B J)) : pCall_v d mX11_appendBytes (0, 0) [.ref p, .int x] (pset B I) K := by
  refine CP_go (by omega) okX11_appendBytes (Nat.le_of_ble_eq_true rfl) (bX11_appendBytes_0 ?_)
  have hlay := hq.lay
  obtain ⟨l1, l2, l3, l4, l5, ⟨b2, l6⟩, l7, l8, l9⟩ := hl
  have r := hq.2.2.1
  have p0 := hq.2.1.1
  have d1 : 1 ≤ d - 1 := by omega
  refine bX11_appendBytes_3 ⟨fun g => absurd g (by decide), fun _ => ⟨hq.1, _, p0, r.1, c_add' d1 r (by omega) l1 (fun J1 k1 f1 => ?_)⟩⟩
  refine bX11_appendBytes_3 ⟨fun g => absurd g (by decide), fun _ => ⟨hq.1, _, p0, r.1, c_add' d1 r (by simp; omega) k1 (fun J2 k2 f2 => ?_)⟩⟩
  refine bX11_appendBytes_3 ⟨fun g => absurd g (by decide), fun _ => ⟨hq.1, _, p0, r.1, c_add' d1 r (by simp; omega) k2 (fun J3 k3 f3 => ?_)⟩⟩
  refine bX11_appendBytes_3 ⟨fun g => absurd g (by decide), fun _ => ⟨hq.1, _, p0, r.1, c_add' d1 r (by simp; omega) k3 (fun J4 k4 f4 => ?_)⟩⟩
  refine bX11_appendBytes_3 ⟨fun _ => ⟨rfl, ?_⟩, fun g => absurd (by decide) g⟩
  have F : Fr (p + 1) (p + 3) I J4 := ((f1.tr f2).tr f3).tr f4
  have e : s.1 ++ bt4 x = s.1 ++ [bt x 24] ++ [bt x 16] ++ [bt x 8] ++ [bt x 0] := by simp [bt4]
  refine h J4 ⟨?_, ?_, byteL_app l3 bt4_byte, by rw [F p (by omega)]; exact l4, l5.f F (by omega), ⟨b2, l6.f F (by omega)⟩, l7.f F (by omega), l8.f F (by omega), ?_⟩ (F.mono (by omega) (by omega))
  · show Rw J4 (p + 1) (s.1 ++ bt4 x)
    rw [e]; exact k4
  · show (s.1 ++ bt4 x).length ≤ 2000
    rw [List.length_append]; exact h4
  · rcases l9 with e | e
    · exact Or.inl (by rw [F p (by omega)]; exact e)
    · exact Or.inr ⟨by rw [F p (by omega)]; exact e.1, e.2.f F (by omega)⟩
def xISE : String := "java/lang/IllegalStateException"
def xIAE : String := "java/lang/IllegalArgumentException"
def xIOB : String := "java/lang/IndexOutOfBoundsException"
def rI (v : Int32) : pR := .inl (some (.int v))
def feedO (s : wS) (a b c d e : Int32) : pR × wS := if s.1.length ≤ 1980 then (rI (nI (s.1.length + 20)), (s.1 ++ bt4 a ++ bt4 b ++ bt4 c ++ bt4 d ++ bt4 e, s.2)) else (.inr xISE, s)
theorem bt4_len {x : Int32} : (bt4 x).length = 4 := rfl
theorem o_feed {d : Nat} (hd : 3 ≤ d) {B : pM} {I : pIm} {p td dr : Nat} {s : wS} {a b c e f : Int32} {Q : pR → pM → Prop} (hq : padS B p td dr) (hl : padD I p td dr s) (hN : pN B < pBIG) (h : padO B I p (feedO s a b c e f) Q) : CP d mX11_feed (1, 6) [.ref p, .int a, .int b, .int c, .int e, .int f] (pset B I) Q := by
  refine CP_go (by omega) okX11_feed (Nat.le_of_ble_eq_true rfl) ?_
  have p0 := hq.2.1.1
  have r := hq.2.2.1
  have d1 : 1 ≤ d - 1 := by omega
  have d2 : 2 ≤ d - 1 := by omega
  have l2 := hl.2.1
  unfold feedO at h
  refine bX11_feed_0 ⟨hq.1, _, p0, r.1, c_size d1 r hl.1 ⟨fun g => ?_, fun g => ⟨Nat.le_refl _, Nat.le_refl _, hN, ?_⟩⟩⟩
  · have hg : s.1.length ≤ 1980 := by
      have g' : nI (s.1.length + 20) ≤ nI 2000 := by rw [← nI_add]; exact g
      have := (nI_leI (by omega) (by omega)).mp g'
      omega
    rw [if_pos hg] at h
    refine ⟨hq.1, c_append d2 hq hl (by omega) (fun J1 k1 f1 => ⟨hq.1, c_append d2 hq k1 (by simp [bt4_len]; omega) (fun J2 k2 f2 => ⟨hq.1, c_append d2 hq k2 (by simp [bt4_len]; omega) (fun J3 k3 f3 => ⟨hq.1, c_append d2 hq k3 (by simp [bt4_len]; omega) (fun J4 k4 f4 => ⟨hq.1, c_append d2 hq k4 (by simp [bt4_len]; omega) (fun J5 k5 f5 => ⟨hq.1, _, p0, r.1, c_size d1 r k5.1 ?_⟩)⟩)⟩)⟩)⟩)⟩
    have e5 : (s.1 ++ bt4 a ++ bt4 b ++ bt4 c ++ bt4 e ++ bt4 f).length = s.1.length + 20 := by simp [bt4_len]
    have q := pad_stay hq k5 ((((f1.tr f2).tr f3).tr f4).tr f5) h
    show Q (.inl (some (.int (nI (s.1 ++ bt4 a ++ bt4 b ++ bt4 c ++ bt4 e ++ bt4 f).length)))) _
    rw [e5]
    exact q
  · have hg : ¬ s.1.length ≤ 1980 := fun z => g (by
      show nI s.1.length + nI 20 ≤ nI 2000
      rw [nI_add]; exact nI_le (by omega) (by omega))
    rw [if_neg hg] at h
    exact pad_throw hq hl Fr.rf h
def trimO (s : wS) (n : Int32) : pR × wS := if n < 0 then (.inr xIAE, s) else if n ≤ nI s.1.length then (rI n, (s.1.take n.toNatClampNeg, s.2)) else (.inr xIAE, s)
theorem o_trim {d : Nat} (hd : 2 ≤ d) {B : pM} {I : pIm} {p td dr : Nat} {s : wS} {n : Int32} {Q : pR → pM → Prop} (hq : padS B p td dr) (hl : padD I p td dr s) (hN : pN B < pBIG) (h : padO B I p (trimO s n) Q) : CP d mX11_trim (1, 6) [.ref p, .int n] (pset B I) Q := by
  refine CP_go (by omega) okX11_trim (Nat.le_of_ble_eq_true rfl) ?_
  have hlay := hq.lay
  have p0 := hq.2.1.1
  have r := hq.2.2.1
  have l2' := hl.2.1
  unfold trimO at h
  refine bX11_trim_0 ⟨fun g => ⟨Nat.le_refl _, Nat.le_refl _, hN, ?_⟩, fun g => ⟨hq.1, _, p0, r.1, c_size (by omega) r hl.1 ⟨fun g2 => ⟨hq.1, _, p0, r.1, ?_⟩, fun g2 => ⟨Nat.le_refl _, Nat.le_refl _, hN, ?_⟩⟩⟩⟩
  · rw [if_pos g] at h
    exact pad_throw hq hl Fr.rf h
  · rw [if_neg g, if_pos g2] at h
    obtain ⟨k, hk, rfl⟩ := nI_of g
    rw [nI_clamp hk] at h
    have hk2 : k ≤ s.1.length := (nI_leI hk (by omega)).mp g2
    obtain ⟨l1, l2, l3, l4, l5, ⟨b2, l6⟩, l7, l8, l9⟩ := hl
    refine c_shorten (by omega) r l2 hk2 l1 (fun J k1 f => ?_)
    refine pad_stay (s := (s.1.take k, s.2)) hq ⟨k1, ?_, fun x hx => l3 x (List.mem_of_mem_take hx), by rw [f p (by omega)]; exact l4, l5.f f (by omega), ⟨b2, l6.f f (by omega)⟩, l7.f f (by omega), l8.f f (by omega), ?_⟩ (f.mono (by omega) (by omega)) h
    · show (s.1.take k).length ≤ 2000
      rw [List.length_take]; omega
    · rcases l9 with e | e
      · exact Or.inl (by rw [f p (by omega)]; exact e)
      · exact Or.inr ⟨by rw [f p (by omega)]; exact e.1, e.2.f f (by omega)⟩
  · rw [if_neg g, if_neg g2] at h
    exact pad_throw hq hl Fr.rf h
def countO (s : wS) (k : Int32) : pR × wS := if k < 0 then (.inr xIOB, s) else if k < 13 then (rI (figI s k), s) else (.inr xIOB, s)
theorem o_count {d : Nat} (hd : 7 ≤ d) {B : pM} {I : pIm} {p td dr : Nat} {s : wS} {k : Int32} {Q : pR → pM → Prop} (hq : padS B p td dr) (hl : padD I p td dr s) (hN : pN B < pBIG) (h : padO B I p (countO s k) Q) : CP d mX11_count (1, 6) [.ref p, .int k] (pset B I) Q := by
  refine CP_go (by omega) okX11_count (Nat.le_of_ble_eq_true rfl) ?_
  unfold countO at h
  refine bX11_count_0 ⟨fun g => ⟨Nat.le_refl _, Nat.le_refl _, hN, ?_⟩, fun g => ⟨fun g2 => ⟨hq.1, c_rank (by omega) hq hl (fun J k1 k2 f => ⟨hq.1, c_figure (by omega) hq k1 k2 ?_⟩)⟩, fun g2 => ⟨Nat.le_refl _, Nat.le_refl _, hN, ?_⟩⟩⟩
  · rw [if_pos g] at h; exact pad_throw hq hl Fr.rf h
  · rw [if_neg g, if_pos g2] at h; exact pad_stay hq k1 f h
  · rw [if_neg g, if_neg g2] at h; exact pad_throw hq hl Fr.rf h
def offerO (s : wS) (k : Int32) : pR × wS := if k < 0 then (.inr xIOB, s) else if k < 5 then (rI (rat (rkO s.2.2.1 s.2.2.2.1 s.2.2.2.2.1 s.2.2.2.2.2.1 s.2.2.2.2.2.2).2.2.2.1 k), s) else (.inr xIOB, s)
theorem o_offer {d : Nat} (hd : 7 ≤ d) {B : pM} {I : pIm} {p td dr : Nat} {s : wS} {k : Int32} {Q : pR → pM → Prop} (hq : padS B p td dr) (hl : padD I p td dr s) (hN : pN B < pBIG) (h : padO B I p (offerO s k) Q) : CP d mX11_offer (1, 6) [.ref p, .int k] (pset B I) Q := by
  refine CP_go (by omega) okX11_offer (Nat.le_of_ble_eq_true rfl) ?_
  unfold offerO at h
  refine bX11_offer_0 ⟨fun g => ⟨Nat.le_refl _, Nat.le_refl _, hN, ?_⟩, fun g => ⟨fun g2 => ⟨hq.1, c_rank (by omega) hq hl (fun J k1 k2 f => ⟨hq.1, _, hq.2.1.2.2.2.2.2.1, hq.2.2.2.2.2.2.1.1, c_offered (by omega) hq.2.2.2.2.2.2.1 k2 ?_⟩)⟩, fun g2 => ⟨Nat.le_refl _, Nat.le_refl _, hN, ?_⟩⟩⟩
  · rw [if_pos g] at h; exact pad_throw hq hl Fr.rf h
  · rw [if_neg g, if_pos g2] at h; exact pad_stay hq k1 f h
  · rw [if_neg g, if_neg g2] at h; exact pad_throw hq hl Fr.rf h
def takeO (s : wS) (k : Int32) : pR × wS := if k < 0 then (.inr xIOB, s) else if k < 5 then (if 0 ≤ rat (rkO s.2.2.1 s.2.2.2.1 s.2.2.2.2.1 s.2.2.2.2.2.1 s.2.2.2.2.2.2).2.2.2.1 k then (rI (rat (rkO s.2.2.1 s.2.2.2.1 s.2.2.2.2.1 s.2.2.2.2.2.1 s.2.2.2.2.2.2).2.2.2.1 k), tkS s (rat (rkO s.2.2.1 s.2.2.2.1 s.2.2.2.2.1 s.2.2.2.2.2.1 s.2.2.2.2.2.2).2.2.2.1 k)) else (.inr xISE, s)) else (.inr xIOB, s)
theorem o_take {d : Nat} (hd : 7 ≤ d) {B : pM} {I : pIm} {p td dr : Nat} {s : wS} {k : Int32} {Q : pR → pM → Prop} (hq : padS B p td dr) (hl : padD I p td dr s) (hN : pN B < pBIG) (h : padO B I p (takeO s k) Q) : CP d mX11_take (1, 6) [.ref p, .int k] (pset B I) Q := by
  refine CP_go (by omega) okX11_take (Nat.le_of_ble_eq_true rfl) ?_
  unfold takeO at h
  refine bX11_take_0 ⟨fun g => ⟨Nat.le_refl _, Nat.le_refl _, hN, ?_⟩, fun g => ⟨fun g2 => ⟨hq.1, c_rank (by omega) hq hl (fun J k1 k2 f => ⟨hq.1, _, hq.2.1.2.2.2.2.2.1, hq.2.2.2.2.2.2.1.1, c_offered (by omega) hq.2.2.2.2.2.2.1 k2 ⟨fun g3 => ⟨hq.1, c_takeWord (by omega) hq k1.w (fun J2 k3 f2 => ?_)⟩, fun g3 => ⟨Nat.le_refl _, Nat.le_refl _, hN, ?_⟩⟩⟩)⟩, fun g2 => ⟨Nat.le_refl _, Nat.le_refl _, hN, ?_⟩⟩⟩
  · rw [if_pos g] at h; exact pad_throw hq hl Fr.rf h
  · rw [if_neg g, if_pos g2, if_pos g3] at h; exact pad_stay hq k3 (f.tr f2) h
  · rw [if_neg g, if_pos g2, if_neg g3] at h; exact pad_throw hq k1 f h
  · rw [if_neg g, if_neg g2] at h; exact pad_throw hq hl Fr.rf h
def wordO (s : wS) (w k : Int32) : pR × wS := if inW s.2.2.1.2.1.length w = 0 then (.inr xIOB, s) else if k < 0 then (.inr xIOB, s) else if k < 6 then (rI (wfI s w k), s) else (.inr xIOB, s)
theorem o_word {d : Nat} (hd : 7 ≤ d) {B : pM} {I : pIm} {p td dr : Nat} {s : wS} {w k : Int32} {Q : pR → pM → Prop} (hq : padS B p td dr) (hl : padD I p td dr s) (hN : pN B < pBIG) (h : padO B I p (wordO s w k) Q) : CP d mX11_word (1, 6) [.ref p, .int w, .int k] (pset B I) Q := by
  refine CP_go (by omega) okX11_word (Nat.le_of_ble_eq_true rfl) ?_
  unfold wordO at h
  refine bX11_word_0 ⟨hq.1, _, hq.2.1.2.2.1, hq.2.2.2.2.1.1, c_hasWord (by omega) hq.2.2.2.2.1 hl.2.2.2.2.1 ⟨fun g0 => ⟨Nat.le_refl _, Nat.le_refl _, hN, ?_⟩, fun g0 => ⟨fun g => ⟨Nat.le_refl _, Nat.le_refl _, hN, ?_⟩, fun g => ⟨fun g2 => ⟨hq.1, c_rank (by omega) hq hl (fun J k1 k2 f => ⟨hq.1, c_wordFigure (by omega) hq k1 k2 ?_⟩)⟩, fun g2 => ⟨Nat.le_refl _, Nat.le_refl _, hN, ?_⟩⟩⟩⟩⟩
  · rw [if_pos g0] at h; exact pad_throw hq hl Fr.rf h
  · rw [if_neg g0, if_pos g] at h; exact pad_throw hq hl Fr.rf h
  · rw [if_neg g0, if_neg g, if_pos g2] at h; exact pad_stay hq k1 f h
  · rw [if_neg g0, if_neg g, if_neg g2] at h; exact pad_throw hq hl Fr.rf h
def letterO (s : wS) (w k : Int32) : pR × wS := if inW s.2.2.1.2.1.length w = 0 then (.inr xIOB, s) else if k < 0 then (.inr xIOB, s) else if k < nI (lat s.2.2.1.2.1 w).length then (rI (rat (lat s.2.2.1.2.1 w) k), s) else (.inr xIOB, s)
