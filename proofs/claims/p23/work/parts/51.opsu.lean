/-! THE PAD'S CALLS: what would be -/
theorem padD.in {I J : pIm} {p td dr lo hi : Nat} {s : wS} (h : padD I p td dr s) (hlay : (td = p + 57 ∧ dr = p + 584) ∨ (td = p + 584 ∧ dr = p + 57)) (f : Fr lo hi I J) (hq : p + 1123 ≤ lo) : padD J p td dr s := by
  obtain ⟨l1, l2, l3, l4, l5, ⟨b2, l6⟩, l7, l8, l9⟩ := h
  refine ⟨l1.f f (by omega), l2, l3, by rw [f p (by omega)]; exact l4, l5.f f (by omega), ⟨b2, l6.f f (by omega)⟩, l7.f f (by omega), l8.f f (by omega), ?_⟩
  rcases l9 with e | e
  · exact Or.inl (by rw [f p (by omega)]; exact e)
  · exact Or.inr ⟨by rw [f p (by omega)]; exact e.1, e.2.f f (by omega)⟩
def clI (b : bK) (w : Int32) : Nat → Int32
  | 0 => -1
  | o + 1 => if nI o = w then clI b w o else if 0 ≤ clI b w o then (if distI b.2.2.2.2.1.1 b.2.2.2.2.1.2.1 (lat b.2.1 w) (lat b.2.1 (nI o)) < clI b w o then distI b.2.2.2.2.1.1 b.2.2.2.2.1.2.1 (lat b.2.1 w) (lat b.2.1 (nI o)) else clI b w o) else distI b.2.2.2.2.1.1 b.2.2.2.2.1.2.1 (lat b.2.1 w) (lat b.2.1 (nI o))
def closestO (s : wS) (w : Int32) : pR × wS := if inW s.2.2.1.2.1.length w = 0 then (.inr xIOB, s) else (rI (clI s.2.2.1 w s.2.2.1.2.1.length), s)
theorem lat_10 {I : pIm} {q n : Nat} {ls : List (List Int32)} (h : Nm I q n ls) (i : Int32) : (lat ls i).length ≤ 10 := by
  unfold lat
  split
  · simp
  · rw [List.getD_eq_getElem?_getD]
    cases hx : ls[i.toNatClampNeg]? with
    | none => simp
    | some x => exact h.len x (List.mem_of_getElem? hx)
theorem o_closest {d : Nat} (hd : 6 ≤ d) {B : pM} {I : pIm} {p td dr : Nat} {s : wS} {w : Int32} {Q : pR → pM → Prop} (hq : padS B p td dr) (hl : padD I p td dr s) (hN : pN B < pBIG) (h : padO B I p (closestO s w) Q) : CP d mX11_closest (1, 6) [.ref p, .int w] (pset B I) Q := by
  refine CP_go (by omega) okX11_closest (Nat.le_of_ble_eq_true rfl) ?_
  unfold closestO at h
  have hlay := hq.lay
  have hb := hq.2.2.2.2.1
  have hk := hq.2.2.2.2.2.2.1
  have p2 := hq.2.1.2.2.1
  have p5 := hq.2.1.2.2.2.2.2.1
  have d4 : 4 ≤ d - 1 := by omega
  have d1 : 1 ≤ d - 1 := by omega
  have h40 := hl.2.2.2.2.1.2.1.2.1
  refine bX11_closest_0 ⟨hq.1, _, p2, hb.1, c_hasWord (by omega) hb hl.2.2.2.2.1 ⟨fun g => ⟨Nat.le_refl _, Nat.le_refl _, hN, ?_⟩, fun g => ?_⟩⟩
  · rw [if_pos g] at h; exact pad_throw hq hl Fr.rf h
  rw [if_neg g] at h
  have key : ∀ (m o : Nat) (J : pIm), s.2.2.1.2.1.length - o = m → o ≤ s.2.2.1.2.1.length → padD J p td dr s → FrP p I J → Go (d - 1) mX11_closest Q 25 ([some (.ref p), some (.int w), some (.int (clI s.2.2.1 w o)), some (.int (nI o)), none], [], 1, 6) (pset B J) := by
    intro m
    induction m with
    | zero =>
      intro o J hm ho hJ hf
      refine bX11_closest_25 ⟨hq.1, _, p2, hb.1, _, hb.2.1.2.1, hb.2.2.2.1.1, c_nsize d1 hb.2.2.2.1 hJ.2.2.2.2.1.2.1 ⟨fun g => ?_, fun g => absurd (nI_le (show s.2.2.1.2.1.length ≤ o by omega) (by omega)) g⟩⟩
      have e : o = s.2.2.1.2.1.length := by omega
      rw [e]
      exact pad_stay hq hJ hf h
    | succ m ih =>
      intro o J hm ho hJ hf
      have l5 := hJ.2.2.2.2.1
      have next : ∀ (x : Int32) (J2 : pIm), x = clI s.2.2.1 w (o + 1) → padD J2 p td dr s → FrP p I J2 → Go (d - 1) mX11_closest Q 98 ([some (.ref p), some (.int w), some (.int x), some (.int (nI o)), none], [], 1, 6) (pset B J2) := by
        intro x J2 ex h2 f2
        refine bX11_closest_98 ?_
        rw [nI_1, ex]
        exact ih (o + 1) J2 (by omega) (by omega) h2 f2
      refine bX11_closest_25 ⟨hq.1, _, p2, hb.1, _, hb.2.1.2.1, hb.2.2.2.1.1, c_nsize d1 hb.2.2.2.1 l5.2.1 ⟨fun g => absurd ((nI_leI (by omega) (by omega)).mp g) (by omega), fun g => ⟨fun g1 => next _ J ?_ hJ hf, fun g1 => ⟨hq.1, _, p5, hq.1, _, p2, hb.1, _, hb.2.1.2.1, hb.2.2.2.1.1, c_nat d1 hb.2.2.2.1 l5.2.1 (fun a1 m1 s1 s2 s3 s4 s5 => ⟨hq.1, _, p2, hb.1, _, hb.2.1.2.1, hb.2.2.2.1.1, c_nat d1 hb.2.2.2.1 l5.2.1 (fun a2 m2 t1 t2 t3 t4 t5 => ⟨hq.1, _, p2, hb.1, _, hb.2.1.2.2.2.2.1, hk.1, ?_⟩)⟩)⟩⟩⟩⟩
      · rw [clI, if_pos g1]
      · have w1 := lat_10 l5.2.1 w
        have w2 := lat_10 l5.2.1 (nI o)
        refine c_distance d4 hk s1 s2 (by omega) t1 t2 hb.2.2.2.2.2.2.1 (by omega) (by omega) (by omega) w2 s3 t3 l5.2.2.2.2.1 (fun J2 f2 => ⟨fun g2 => next _ J2 ?_ (hJ.in hlay f2 (by omega)) (hf.tr (f2.mono (by omega) (by omega))), fun g2 => next _ J2 ?_ (hJ.in hlay f2 (by omega)) (hf.tr (f2.mono (by omega) (by omega)))⟩)
        · rw [clI, if_neg g1, if_pos g2]
        · rw [clI, if_neg g1, if_neg g2]
  exact key _ 0 I rfl (by omega) hl Fr.rf
def meanI (s : wS) : UInt64 := if s.2.2.1.2.1.length = 0 then FP.dconst0 else FP.ddiv (FP.i2d (sumI s.2.2.1.2.2.1)) (FP.i2d (nI s.2.2.1.2.1.length))
def bestI (s : wS) : Nat → Int32 × Int32
  | 0 => (-1, -1)
  | k + 1 => if wbh s.2.2.2.1 (nI (97 + k)) s.2.2.1.2.2.1 s.2.2.1.2.1 0 (-1) ≤ (bestI s k).2 then bestI s k else (nI (97 + k), wbh s.2.2.2.1 (nI (97 + k)) s.2.2.1.2.2.1 s.2.2.1.2.1 0 (-1))
theorem o_best {d : Nat} (hd : 5 ≤ d) {B : pM} {I : pIm} {p td dr : Nat} {s : wS} {res : Nat × Nat} {Q : pR → pM → Prop} (hq : padS B p td dr) (hl : padD I p td dr s) (h : padO B I p (rI (bestI s 26).1, s) Q) : CP d mX11_best res [.ref p] (pset B I) Q := by
  refine CP_go (by omega) okX11_best (Nat.le_of_ble_eq_true rfl) (bX11_best_0 ?_)
  have hb := hq.2.2.2.2.1
  have hh := hq.2.2.2.2.2.1
  have p2 := hq.2.1.2.2.1
  have p4 := hq.2.1.2.2.2.2.1
  have l5 := hl.2.2.2.2.1
  have l7 := hl.2.2.2.2.2.2.1
  have key : ∀ (m k : Nat), 26 - k = m → k ≤ 26 → Go (d - 1) mX11_best Q 7 ([some (.ref p), some (.int (bestI s k).1), some (.int (bestI s k).2), some (.int (nI (97 + k))), none], [], res.1, res.2) (pset B I) := by
    intro m
    induction m with
    | zero =>
      intro k hm hk
      have e : k = 26 := by omega
      subst e
      exact bX11_best_7 ⟨fun _ => pad_stay hq hl Fr.rf h, fun g => absurd (by decide) g⟩
    | succ m ih =>
      intro k hm hk
      refine bX11_best_7 ⟨fun g => absurd g (nI_nlt (a := 122) (by omega) (by omega)), fun _ => ⟨hq.1, _, p2, hq.1, _, p4, hh.1, _, hh.2.1, hb.1, c_weightBehind (by omega) hb l5 hh.2.2 l7.2.1 l7.1 ⟨fun g => bX11_best_41 ?_, fun g => bX11_best_41 ?_⟩⟩⟩
      · rw [nI_1]
        have e : bestI s (k + 1) = bestI s k := by rw [bestI, if_pos g]
        rw [← e]
        exact ih (k + 1) (by omega) (by omega)
      · rw [nI_1]
        have e : bestI s (k + 1) = (nI (97 + k), wbh s.2.2.2.1 (nI (97 + k)) s.2.2.1.2.2.1 s.2.2.1.2.1 0 (-1)) := by rw [bestI, if_neg g]
        have := ih (k + 1) (by omega) (by omega)
        rw [e] at this
        exact this
  exact key 26 0 rfl (by omega)
def needX (s : wS) (w : Int32) (L : Int64) : Int64 := if L - Int32.toInt64 (rat (rkO s.2.2.1 s.2.2.2.1 s.2.2.2.2.1 s.2.2.2.2.2.1 s.2.2.2.2.2.2).2.1 w - rat s.2.2.1.2.2.1 w) < 0 then 0 else L - Int32.toInt64 (rat (rkO s.2.2.1 s.2.2.2.1 s.2.2.2.2.1 s.2.2.2.2.2.1 s.2.2.2.2.2.2).2.1 w - rat s.2.2.1.2.2.1 w)
def needL (s : wS) (w : Int32) : Int64 := leastL s.2.2.1.2.1 (rkO s.2.2.1 s.2.2.2.1 s.2.2.2.2.1 s.2.2.2.2.2.1 s.2.2.2.2.2.2).2.1 (rkO s.2.2.1 s.2.2.2.1 s.2.2.2.2.1 s.2.2.2.2.2.1 s.2.2.2.2.2.2).2.2.1 w s.2.2.1.2.1.length
def needI (s : wS) (w : Int32) : Int32 := if rat (rkO s.2.2.1 s.2.2.2.1 s.2.2.2.2.1 s.2.2.2.2.2.1 s.2.2.2.2.2.2).2.2.1 w < 0 then -1 else if lg_cmp (needL s w) 2147483647 ≤ 0 then (if lg_cmp (needX s w (needL s w)) 9999 ≤ 0 then Int64.toInt32 (needX s w (needL s w)) else -1) else -1
def needsO (s : wS) (w : Int32) : pR × wS := if inW s.2.2.1.2.1.length w = 0 then (.inr xIOB, s) else (rI (needI s w), s)
theorem o_needs {d : Nat} (hd : 7 ≤ d) {B : pM} {I : pIm} {p td dr : Nat} {s : wS} {w : Int32} {Q : pR → pM → Prop} (hq : padS B p td dr) (hl : padD I p td dr s) (hN : pN B < pBIG) (h : padO B I p (needsO s w) Q) : CP d mX11_needs (1, 6) [.ref p, .int w] (pset B I) Q := by
  refine CP_go (by omega) okX11_needs (Nat.le_of_ble_eq_true rfl) ?_
  unfold needsO at h
  have hb := hq.2.2.2.2.1
  have hk := hq.2.2.2.2.2.2.1
  have p2 := hq.2.1.2.2.1
  have p5 := hq.2.1.2.2.2.2.2.1
  refine bX11_needs_0 ⟨hq.1, _, p2, hb.1, c_hasWord (by omega) hb hl.2.2.2.2.1 ⟨fun g => ⟨Nat.le_refl _, Nat.le_refl _, hN, ?_⟩, fun g => ⟨hq.1, c_rank (by omega) hq hl (fun J k1 k2 f => ⟨hq.1, _, p5, hq.1, _, p2, hk.1, c_least (by omega) hk hb k2 k1.2.2.2.2.1 ⟨hq.1, _, p5, hk.1, c_place (by omega) hk k2 ?_⟩⟩)⟩⟩⟩
  · rw [if_pos g] at h; exact pad_throw hq hl Fr.rf h
  rw [if_neg g] at h
  have h1 := pad_stay hq k1 f h
  unfold needI rI at h1
  have l5 := k1.2.2.2.2.1
  refine ⟨fun g1 => ?_, fun g1 => ⟨fun g2 => ⟨hq.1, _, p5, hk.1, c_score (by omega) hk k2 ⟨hq.1, _, p2, hb.1, _, hb.2.1.2.2.1, hb.2.2.2.2.1.1, c_at (by omega) hb.2.2.2.2.1 l5.2.2.2.2.2.2.1 l5.2.2.1 ⟨fun g3 => ?_, fun g3 => ?_⟩⟩⟩, fun g2 => ?_⟩⟩
  · rw [if_pos g1] at h1; exact h1
  · rw [if_neg g1, if_pos (show lg_cmp (needL s w) 2147483647 ≤ 0 from g2), if_pos (show lg_cmp (needX s w (needL s w)) 9999 ≤ 0 from g3)] at h1; exact h1
  · rw [if_neg g1, if_pos (show lg_cmp (needL s w) 2147483647 ≤ 0 from g2), if_neg (show ¬ lg_cmp (needX s w (needL s w)) 9999 ≤ 0 from g3)] at h1; exact h1
  · rw [if_neg g1, if_neg (show ¬ lg_cmp (needL s w) 2147483647 ≤ 0 from g2)] at h1; exact h1
