/-! THE PAD'S CALLS: strokes, digest, teach -/
def stI (b : bK) (tk la li w : Int32) (l : List Int32) : Nat → Nat → Int32
  | 0, i => nI i + 1
  | m + 1, i => if offdI (rkO b (l.take i) tk la li).2.2.1 w = 0 then (if isLt (rat l (nI i)) = 0 then -1 else stI b tk la li w l m (i + 1)) else nI i + 1
def strokesO (s : wS) (w : Int32) : pR × wS := if inW s.2.2.1.2.1.length w = 0 then (.inr xIOB, s) else (rI (stI s.2.2.1 s.2.2.2.2.1 s.2.2.2.2.2.1 s.2.2.2.2.2.2 w (lat s.2.2.1.2.1 w) (lat s.2.2.1.2.1 w).length 0), s)
theorem o_strokes {d : Nat} (hd : 7 ≤ d) {B : pM} {I : pIm} {p td dr : Nat} {s : wS} {w : Int32} {Q : pR → pM → Prop} (hq : padS B p td dr) (hl : padD I p td dr s) (hN : pN B < pBIG) (h : padO B I p (strokesO s w) Q) : CP d mX11_strokes (1, 6) [.ref p, .int w] (pset B I) Q := by
  refine CP_go (by omega) okX11_strokes (Nat.le_of_ble_eq_true rfl) ?_
  unfold strokesO at h
  have hlay := hq.lay
  have hb := hq.2.2.2.2.1
  have hh := hq.2.2.2.2.2.1
  have hh2 := hq.2.2.2.2.2.2.2.1
  have hk2 := hq.2.2.2.2.2.2.2.2.1
  have p2 := hq.2.1.2.2.1
  have p4 := hq.2.1.2.2.2.2.1
  have p7 := hq.2.1.2.2.2.2.2.2.1
  have p8 := hq.2.1.2.2.2.2.2.2.2
  have l5 := hl.2.2.2.2.1
  have d5 : 5 ≤ d - 1 := by omega
  have d2 : 2 ≤ d - 1 := by omega
  have d1 : 1 ≤ d - 1 := by omega
  refine bX11_strokes_0 ⟨hq.1, _, p2, hb.1, c_hasWord d2 hb l5 ⟨fun g => ⟨Nat.le_refl _, Nat.le_refl _, hN, ?_⟩, fun g => ⟨hq.1, _, p2, hb.1, _, hb.2.1.2.1, hb.2.2.2.1.1, c_nat d1 hb.2.2.2.1 l5.2.1 (fun a m1 s1 s2 s3 s4 s5 => ⟨hq.1, _, p7, hq.1, _, p4, hh2.1, c_suppose d2 hh2 hh (by omega) hl.2.2.2.2.2.2.1 (fun J0 k0 f0 => ?_)⟩)⟩⟩⟩
  · rw [if_pos g] at h; exact pad_throw hq hl Fr.rf h
  rw [if_neg g] at h
  have w10 := lat_10 l5.2.1 w
  generalize lat s.2.2.1.2.1 w = l at h s2 s3 w10
  have fin : ∀ (v : Int32) (J : pIm), padD J p td dr s → Fr (p + 1128) (p + 1145) I J → v = stI s.2.2.1 s.2.2.2.2.1 s.2.2.2.2.2.1 s.2.2.2.2.2.2 w l l.length 0 → Q (.inl (some (.int v))) (pset B J) := by
    intro v J hJ hf ev
    rw [ev]
    exact pad_stay hq hJ (hf.mono (by omega) (by omega)) h
  have key : ∀ (m i : Nat) (J : pIm), l.length - i = m → i ≤ l.length → padD J p td dr s → Hd J (p + 1128) (l.take i) s.2.2.2.2.1 s.2.2.2.2.2.1 s.2.2.2.2.2.2 → Fr (p + 1128) (p + 1145) I J → stI s.2.2.1 s.2.2.2.2.1 s.2.2.2.2.2.1 s.2.2.2.2.2.2 w l l.length 0 = stI s.2.2.1 s.2.2.2.2.1 s.2.2.2.2.2.1 s.2.2.2.2.2.2 w l m i → Go (d - 1) mX11_strokes Q 46 ([some (.ref p), some (.int w), some (.ref a), some (.int (nI i))], [], 1, 6) (pset B J) := by
    intro m
    induction m with
    | zero =>
      intro i J hm hi hJ hH hf he
      have s3' := s3.f hf (by omega)
      refine bX11_strokes_46 ⟨s1.1, c_size d1 s1 s3' ⟨fun _ => ⟨s1.1, c_size d1 s1 s3' (fin _ J hJ hf ?_)⟩, fun g => absurd (nI_le (show l.length ≤ i by omega) (by omega)) g⟩⟩
      have e : i = l.length := by omega
      rw [he, stI, e]
    | succ m ih =>
      intro i J hm hi hJ hH hf he
      have s3' := s3.f hf (by omega)
      rw [stI] at he
      refine bX11_strokes_46 ⟨s1.1, c_size d1 s1 s3' ⟨fun g => absurd ((nI_leI (by omega) (by omega)).mp g) (by omega), fun _ => ⟨hq.1, _, p8, hq.1, _, p2, hq.1, _, p7, hk2.1, c_renew d5 hk2 hb hh2 (by omega) (by omega) hJ.2.2.2.2.1 hH (fun J2 k2 f2 => ⟨hq.1, _, p8, hk2.1, c_isOffered d2 hk2 k2 ?_⟩)⟩⟩⟩
      have F2 : Fr (p + 1128) (p + 1145) I J2 := hf.tr (f2.mono (by omega) (by omega))
      have hJ2 := hJ.in hlay f2 (by omega)
      have s3'' := s3.f F2 (by omega)
      refine ⟨fun g2 => ⟨s1.1, c_at d1 s1 s2 s3'' (c_isLetter d1 ⟨fun g3 => fin _ J2 hJ2 F2 ?_, fun g3 => ⟨hq.1, _, p7, hh2.1, _, hh2.2.1, s1.1, c_at d1 s1 s2 s3'' ⟨hh2.2.2.1, ?_⟩⟩⟩)⟩, fun g2 => fin _ J2 hJ2 F2 ?_⟩
      · rw [he, if_pos g2, if_pos g3]
      · rw [if_pos g2, if_neg g3] at he
        have hlt : i < l.length := by omega
        have H2 := hH.f f2 (by omega)
        have er := rat_in (List.getElem?_eq_getElem hlt) (show l.length < 2 ^ 31 by omega)
        rw [er]
        refine c_add' d1 hh2.2.2 (by rw [List.length_take]; omega) H2.1 (fun J3 k3 f3 => ?_)
        rw [nI_1]
        refine ih (i + 1) J3 (by omega) (by omega) (hJ2.in hlay f3 (by omega)) ⟨?_, by rw [List.length_take]; omega, by rw [f3 _ (by omega)]; exact H2.2.2.1, by rw [f3 _ (by omega)]; exact H2.2.2.2.1, by rw [f3 _ (by omega)]; exact H2.2.2.2.2⟩ (F2.tr (f3.mono (by omega) (by omega))) he
        rw [List.take_succ_eq_append_getElem hlt]
        exact k3
      · rw [he, if_neg g2]
  exact key _ 0 J0 rfl (by omega) (hl.in hlay f0 (by omega)) (by rw [List.take_zero]; exact k0) (f0.mono (by omega) (by omega)) rfl
def dgA (s : wS) (x : Int64) : Nat → Int64
  | 0 => x
  | k + 1 => dgA s x k * 31 + Int32.toInt64 (figI s (nI k))
def dgW (s : wS) (w : Nat) (x : Int64) : Nat → Int64
  | 0 => x
  | k + 1 => dgW s w x k * 31 + Int32.toInt64 (wfI s (nI w) (nI k))
def dgB (s : wS) (x : Int64) : Nat → Int64
  | 0 => x
  | w + 1 => addl (dgW s w (dgB s x w) 6) (lat s.2.2.1.2.1 (nI w))
def dgC (s : wS) (x : Int64) : Nat → Int64
  | 0 => x
  | k + 1 => dgC s x k * 31 + Int32.toInt64 (rat (rkO s.2.2.1 s.2.2.2.1 s.2.2.2.2.1 s.2.2.2.2.2.1 s.2.2.2.2.2.2).2.2.2.1 (nI k))
def digI (s : wS) : Int64 := dgC s (dgB s (addl (dgA s 773 13) s.2.2.2.1) s.2.2.1.2.1.length) 5
theorem o_digest {d : Nat} (hd : 7 ≤ d) {B : pM} {I : pIm} {p td dr : Nat} {s : wS} {res : Nat × Nat} {Q : pR → pM → Prop} (hq : padS B p td dr) (hl : padD I p td dr s) (h : padO B I p (.inl (some (.long (digI s))), s) Q) : CP d mX11_digest res [.ref p] (pset B I) Q := by
  refine CP_go (by omega) okX11_digest (Nat.le_of_ble_eq_true rfl) (bX11_digest_0 ⟨hq.1, c_rank (by omega) hq hl (fun J hJ hR hf => ?_)⟩)
  have hb := hq.2.2.2.2.1
  have hh := hq.2.2.2.2.2.1
  have hk := hq.2.2.2.2.2.2.1
  have p2 := hq.2.1.2.2.1
  have p4 := hq.2.1.2.2.2.2.1
  have p5 := hq.2.1.2.2.2.2.2.1
  have l5 := hJ.2.2.2.2.1
  have l7 := hJ.2.2.2.2.2.2.1
  have h40 := l5.2.1.2.1
  have d5 : 5 ≤ d - 1 := by omega
  have d3 : 3 ≤ d - 1 := by omega
  have d2 : 2 ≤ d - 1 := by omega
  have d1 : 1 ≤ d - 1 := by omega
  have fin := pad_stay hq hJ hf h
  unfold digI at fin
  generalize hX : addl (dgA s 773 13) s.2.2.2.1 = X at fin
  have c118 : ∀ (m k : Nat), 5 - k = m → k ≤ 5 → Go (d - 1) mX11_digest Q 118 ([some (.ref p), some (.long (dgC s (dgB s X s.2.2.1.2.1.length) k)), none, some (.int (nI k)), none], [], res.1, res.2) (pset B J) := by
    intro m
    induction m with
    | zero =>
      intro k hm hk5
      have e : k = 5 := by omega
      subst e
      exact bX11_digest_118 ⟨fun _ => fin, fun g => absurd (by decide) g⟩
    | succ m ih =>
      intro k hm hk5
      refine bX11_digest_118 ⟨fun g => absurd ((nI_leI (a := 5) (by omega) (by omega)).mp g) (by omega), fun _ => ⟨hq.1, _, p5, hk.1, c_offered d2 hk hR ?_⟩⟩
      rw [nI_1]
      exact ih (k + 1) (by omega) (by omega)
  have c66 : ∀ (w : Nat), w < s.2.2.1.2.1.length → Go (d - 1) mX11_digest Q 49 ([some (.ref p), some (.long (dgB s X (w + 1))), none, some (.int (nI (w + 1))), none], [], res.1, res.2) (pset B J) → ∀ (m k : Nat), 6 - k = m → k ≤ 6 → Go (d - 1) mX11_digest Q 66 ([some (.ref p), some (.long (dgW s w (dgB s X w) k)), none, some (.int (nI w)), some (.int (nI k))], [], res.1, res.2) (pset B J) := by
    intro w hw go m
    induction m with
    | zero =>
      intro k hm hk6
      have e : k = 6 := by omega
      subst e
      refine bX11_digest_66 ⟨fun _ => ⟨hq.1, _, p2, hb.1, _, hb.2.1.2.1, hb.2.2.2.1.1, c_nat d1 hb.2.2.2.1 l5.2.1 (fun a m1 s1 s2 s3 _ _ => ⟨s1.1, c_addTo d1 s1 s2 s3 ?_⟩)⟩, fun g => absurd (by decide) g⟩
      rw [nI_1]
      exact go
    | succ m ih =>
      intro k hm hk6
      refine bX11_digest_66 ⟨fun g => absurd ((nI_leI (a := 6) (by omega) (by omega)).mp g) (by omega), fun _ => ⟨hq.1, c_wordFigure d3 hq hJ hR ?_⟩⟩
      rw [nI_1]
      exact ih (k + 1) (by omega) (by omega)
  have c49 : ∀ (m w : Nat), s.2.2.1.2.1.length - w = m → w ≤ s.2.2.1.2.1.length → Go (d - 1) mX11_digest Q 49 ([some (.ref p), some (.long (dgB s X w)), none, some (.int (nI w)), none], [], res.1, res.2) (pset B J) := by
    intro m
    induction m with
    | zero =>
      intro w hm hw
      refine bX11_digest_49 ⟨hq.1, _, p2, hb.1, _, hb.2.1.2.1, hb.2.2.2.1.1, c_nsize d1 hb.2.2.2.1 l5.2.1 ⟨fun _ => ?_, fun g => absurd (nI_le (show s.2.2.1.2.1.length ≤ w by omega) (by omega)) g⟩⟩
      have e : w = s.2.2.1.2.1.length := by omega
      rw [e]
      exact c118 5 0 rfl (by omega)
    | succ m ih =>
      intro w hm hw
      refine bX11_digest_49 ⟨hq.1, _, p2, hb.1, _, hb.2.1.2.1, hb.2.2.2.1.1, c_nsize d1 hb.2.2.2.1 l5.2.1 ⟨fun g => absurd ((nI_leI (by omega) (by omega)).mp g) (by omega), fun _ => ?_⟩⟩
      exact c66 w (by omega) (ih (w + 1) (by omega) (by omega)) 6 0 rfl (by omega)
  have c10 : ∀ (m k : Nat), 13 - k = m → k ≤ 13 → Go (d - 1) mX11_digest Q 10 ([some (.ref p), some (.long (dgA s 773 k)), none, some (.int (nI k)), none], [], res.1, res.2) (pset B J) := by
    intro m
    induction m with
    | zero =>
      intro k hm hk13
      have e : k = 13 := by omega
      subst e
      refine bX11_digest_10 ⟨fun _ => ⟨hq.1, _, p4, hh.1, _, hh.2.1, hh.2.2.1, c_addTo d1 hh.2.2 l7.2.1 l7.1 ?_⟩, fun g => absurd (by decide) g⟩
      rw [hX]
      exact c49 _ 0 rfl (by omega)
    | succ m ih =>
      intro k hm hk13
      refine bX11_digest_10 ⟨fun g => absurd ((nI_leI (a := 13) (by omega) (by omega)).mp g) (by omega), fun _ => ⟨hq.1, c_figure d5 hq hJ hR ?_⟩⟩
      rw [nI_1]
      exact ih (k + 1) (by omega) (by omega)
  exact c10 13 0 rfl (by omega)
def teachO (s : wS) : pR × wS := if (rdOut s.1).1 = 0 then (rI 0, ([], (rdOut s.1).2.1, (rdOut s.1).2.2, [], 0, -1, s.2.2.2.2.2.2)) else (rI (rdOut s.1).1, ([], (rdOut s.1).2.1, s.2.2))
theorem pad_swap {C : pM} {p td dr : Nat} (hq : padS C p td dr) : padS (psP (psP C p 2 (dr + 1)) p 3 (td + 1)) p dr td := by
  have hlay := hq.lay
  have hN := hq.2.2.2.2.2.2.2.2.2.2
  obtain ⟨h0, ⟨p0, p1, p2, p3, p4, p5, p7, p8⟩, h2, h3, h4, h5, h6, h7, h8, h9, h10⟩ := hq
  have e : ∀ a, a ≠ p → pK (psP (psP C p 2 (dr + 1)) p 3 (td + 1)) a = pK C a ∧ pP (psP (psP C p 2 (dr + 1)) p 3 (td + 1)) a = pP C a := fun a ha => ⟨rfl, by
    funext y
    rw [psP_at, if_neg (fun z => ha z.1), psP_at, if_neg (fun z => ha z.1)]⟩
  have ex : ∀ lo, p < lo → Ex (pset C (pI C)) C := fun _ _ => Ex.rf
  have row : ∀ q n, q ≠ p → rowS C q n → rowS (psP (psP C p 2 (dr + 1)) p 3 (td + 1)) q n := fun q n hne hr => ⟨hr.1, by rw [(e q hne).2]; exact hr.2.1, hr.2.2.1, hr.2.2.2⟩
  have nms : ∀ q n, p < q → namesS C q n → namesS (psP (psP C p 2 (dr + 1)) p 3 (td + 1)) q n := fun q n hlt hr => ⟨hr.1, by rw [(e q (by omega)).2]; exact hr.2.1, by rw [(e q (by omega)).2]; exact hr.2.2.1, row _ _ (by omega) hr.2.2.2.1, hr.2.2.2.2.1, hr.2.2.2.2.2.1, fun i hi => ⟨by rw [(e (q + 3) (by omega)).2]; exact (hr.2.2.2.2.2.2 i hi).1, row _ _ (by omega) (hr.2.2.2.2.2.2 i hi).2⟩⟩
  have kys : ∀ q, p < q → keysS C q → keysS (psP (psP C p 2 (dr + 1)) p 3 (td + 1)) q := fun q hlt hr => ⟨hr.1, by rw [(e q (by omega)).2]; exact hr.2.1, by rw [(e q (by omega)).2]; exact hr.2.2.1, row _ _ (by omega) hr.2.2.2.1, row _ _ (by omega) hr.2.2.2.2⟩
  have hnd : ∀ q, p < q → handS C q → handS (psP (psP C p 2 (dr + 1)) p 3 (td + 1)) q := fun q hlt hr => ⟨hr.1, by rw [(e q (by omega)).2]; exact hr.2.1, row _ _ (by omega) hr.2.2⟩
  have bst : ∀ q, p < q → boostsS C q → boostsS (psP (psP C p 2 (dr + 1)) p 3 (td + 1)) q := fun q hlt hr => ⟨hr.1, by rw [(e q (by omega)).2]; exact hr.2.1, row _ _ (by omega) hr.2.2.1, row _ _ (by omega) hr.2.2.2.1, row _ _ (by omega) hr.2.2.2.2.1, row _ _ (by omega) hr.2.2.2.2.2.1, row _ _ (by omega) hr.2.2.2.2.2.2.1, row _ _ (by omega) hr.2.2.2.2.2.2.2.1, nms _ _ (by omega) hr.2.2.2.2.2.2.2.2⟩
  have bok : ∀ q, p < q → bookS C q → bookS (psP (psP C p 2 (dr + 1)) p 3 (td + 1)) q := fun q hlt hr => ⟨hr.1, by rw [(e q (by omega)).2]; exact hr.2.1, nms _ _ (by omega) hr.2.2.1, nms _ _ (by omega) hr.2.2.2.1, row _ _ (by omega) hr.2.2.2.2.1, row _ _ (by omega) hr.2.2.2.2.2.1, kys _ (by omega) hr.2.2.2.2.2.2.1, bst _ (by omega) hr.2.2.2.2.2.2.2⟩
  have rck : ∀ q, p < q → reckS C q → reckS (psP (psP C p 2 (dr + 1)) p 3 (td + 1)) q := fun q hlt hr => ⟨hr.1, by rw [(e q (by omega)).2]; exact hr.2.1, row _ _ (by omega) hr.2.2⟩
  have rnk : ∀ q, p < q → rankS C q → rankS (psP (psP C p 2 (dr + 1)) p 3 (td + 1)) q := fun q hlt hr => ⟨hr.1, by rw [(e q (by omega)).2]; exact hr.2.1, row _ _ (by omega) hr.2.2.1, row _ _ (by omega) hr.2.2.2.1, row _ _ (by omega) hr.2.2.2.2.1, row _ _ (by omega) hr.2.2.2.2.2.1, row _ _ (by omega) hr.2.2.2.2.2.2.1, rck _ (by omega) hr.2.2.2.2.2.2.2⟩
  have tks : ∀ q, p < q → toksS C q → toksS (psP (psP C p 2 (dr + 1)) p 3 (td + 1)) q := fun q hlt hr => ⟨hr.1, by rw [(e q (by omega)).2]; exact hr.2.1, nms _ _ (by omega) hr.2.2.1, row _ _ (by omega) hr.2.2.2.1, row _ _ (by omega) hr.2.2.2.2.1, row _ _ (by omega) hr.2.2.2.2.2.1, row _ _ (by omega) hr.2.2.2.2.2.2⟩
  obtain ⟨g0, ⟨gp0, gp1⟩, gt, gm, gtp, gb, -⟩ := h3
  refine ⟨h0, ?_, row _ _ (by omega) h2, ⟨g0, by rw [(e (p + 3) (by omega)).2]; exact ⟨gp0, gp1⟩, tks _ (by omega) gt, row _ _ (by omega) gm, row _ _ (by omega) gtp, bok _ (by omega) h4, by omega, by omega, by omega⟩, bok _ (by omega) gb, hnd _ (by omega) h5, rnk _ (by omega) h6, hnd _ (by omega) h7, rnk _ (by omega) h8, by omega, h10⟩
  simp [psP_at, p0, p1, p4, p5, p7, p8]
