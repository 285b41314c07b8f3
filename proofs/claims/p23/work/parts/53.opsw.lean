/-! THE PAD'S CALLS: teach -/
theorem fr_chain {I J : pIm} {a b c e m n g : Nat} (h : ∀ x, (x < a ∨ b ≤ x) → (x < c ∨ e ≤ x) → (x < m ∨ n ≤ x) → x ≠ g → J x = I x) : ∃ J1 J2 J3 : pIm, Fr a b I J1 ∧ Fr c e J1 J2 ∧ Fr m n J2 J3 ∧ Fr g (g + 1) J3 J := by
  refine ⟨fun x => if a ≤ x ∧ x < b then J x else I x, fun x => if c ≤ x ∧ x < e then J x else if a ≤ x ∧ x < b then J x else I x, fun x => if m ≤ x ∧ x < n then J x else if c ≤ x ∧ x < e then J x else if a ≤ x ∧ x < b then J x else I x, fun x hx => ?_, fun x hx => ?_, fun x hx => ?_, fun x hx => ?_⟩
  · exact if_neg (by omega)
  · exact if_neg (by omega)
  · exact if_neg (by omega)
  · show J x = if m ≤ x ∧ x < n then J x else if c ≤ x ∧ x < e then J x else if a ≤ x ∧ x < b then J x else I x
    split
    · rfl
    · split
      · rfl
      · split
        · rfl
        · exact h x (by omega) (by omega) (by omega) (by omega)
theorem c_rerr {d : Nat} (hd : 1 ≤ d) {B : pM} {I : pIm} {q : Nat} {K : Int32 → pM → Prop} (hq : pK B q = (1, 7)) (h : K (I q 2) (pset B I)) : pCall_i d mX7_errorPosition (0, 0) [.ref q] (pset B I) K := by
  refine CP_go hd okX7_errorPosition (Nat.le_of_ble_eq_true rfl) ?_
  exact bX7_errorPosition_0 ⟨hq, _, rfl, h⟩
theorem o_teach {d : Nat} (hd : 121 ≤ d) {B : pM} {I : pIm} {p td dr : Nat} {s : wS} {Q : pR → pM → Prop} (hq : padS B p td dr) (hl : padD I p td dr s) (hN : pN B < pBIG) (h : padO B I p (teachO s) Q) : CP d mX11_teach (1, 6) [.ref p] (pset B I) Q := by
  refine CP_go (by omega) okX11_teach (Nat.le_of_ble_eq_true rfl) ?_
  have d120 : 120 ≤ d - 1 := by omega
  have d2 : 2 ≤ d - 1 := by omega
  have d1 : 1 ≤ d - 1 := by omega
  clear hd
  have hlay := hq.lay
  have hNB := hq.2.2.2.2.2.2.2.2.2.2
  obtain ⟨l1, l2, l3, l4, l5, ⟨b2, l6⟩, l7, l8, l9⟩ := hl
  have hg := hq.2.2.2.1
  unfold teachO at h
  refine bX11_teach_0 ⟨hq.1, _, hq.2.1.2.1, hq.1, _, hq.2.1.1, hq.1, _, hq.2.1.2.2.2.1, hg.1, (1, 5), Nat.le_refl _, (by decide), c_rread d120 hg (by omega) (by omega) (by omega) hN l8 l1 l2 l3 l6 (fun C J b' hx hNC hfr hep hbk hb' => ?_)⟩
  have hc := hq.ex hx
  obtain ⟨J1, J2, J3, f1, f2, f3, f4⟩ := fr_chain (I := I) (J := J) (a := p + 3) (b := p + 5) (c := p + 47) (e := p + 57) (m := dr) (n := dr + 527) (g := pN B) (fun x x1 x2 x3 x4 => hfr x (by omega) x3 x4)
  have tellW : ∀ {P : pIm → Prop}, (∀ {A A' : pIm} {lo hi : Nat}, P A → Fr lo hi A A' → (lo = p + 3 ∧ hi = p + 5) ∨ (lo = p + 47 ∧ hi = p + 57) ∨ (lo = dr ∧ hi = dr + 527) ∨ (lo = pN B ∧ hi = pN B + 1) → P A') → P I → P J := fun hP h0 => hP (hP (hP (hP h0 f1 (Or.inl ⟨rfl, rfl⟩)) f2 (Or.inr (Or.inl ⟨rfl, rfl⟩))) f3 (Or.inr (Or.inr (Or.inl ⟨rfl, rfl⟩)))) f4 (Or.inr (Or.inr (Or.inr ⟨rfl, rfl⟩)))
  have k5 : Bk J td s.2.2.1 := tellW (P := fun A => Bk A td s.2.2.1) (fun hA hf hw => hA.f hf (by omega)) l5
  have k7 : Hd J (p + 1111) s.2.2.2.1 s.2.2.2.2.1 s.2.2.2.2.2.1 s.2.2.2.2.2.2 := tellW (P := fun A => Hd A (p + 1111) s.2.2.2.1 s.2.2.2.2.1 s.2.2.2.2.2.1 s.2.2.2.2.2.2) (fun hA hf hw => hA.f hf (by omega)) l7
  have k8 : Nm J (p + 5) 19 keyw := tellW (P := fun A => Nm A (p + 5) 19 keyw) (fun hA hf hw => hA.f hf (by omega)) l8
  have k9 : J p 6 = 0 ∨ (J p 6 = 1 ∧ Rk J (p + 1114) (rkO s.2.2.1 s.2.2.2.1 s.2.2.2.2.1 s.2.2.2.2.2.1 s.2.2.2.2.2.2)) := tellW (P := fun A => A p 6 = 0 ∨ (A p 6 = 1 ∧ Rk A (p + 1114) (rkO s.2.2.1 s.2.2.2.1 s.2.2.2.2.1 s.2.2.2.2.2.1 s.2.2.2.2.2.2))) (fun hA hf hw => by
    rcases hA with e | e
    · exact Or.inl (by rw [hf p (by omega)]; exact e)
    · exact Or.inr ⟨by rw [hf p (by omega)]; exact e.1, e.2.f hf (by omega)⟩) l9
  have fo : ∀ x, (x < p ∨ p + 1145 ≤ x) → x < pN B → J x = I x := fun x x1 x2 => hfr x (by omega) (by omega) (by omega)
  have hh := hc.2.2.2.2.2.1
  refine ⟨hc.1, _, hc.2.1.2.1, hc.2.2.2.1.1, c_rerr d1 hc.2.2.2.1.1 ⟨hc.1, hc.1, _, hc.2.1.1, hc.2.2.1.1, ?_⟩⟩
  rw [hep, psI_set]
  have fu : Fr p (p + 1) J (u2 J p 9 (rdOut s.1).2.1) := Fr.u (by omega) (by omega)
  refine c_clear d1 hc.2.2.1 (fun J4 k4 g4 => ?_)
  have e9 : J4 p 9 = (rdOut s.1).2.1 := by rw [g4 p (by omega)]; exact u2_same
  have b4 := (hbk.f fu (by omega)).f g4 (by omega)
  have m5 := (k5.f fu (by omega)).f g4 (by omega)
  have m7 := (k7.f fu (by omega)).f g4 (by omega)
  have m8 := (k8.f fu (by omega)).f g4 (by omega)
  have fo4 : ∀ x, (x < p ∨ p + 1145 ≤ x) → x < pN B → J4 x = I x := fun x x1 x2 => by rw [g4 x (by omega), fu x (by omega)]; exact fo x x1 x2
  refine ⟨fun g => ⟨hc.1, _, hc.2.1.2.2.1, hc.1, _, hc.2.1.2.2.2.1, hc.1, hc.1, hc.1, _, (by
    show pP (psP (psP C p 2 (dr + 1)) p 3 (td + 1)) p 4 = (p + 1111) + 1
    simp [psP_at, hc.2.1.2.2.2.2.1]), hh.1, ?_⟩, fun g => ?_⟩
  · rw [if_pos g] at h
    have hs := pad_swap hc
    rw [psP_pset, psP_pset]
    refine c_forget d2 hs.2.2.2.2.2.1 m7 (fun J5 k5' f5 => ⟨hc.1, ?_⟩)
    rw [psI_set]
    have eb := hb' g
    have w5 : padW J5 p dr td ([], (rdOut s.1).2.1, (rdOut s.1).2.2, [], 0, -1, s.2.2.2.2.2.2) := ⟨k4.f f5 (by omega), by simp, fun x hx => absurd hx List.not_mem_nil, by rw [f5 p (by omega)]; exact e9, by rw [eb] at b4; exact b4.f f5 (by omega), ⟨_, m5.f f5 (by omega)⟩, k5', m8.f f5 (by omega)⟩
    obtain ⟨x1, x2⟩ := w5.un (by omega)
    rw [g]
    refine h _ _ dr td ⟨hx.1, fun a ha => ⟨(hx.2 a ha).1, (hx.2 a ha).2.2, fun hne => ?_⟩⟩ (Nat.le_of_eq hNC) hs x1 (fun x y1 y2 => ?_)
    · rw [← (hx.2 a ha).2.1]
      funext y
      rw [psP_at, if_neg (fun z => hne z.1), psP_at, if_neg (fun z => hne z.1)]
    · rw [x2 x (by omega), f5 x (by omega)]
      exact fo4 x y1 y2
  · rw [if_neg g] at h
    refine h C J4 td dr hx.p (Nat.le_of_eq hNC) hc ⟨k4, by simp, fun x hx => absurd hx List.not_mem_nil, e9, m5, ⟨_, b4⟩, m7, m8, ?_⟩ fo4
    rcases k9 with e | e
    · refine Or.inl ?_
      rw [g4 p (by omega), u2_j (by decide)]
      exact e
    · refine Or.inr ⟨?_, (e.2.f fu (by omega)).f g4 (by omega)⟩
      rw [g4 p (by omega), u2_j (by decide)]
      exact e.1
