/-! THE REFERENCE'S CALLS: take, say -/
theorem mbD.u3 {I J : pIm} {q : Nat} {b : bK} {x : List Int32} (h : mbD I q b) (f : ∀ y, q ≤ y → y < q + 11 → y ≠ q + 3 → J y = I y) (g : Ar (J (q + 3)) x) (hl : x.length = b.2.1.length) : mbD J q (b.1, b.2.1, x, b.2.2.2) := by
  obtain ⟨h0, h1, h2, h3, h4, h5, h6, h7⟩ := h
  refine ⟨?_, ?_, ?_, g, ?_, ?_, ?_, ?_⟩
  · rw [f q (by omega) (by omega) (by omega)]; exact h0
  · rw [f (q + 1) (by omega) (by omega) (by omega)]; exact h1
  · rw [f (q + 2) (by omega) (by omega) (by omega)]; exact h2
  · rw [f (q + 4) (by omega) (by omega) (by omega)]; exact h4
  · exact ⟨h5.1, h5.2.1, h5.2.2.1, hl, h5.2.2.2.2⟩
  · rw [f (q + 5) (by omega) (by omega) (by omega)]; exact h6
  · rw [f (q + 6) (by omega) (by omega) (by omega), f (q + 7) (by omega) (by omega) (by omega), f (q + 8) (by omega) (by omega) (by omega), f (q + 9) (by omega) (by omega) (by omega), f (q + 10) (by omega) (by omega) (by omega)]; exact h7
theorem m_choose {d : Nat} (hd : 1 ≤ d) {B : pM} {I : pIm} {r td dr w : Nat} {s : wS} {K : Int32 → pM → Prop} (hq : mdS B r td dr) (hl : modD I r td s) (hw : w < s.2.2.1.2.1.length) (h : ∀ J, modD J r td (tkS s (nI w)) → Fr r (r + 36) I J → J r 0 = I r 0 → K (nI w) (pset B J)) : pCall_i d mX13_choose (0, 0) [.ref r, .int (nI w)] (pset B I) K := by
  refine CP_go (by omega) okX13_choose (Nat.le_of_ble_eq_true rfl) ?_
  have hy := hq.lay
  have sb := hq.2.2.2.2.1
  have p8 := hq.2.1.2.2.2.2.2.1
  obtain ⟨l1, l2, hb, hh⟩ := hl
  have h40 := hb.2.2.2.2.2.1.2.1
  have hwl := hb.2.2.2.2.2.1.2.2.2.1
  have cw : (nI w).toNatClampNeg = w := nI_clamp (by omega)
  have vw : vp_in (nI w) 40 := vp_inN (by omega) (by omega)
  have e0 : pI (pset B I) (td + 3) w = rat s.2.2.1.2.2.1 (nI w) := ar_hd hb hw
  have e19 : I r 19 = s.2.2.2.2.1 := hh.2.2.2.1
  refine bX13_choose_0 ⟨hq.1, td, p8, sb.1, td + 3, sb.2.1.2.2.1, hq.1, td, p8, sb.1, td + 3, sb.2.1.2.2.1, 40, sb.2.2.2.2.1, vw, 40, sb.2.2.2.2.1, vw, hq.1, hq.1, hq.1, hq.1, ?_⟩
  rw [cw, e0, psI_set]
  generalize hv : (if rat s.2.2.1.2.2.1 (nI w) + 5 < 9999 then rat s.2.2.1.2.2.1 (nI w) + 5 else 9999) = v
  have e1 : pI (pset B (u2 I (td + 3) w v)) r 19 = s.2.2.2.2.1 := by
    show u2 I (td + 3) w v r 19 = _
    rw [u2_a (by omega)]; exact e19
  rw [e1, psI_set, psI_set, psI_set]
  generalize hJ0 : u2 (u2 (u2 (u2 I (td + 3) w v) r 19 (s.2.2.2.2.1 + 1)) r 20 (nI w)) r 18 0 = J0
  -- what stands, whatever the weights are
  have A0 : Ar (J0 (td + 3)) (rput s.2.2.1.2.2.1 (nI w) v) := by
    rw [← hJ0, u2_a (by omega), u2_a (by omega), u2_a (by omega)]
    exact hb.2.2.2.1.put (by omega)
  have F0 : ∀ y, y ≠ r → y ≠ td + 3 → J0 y = I y := fun y h1 h2 => by rw [← hJ0, u2_a h1, u2_a h1, u2_a h1, u2_a h2]
  have G0 : ∀ f, f ≠ 18 → f ≠ 19 → f ≠ 20 → J0 r f = I r f := fun f h1 h2 h3 => by rw [← hJ0, u2_j h1, u2_j h3, u2_j h2, u2_a (by omega)]
  have e18 : J0 r 18 = 0 := by rw [← hJ0]; exact u2_same
  have e20 : J0 r 20 = nI w := by rw [← hJ0, u2_j (by decide)]; exact u2_same
  have e19' : J0 r 19 = s.2.2.2.2.1 + 1 := by rw [← hJ0, u2_j (by decide), u2_j (by decide)]; exact u2_same
  clear hJ0
  have fin : ∀ (J : pIm) (x : List Int32), (∀ y, y ≠ td + 3 → J y = J0 y) → Ar (J (td + 3)) x → x.length = s.2.2.1.2.1.length → x = (if (s.2.2.2.2.1 + 1) - (s.2.2.2.2.1 + 1) / 8 * 8 = 0 then fadeL (rput s.2.2.1.2.2.1 (nI w) v) else rput s.2.2.1.2.2.1 (nI w) v) → K (nI w) (pset B J) := by
    intro J x fJ aJ xl ex
    have er : J r = J0 r := fJ r (by omega)
    refine h J ⟨l1.cg (by rw [er]; exact G0 2 (by decide) (by decide) (by decide)) (by rw [fJ _ (by omega), F0 _ (by omega) (by omega)]), by rw [er, G0 3 (by decide) (by decide) (by decide)]; exact l2, ?_, ?_⟩ (fun y hy2 => by rw [fJ y (by omega), F0 y (by omega) (by omega)]) (by rw [er]; exact G0 0 (by decide) (by decide) (by decide))
    · have := hb.u3 (J := J) (x := x) (fun y h1 h2 h3 => by rw [fJ y h3, F0 y (by omega) h3]) aJ xl
      show mbD J td (tkB s.2.2.1 s.2.2.2.2.1 (nI w))
      unfold tkB
      rw [hv, ← ex]
      exact this
    · refine ⟨by rw [er]; exact e18, by simp [tkS], (fun j y hj => nomatch hj), by rw [er]; exact e19', by rw [er]; exact e20, ?_⟩
      rw [er, G0 21 (by decide) (by decide) (by decide)]
      exact hh.2.2.2.2.2
  have hxl : (rput s.2.2.1.2.2.1 (nI w) v).length = s.2.2.1.2.1.length := by rw [rput_len]; exact hwl
  generalize rput s.2.2.1.2.2.1 (nI w) v = x0 at A0 fin hxl
  have key : ∀ (m k : Nat) (J : pIm), s.2.2.1.2.1.length - k = m → k ≤ s.2.2.1.2.1.length → (∀ y, y ≠ td + 3 → J y = J0 y) → (∀ j x, x0[j]? = some x → J (td + 3) j = if j < k then x - x / 8 else x) → (0 < k → (s.2.2.2.2.1 + 1) - (s.2.2.2.2.1 + 1) / 8 * 8 = 0) → Go (d - 1) mX13_choose (fun r M1 => ∃ v, r = .inl (some (.int v)) ∧ K v M1) 48 ([some (.ref r), some (.int (nI w)), some (.int (nI k))], [], 0, 0) (pset B J) := by
    intro m
    induction m with
    | zero =>
      intro k J hm hk fJ aJ hz
      have e1 : pI (pset B J) td 1 = nI s.2.2.1.2.1.length := by
        show J td 1 = _
        rw [fJ td (by omega), F0 td (by omega) (by omega)]; exact hb.1.2.1
      refine bX13_choose_48 ⟨hq.1, td, p8, sb.1, fun _ => ⟨_, rfl, ?_⟩, fun g => absurd (by rw [e1]; exact nI_le (by omega) (by omega)) g⟩
      refine fin J (fadeL x0) fJ (fun j x hx => ?_) (by unfold fadeL; rw [List.length_map]; exact hxl) (by rw [if_pos (hz (by omega))])
      unfold fadeL at hx
      rw [List.getElem?_map] at hx
      cases hj : x0[j]? with
      | none => rw [hj] at hx; exact nomatch hx
      | some y =>
        rw [hj] at hx
        have hj2 := (List.getElem?_eq_some_iff.mp hj).1
        rw [aJ j y hj, if_pos (by omega)]
        exact Option.some.inj hx
    | succ m ih =>
      intro k J hm hk fJ aJ hz
      have e1 : pI (pset B J) td 1 = nI s.2.2.1.2.1.length := by
        show J td 1 = _
        rw [fJ td (by omega), F0 td (by omega) (by omega)]; exact hb.1.2.1
      have e2 : pI (pset B J) r 19 = s.2.2.2.2.1 + 1 := by
        show J r 19 = _
        rw [fJ r (by omega)]; exact e19'
      have vk : vp_in (nI k) 40 := vp_inN (by omega) (by omega)
      have hkx : k < x0.length := by omega
      have ek := List.getElem?_eq_getElem hkx
      refine bX13_choose_48 ⟨hq.1, td, p8, sb.1, fun g => ?_, fun _ => ⟨hq.1, ?_⟩⟩
      · exfalso
        rw [e1] at g
        have := (nI_leI (by omega) (by omega)).mp g
        omega
      · rw [e2]
        refine ⟨fun g => ⟨hq.1, td, p8, sb.1, td + 3, sb.2.1.2.2.1, 40, sb.2.2.2.2.1, vk, hq.1, td, p8, sb.1, td + 3, sb.2.1.2.2.1, 40, sb.2.2.2.2.1, vk, 40, sb.2.2.2.2.1, vk, ?_⟩, fun g => ⟨_, rfl, ?_⟩⟩
        · have e3 : pI (pset B J) (td + 3) k = x0[k] := by
            have := aJ k _ ek
            rw [if_neg (by omega)] at this
            exact this
          rw [nI_clamp (by omega), nI_1, e3, psI_set]
          refine ih (k + 1) _ (by omega) (by omega) (fun y hy2 => by rw [u2_a hy2]; exact fJ y hy2) (fun j x hx => ?_) (fun _ => g)
          by_cases c : j = k
          · subst c
            rw [ek] at hx
            rw [u2_same, if_pos (by omega), Option.some.inj hx]
          · rw [u2_j c, aJ j x hx]
            by_cases c2 : j < k
            · rw [if_pos c2, if_pos (by omega)]
            · rw [if_neg c2, if_neg (by omega)]
        · have hk0 : k = 0 := Nat.eq_zero_of_not_pos (fun z => g (hz z))
          subst hk0
          refine fin J x0 fJ (fun j x hx => ?_) hxl (by rw [if_neg g])
          rw [aJ j x hx, if_neg (by omega)]
  exact key _ 0 J0 rfl (by omega) (fun _ _ => rfl) (fun j x hx => by rw [if_neg (by omega)]; exact A0 j x hx) (fun z => absurd z (by omega))
theorem m_take {d : Nat} (hd : 408 ≤ d) {B : pM} {I : pIm} {r td dr : Nat} {cd : String → Int32} {s : wS} {k : Int32} {K : Int32 → pM → Prop} (hc : cd xIOB = 1) (hc2 : cd xISE = 2) (hq : mdS B r td dr) (hl : modD I r td s) (h : modO B I r cd (takeO s k) K) : pCall_i d mX13_take_ (0, 0) [.ref r, .int k] (pset B I) K := by
  refine CP_go (by omega) okX13_take_ (Nat.le_of_ble_eq_true rfl) ?_
  obtain ⟨g1, g2, g3⟩ := hl.th hq (n := 0)
  have d1 : 1 ≤ d - 1 := by omega
  have d407 : 407 ≤ d - 1 := by omega
  have p26 := hq.2.2.1.2.2.2.2.2.2.2
  have K35 := hq.2.2.2.1.2.2.2.2.2.2.2.2.2.2.2.2
  unfold takeO at h
  refine bX13_take__0 ⟨hq.1, c_misIn d1 ?_⟩
  rw [psI_set]
  by_cases c1 : k < 0
  · rw [if_pos c1] at h
    rw [isInI_f (Or.inl c1)]
    exact ⟨fun _ => ⟨hq.1, (m_no d1 hq g1 g2 hc.symm h).mono (fun v M1 q => ⟨v, rfl, q⟩)⟩, fun z => absurd rfl z⟩
  rw [if_neg c1] at h
  by_cases c2 : k < 5
  · rw [if_pos c2] at h
    rw [isInI_t c1 ((lt_lit (by decide)).mp c2)]
    refine ⟨fun z => absurd z (by decide), fun _ => ⟨hq.1, m_look d407 hq g1 (fun J x1 x2 x3 x4 => ⟨hq.1, ?_⟩)⟩⟩
    obtain ⟨O, o1, o2, o3, o4, o5, o6, o7, -⟩ := lk_O x1.2.2.1 x4
    obtain ⟨p, hp, rfl⟩ := nI_of c1
    have hp5 : p < 5 := (nI_ltI hp (by omega)).mp c2
    have e27 : pI (pset B J) r 27 = nI O.length := o1
    have e7 := o7 p hp5
    rw [e27]
    refine ⟨fun g => ⟨hq.1, ?_⟩, fun g => ⟨hq.1, r + 35, p26, 40, K35, vp_inN (by omega) (by omega), hq.1, ?_⟩⟩
    · rw [List.getElem?_eq_none ((nI_leI (by omega) hp).mp g)] at e7
      rw [e7, if_neg (by decide)] at h
      exact (m_no d1 hq x1 (g2.tr x2) hc2.symm h).mono (fun v M1 q => ⟨v, rfl, q⟩)
    · have hpO : p < O.length := Nat.not_le.mp (fun z => g (nI_le z hp))
      have ep := List.getElem?_eq_getElem hpO
      rw [ep] at e7
      have hOp := o4 _ (List.mem_of_getElem? ep)
      have h40 := x1.2.2.1.2.2.2.2.2.1.2.1
      have er : pI (pset B J) (r + 35) p = nI O[p] := o2 p _ (by rw [List.getElem?_map, ep]; rfl)
      rw [nI_clamp hp, er]
      have e7' : rat (rkO s.2.2.1 s.2.2.2.1 s.2.2.2.2.1 s.2.2.2.2.2.1 s.2.2.2.2.2.2).2.2.2.1 (nI p) = nI O[p] := e7
      rw [e7', if_pos (nI_pos' (by omega))] at h
      exact m_choose d1 hq x1 hOp (fun J2 y1 y2 y3 => ⟨_, rfl, mod_stay (B := B) hq y1 ((g2.tr x2).tr y2) (y3.trans (x3.trans u2_same)) h⟩)
  · rw [if_neg c2] at h
    rw [isInI_f (Or.inr (Decidable.not_not.mp (fun z => c2 ((lt_lit (by decide)).mpr z))))]
    exact ⟨fun _ => ⟨hq.1, (m_no d1 hq g1 g2 hc.symm h).mono (fun v M1 q => ⟨v, rfl, q⟩)⟩, fun z => absurd rfl z⟩
theorem ndS_mono {op one two : Nat → Int32} {nw nw' : Nat} (hn : nw ≤ nw') : ∀ {f n : Nat} {s : List pS}, ndS op one two nw f n s → ndS op one two nw' f n s := by
  intro f
  induction f with
  | zero => intro n s h; exact h.elim
  | succ f ih =>
    intro n s h
    obtain ⟨h0, h⟩ := h
    refine ⟨h0, ?_⟩
    rcases h with h | h | ⟨e, w, hw, h⟩ | ⟨e, a, s1, ea, ha, h⟩ | ⟨e, a, c, s1, s2, ea, ec, ha, hc, h⟩
    · exact Or.inl h
    · exact Or.inr (Or.inl h)
    · exact Or.inr (Or.inr (Or.inl ⟨e, w, by omega, h⟩))
    · exact Or.inr (Or.inr (Or.inr (Or.inl ⟨e, a, s1, ea, ih ha, h⟩)))
    · exact Or.inr (Or.inr (Or.inr (Or.inr ⟨e, a, c, s1, s2, ea, ec, ih ha, ih hc, h⟩)))
theorem ndT_mono {op one two tx : Nat → Int32} {nw nw' : Nat} (hn : nw ≤ nw') : ∀ {f n : Nat} {s : List pS}, ndT op one two tx nw f n s → ndT op one two tx nw' f n s := by
  intro f
  induction f with
  | zero => intro n s h; exact h.elim
  | succ f ih =>
    intro n s h
    obtain ⟨h0, h⟩ := h
    refine ⟨h0, ?_⟩
    rcases h with h | h | ⟨e, a, s1, ea, ha, h⟩ | ⟨e, a, c, s1, s2, ea, ec, ha, hc, h⟩ | ⟨e, a, c, s1, s2, ea, ec, ha, hc, h⟩
    · exact Or.inl h
    · exact Or.inr (Or.inl h)
    · exact Or.inr (Or.inr (Or.inl ⟨e, a, s1, ea, ih ha, h⟩))
    · exact Or.inr (Or.inr (Or.inr (Or.inl ⟨e, a, c, s1, s2, ea, ec, ih ha, ih hc, h⟩)))
    · exact Or.inr (Or.inr (Or.inr (Or.inr ⟨e, a, c, s1, s2, ea, ec, ndS_mono hn ha, ndS_mono hn hc, h⟩)))
theorem bqD_mono {bo op one two tx : Nat → Int32} {nw nw' : Nat} {b : bB} (hn : nw ≤ nw') (h : bqD bo op one two tx nw b) : bqD bo op one two tx nw' b := by
  obtain ⟨L, h1, h2, h3, h4, h5, h6⟩ := h
  refine ⟨L, h1, h2, h3, h4, h5, fun i x hx => ?_⟩
  obtain ⟨q1, q2, ⟨a, ea, ha⟩, c, ec, hc⟩ := h6 i x hx
  exact ⟨q1, q2, ⟨a, ea, ndS_mono hn ha⟩, c, ec, ndT_mono hn hc⟩
/-- one word more -/
theorem mbD.word {I J : pIm} {q : Nat} {b : bK} {l : List Int32} (h : mbD I q b) (h40 : b.2.1.length < 40) (h1 : 1 ≤ l.length) (h10 : l.length ≤ 10) (f : ∀ y, y = q + 5 ∨ y = q + 6 ∨ y = q + 7 ∨ y = q + 8 ∨ y = q + 9 ∨ y = q + 10 → J y = I y) (f0 : ∀ j, j ≠ 1 → J q j = I q j) (e1 : J q 1 = nI (b.2.1.length + 1)) (g1 : ∀ j, j < 10 * b.2.1.length → J (q + 1) j = I (q + 1) j) (g1' : ∀ k x, l[k]? = some x → J (q + 1) (10 * b.2.1.length + k) = x) (g2 : ∀ j, j < b.2.1.length → J (q + 2) j = I (q + 2) j) (g2' : J (q + 2) b.2.1.length = nI l.length) (g3 : ∀ j, j < b.2.1.length → J (q + 3) j = I (q + 3) j) (g3' : J (q + 3) b.2.1.length = 1) (g4 : ∀ j, j < b.2.1.length → J (q + 4) j = I (q + 4) j) (g4' : J (q + 4) b.2.1.length = -1) : mbD J q (addB b l) := by
  obtain ⟨⟨a0, a1, a2, a3⟩, w1, w2, w3, w4, ⟨k1, k2, k3, k4, k5⟩, w6, w7⟩ := h
  have ew : rput (pushL 40 b.2.2.1 0) (nI b.2.1.length) 1 = b.2.2.1 ++ [1] := by
    rw [pushL_lt (by omega), rput_nI (by omega), ← k4]
    simp
  have et : pushL 40 b.2.2.2.1 (-1) = b.2.2.2.1 ++ [-1] := pushL_lt (by omega)
  unfold addB
  rw [ew, et]
  refine ⟨⟨by rw [f0 0 (by decide)]; exact a0, by rw [e1, List.length_append]; rfl, by rw [f0 2 (by decide)]; exact a2, by rw [f0 3 (by decide)]; exact a3⟩, ?_, ?_, ?_, ?_, ⟨k1, by rw [List.length_append]; exact h40, ?_, ?_, ?_⟩, by rw [f (q + 5) (by omega)]; exact w6, ?_⟩
  · intro w m hm k x hx
    by_cases c : w < b.2.1.length
    · have hm' : b.2.1[w]? = some m := by
        have : (b.2.1 ++ [l])[w]? = some m := hm
        rw [List.getElem?_append_left c] at this
        exact this
      have hk := (List.getElem?_eq_some_iff.mp hx).1
      have := (k3 m (List.mem_of_getElem? hm')).2
      rw [g1 _ (by omega)]
      exact w1 w m hm' k x hx
    · have hw : w = b.2.1.length := by
        have : w < (b.2.1 ++ [l]).length := (List.getElem?_eq_some_iff.mp hm).1
        rw [List.length_append] at this
        have e : [l].length = 1 := rfl
        omega
      subst hw
      have : (b.2.1 ++ [l])[b.2.1.length]? = some m := hm
      rw [List.getElem?_append_right (Nat.le_refl _), Nat.sub_self] at this
      have e : l = m := Option.some.inj this
      subst e
      exact g1' k x hx
  · have e : (b.2.1 ++ [l]).map (fun l => nI l.length) = b.2.1.map (fun l => nI l.length) ++ [nI l.length] := by rw [List.map_append]; rfl
    show Ar (J (q + 2)) ((b.2.1 ++ [l]).map (fun l => nI l.length))
    rw [e]
    exact w2.push _ (fun j hj => g2 j (by rw [List.length_map] at hj; exact hj)) (by rw [List.length_map]; exact g2')
  · exact w3.push _ (fun j hj => g3 j (by omega)) (by rw [k4]; exact g3')
  · exact w4.push _ (fun j hj => g4 j (by omega)) (by rw [k5]; exact g4')
  · intro m hm
    rcases List.mem_append.mp hm with hm | hm
    · exact k3 m hm
    · have e : m = l := List.mem_singleton.mp hm
      subst e
      exact ⟨h1, h10⟩
  · show (b.2.2.1 ++ [1]).length = (b.2.1 ++ [l]).length
    rw [List.length_append, List.length_append, k4]; rfl
  · show (b.2.2.2.1 ++ [-1]).length = (b.2.1 ++ [l]).length
    rw [List.length_append, List.length_append, k5]; rfl
  · rw [f (q + 6) (by omega), f (q + 7) (by omega), f (q + 8) (by omega), f (q + 9) (by omega), f (q + 10) (by omega)]
    exact bqD_mono (by rw [List.length_append]; omega) w7
theorem m_say {d : Nat} (hd : 3 ≤ d) {B : pM} {I : pIm} {r td dr : Nat} {cd : String → Int32} {s : wS} {K : Int32 → pM → Prop} (hc : cd xISE = 1) (hq : mdS B r td dr) (hl : modD I r td s) (h : modO B I r cd (sayO s) K) : pCall_i d mX13_say (0, 0) [.ref r] (pset B I) K := by
  refine CP_go (by omega) okX13_say (Nat.le_of_ble_eq_true rfl) ?_
  obtain ⟨g1, g2, g3⟩ := hl.th hq (n := 0)
  have hy := hq.lay
  have d1 : 1 ≤ d - 1 := by omega
  have d2 : 2 ≤ d - 1 := by omega
  have sb := hq.2.2.2.2.1
  have p8 := hq.2.1.2.2.2.2.2.1
  have p17 := hq.2.2.1.2.2.1
  have K30 := hq.2.2.2.1.2.2.2.2.2.2.2.1
  have hb := g1.2.2.1
  have hh := g1.2.2.2
  have h40 := hb.2.2.2.2.2.1.2.1
  have h20 := hh.2.1
  unfold sayO at h
  generalize hI0 : u2 I r 0 0 = I0 at g1 g2 hb hh
  have z0 : I0 r 0 = 0 := by rw [← hI0]; exact u2_same
  have e18 : pI (pset B I0) r 18 = nI s.2.2.2.1.length := hh.1
  have e1 : pI (pset B I0) td 1 = nI s.2.2.1.2.1.length := hb.1.2.1
  have no : ∀ {x : wS}, modO B I r cd (.inr xISE, x) K → x = s → Go (d - 1) mX13_say (fun r M1 => ∃ v, r = .inl (some (.int v)) ∧ K v M1) 21 ([some (.ref r), none, none], [], 0, 0) (pset B I0) := fun hx ex => by
    subst ex
    exact bX13_say_21 ⟨hq.1, (m_no d1 hq g1 g2 hc.symm hx).mono (fun v M1 q => ⟨v, rfl, q⟩)⟩
  have ep : psI (pset B I) r 0 0 = pset B I0 := by rw [psI_set, hI0]
  refine bX13_say_0 ⟨hq.1, hq.1, ?_⟩
  rw [ep, e18]
  have h20' : s.2.2.2.1.length ≤ 20 := h20
  refine ⟨fun g => ?_, fun g => ⟨hq.1, fun g4 => ?_, fun g4 => ?_⟩⟩
  · rw [if_pos ((nI_eq (b := 0) (by omega) (by omega)).mp g)] at h
    exact no h rfl
  · have hne : s.2.2.2.1.length ≠ 0 := fun z => g (by rw [z]; rfl)
    have h10 : s.2.2.2.1.length ≤ 10 := (nI_leI (b := 10) (by omega) (by omega)).mp g4
    rw [if_neg hne, if_pos h10] at h
    have key : ∀ (m k : Nat), s.2.2.1.2.1.length - k = m → k ≤ s.2.2.1.2.1.length → fidx s.2.2.1.2.1 s.2.2.2.1 0 = fidx (s.2.2.1.2.1.drop k) s.2.2.2.1 k → Go (d - 1) mX13_say (fun r M1 => ∃ v, r = .inl (some (.int v)) ∧ K v M1) 29 ([some (.ref r), some (.int (nI k)), none], [], 0, 0) (pset B I0) := by
      intro m
      induction m with
      | zero =>
        intro k hm hk ek
        rw [List.drop_of_length_le (by omega)] at ek
        have ef : fidx s.2.2.1.2.1 s.2.2.2.1 0 = -1 := ek
        rw [ef, if_neg (by decide)] at h
        refine bX13_say_29 ⟨hq.1, td, p8, sb.1, fun _ => ⟨hq.1, td, p8, sb.1, fun g5 => ⟨hq.1, ?_⟩, fun g5 => ⟨hq.1, td, p8, sb.1, ?_⟩⟩, fun g5 => absurd (by rw [e1]; exact nI_le (by omega) (by omega)) g5⟩
        · rw [e1] at g5
          have := (nI_eq (b := 40) (by omega) (by omega)).mp g5
          rw [if_neg (by omega)] at h
          exact (m_no d1 hq g1 g2 hc.symm h).mono (fun v M1 q => ⟨v, rfl, q⟩)
        · rw [e1] at g5
          have hlt : s.2.2.1.2.1.length < 40 := by
            have : s.2.2.1.2.1.length ≠ 40 := fun z => g5 (by rw [z]; rfl)
            omega
          rw [if_pos hlt] at h
          rw [e1]
          -- the letters of the new word
          have c104 : ∀ (m k : Nat) (J : pIm), s.2.2.2.1.length - k = m → k ≤ s.2.2.2.1.length → (∀ y, y ≠ td + 1 → J y = I0 y) → (∀ j, j < 10 * s.2.2.1.2.1.length → J (td + 1) j = I0 (td + 1) j) → (∀ j x, s.2.2.2.1[j]? = some x → j < k → J (td + 1) (10 * s.2.2.1.2.1.length + j) = x) → Go (d - 1) mX13_say (fun r M1 => ∃ v, r = .inl (some (.int v)) ∧ K v M1) 104 ([some (.ref r), some (.int (nI s.2.2.1.2.1.length)), some (.int (nI k))], [], 0, 0) (pset B J) := by
            intro m
            induction m with
            | zero =>
              intro k J hm hk fJ a1 a2
              have e18J : pI (pset B J) r 18 = nI s.2.2.2.1.length := by
                show J r 18 = _
                rw [fJ r (by omega)]; exact hh.1
              have vn : vp_in (nI s.2.2.1.2.1.length) 40 := vp_inN (by omega) (by omega)
              refine bX13_say_104 ⟨hq.1, fun _ => ⟨hq.1, td, p8, sb.1, td + 2, sb.2.1.2.1, hq.1, 40, sb.2.2.2.1, vn, hq.1, td, p8, sb.1, td + 3, sb.2.1.2.2.1, 40, sb.2.2.2.2.1, vn, hq.1, td, p8, sb.1, td + 4, sb.2.1.2.2.2.1, 40, sb.2.2.2.2.2.1, vn, hq.1, td, p8, sb.1, sb.1, hq.1, ?_⟩, fun g6 => absurd (by rw [e18J]; exact nI_le (by omega) (by omega)) g6⟩
              rw [nI_clamp (show s.2.2.1.2.1.length < 2 ^ 31 by omega), e18J, psI_set, psI_set, psI_set]
              have e1J : pI (pset B (u2 (u2 (u2 J (td + 2) s.2.2.1.2.1.length (nI s.2.2.2.1.length)) (td + 3) s.2.2.1.2.1.length 1) (td + 4) s.2.2.1.2.1.length (-1))) td 1 = nI s.2.2.1.2.1.length := by
                show u2 (u2 (u2 J (td + 2) _ _) (td + 3) _ _) (td + 4) _ _ td 1 = _
                rw [u2_a (by omega), u2_a (by omega), u2_a (by omega), fJ td (by omega)]
                exact hb.1.2.1
              rw [e1J, nI_1, psI_set]
              have hw2 : mbD (u2 (u2 (u2 (u2 J (td + 2) s.2.2.1.2.1.length (nI s.2.2.2.1.length)) (td + 3) s.2.2.1.2.1.length 1) (td + 4) s.2.2.1.2.1.length (-1)) td 1 (nI (s.2.2.1.2.1.length + 1))) td (addB s.2.2.1 s.2.2.2.1) := by
                refine hb.word hlt (by omega) h10 (fun y hy2 => ?_) (fun j hj => ?_) u2_same (fun j hj => ?_) (fun j x hx => ?_) (fun j hj => ?_) ?_ (fun j hj => ?_) ?_ (fun j hj => ?_) ?_
                · rw [u2_a (by omega), u2_a (by omega), u2_a (by omega), u2_a (by omega), fJ y (by omega)]
                · rw [u2_j hj, u2_a (by omega), u2_a (by omega), u2_a (by omega), fJ td (by omega)]
                · rw [u2_a (by omega), u2_a (by omega), u2_a (by omega), u2_a (by omega)]; exact a1 j hj
                · have hj2 := (List.getElem?_eq_some_iff.mp hx).1
                  rw [u2_a (by omega), u2_a (by omega), u2_a (by omega), u2_a (by omega)]; exact a2 j x hx (by omega)
                · rw [u2_a (by omega), u2_a (by omega), u2_a (by omega), u2_j (by omega), fJ _ (by omega)]
                · rw [u2_a (by omega), u2_a (by omega), u2_a (by omega)]; exact u2_same
                · rw [u2_a (by omega), u2_a (by omega), u2_j (by omega), u2_a (by omega), fJ _ (by omega)]
                · rw [u2_a (by omega), u2_a (by omega)]; exact u2_same
                · rw [u2_a (by omega), u2_j (by omega), u2_a (by omega), u2_a (by omega), fJ _ (by omega)]
                · rw [u2_a (by omega)]; exact u2_same
              generalize hJ9 : u2 (u2 (u2 (u2 J (td + 2) s.2.2.1.2.1.length (nI s.2.2.2.1.length)) (td + 3) s.2.2.1.2.1.length 1) (td + 4) s.2.2.1.2.1.length (-1)) td 1 (nI (s.2.2.1.2.1.length + 1)) = J9 at hw2
              have fJ9 : ∀ y, (y < td ∨ td + 5 ≤ y) → J9 y = I0 y := fun y hy2 => by rw [← hJ9, u2_a (by omega), u2_a (by omega), u2_a (by omega), u2_a (by omega), fJ y (by omega)]
              have hm9 : modD J9 r td (s.1, s.2.1, addB s.2.2.1 s.2.2.2.1, s.2.2.2) := ⟨g1.1.cg (by rw [fJ9 r (by omega)]) (fJ9 _ (by omega)), by rw [fJ9 r (by omega)]; exact g1.2.1, hw2, hh.cg (fun y hy2 => by rw [fJ9 r (by omega)]) (fJ9 _ (by omega))⟩
              refine m_choose d1 hq hm9 (by show s.2.2.1.2.1.length < (s.2.2.1.2.1 ++ [s.2.2.2.1]).length; rw [List.length_append]; exact Nat.lt_succ_self _) (fun J2 y1 y2 y3 => ⟨_, rfl, mod_stay (B := B) hq y1 ((g2.tr (fun y hy2 => fJ9 y (by omega))).tr y2) (y3.trans (by rw [fJ9 r (by omega)]; exact z0)) h⟩)
            | succ m ih =>
              intro k J hm hk fJ a1 a2
              have e18J : pI (pset B J) r 18 = nI s.2.2.2.1.length := by
                show J r 18 = _
                rw [fJ r (by omega)]; exact hh.1
              have hkl : k < s.2.2.2.1.length := by omega
              have ek := List.getElem?_eq_getElem hkl
              have e3 : (10 : Int32) * nI s.2.2.1.2.1.length + nI k = nI (10 * s.2.2.1.2.1.length + k) := by
                rw [show (10 : Int32) * nI s.2.2.1.2.1.length = nI (10 * s.2.2.1.2.1.length) from nI_mul 10 _, nI_add]
              refine bX13_say_104 ⟨hq.1, fun g6 => ?_, fun _ => ⟨hq.1, td, p8, sb.1, td + 1, sb.2.1.1, hq.1, r + 30, p17, 20, K30, vp_inN (by omega) (by omega), 400, sb.2.2.1, by rw [e3]; exact vp_inN (by omega) (by omega), ?_⟩⟩
              · exfalso
                rw [e18J] at g6
                have := (nI_leI (by omega) (by omega)).mp g6
                omega
              · have ety : pI (pset B J) (r + 30) k = s.2.2.2.1[k] := by
                  show J (r + 30) k = _
                  rw [fJ _ (by omega)]
                  exact hh.2.2.1 k _ ek
                rw [e3, nI_clamp (show k < 2 ^ 31 by omega), nI_clamp (show 10 * s.2.2.1.2.1.length + k < 2 ^ 31 by omega), ety, nI_1, psI_set]
                refine ih (k + 1) _ (by omega) (by omega) (fun y hy2 => by rw [u2_a hy2]; exact fJ y hy2) (fun j hj => by rw [u2_j (by omega)]; exact a1 j hj) (fun j x hx hj => ?_)
                by_cases c : j = k
                · subst c
                  rw [ek] at hx
                  rw [u2_same]
                  exact Option.some.inj hx
                · rw [u2_j (by omega)]
                  exact a2 j x hx (by omega)
          exact c104 _ 0 I0 rfl (by omega) (fun _ _ => rfl) (fun _ _ => rfl) (fun j x _ hj => absurd hj (by omega))
      | succ m ih =>
        intro k hm hk ek
        have hkn : k < s.2.2.1.2.1.length := by omega
        have elat : lat s.2.2.1.2.1 (nI k) = s.2.2.1.2.1[k] := lat_in (List.getElem?_eq_getElem hkn) (by omega)
        obtain ⟨a1, a2, a3, a4⟩ := lat_at hb hkn
        rw [List.drop_eq_getElem_cons hkn, fidx] at ek
        have next : ¬ s.2.2.1.2.1[k] = s.2.2.2.1 → Go (d - 1) mX13_say (fun r M1 => ∃ v, r = .inl (some (.int v)) ∧ K v M1) 70 ([some (.ref r), some (.int (nI k)), none], [], 0, 0) (pset B I0) := by
          intro hne2
          rw [if_neg hne2] at ek
          refine bX13_say_70 ?_
          rw [nI_1]
          exact ih (k + 1) (by omega) (by omega) ek
        refine bX13_say_29 ⟨hq.1, td, p8, sb.1, fun g5 => ?_, fun _ => ⟨hq.1, c_misBegin d2 hq hb hh hkn ⟨fun g5 => next (fun z => ?_), fun g5 => ⟨hq.1, td, p8, sb.1, td + 2, sb.2.1.2.1, 40, sb.2.2.2.1, vp_inN (by omega) (by omega), hq.1, ?_⟩⟩⟩⟩
        · exfalso
          rw [e1] at g5
          have := (nI_leI (by omega) (by omega)).mp g5
          omega
        · refine bI_eq0.mp g5 ?_
          rw [elat, z]
          exact List.prefix_rfl
        · have hpre := Decidable.not_not.mp (fun z => g5 (bI_eq0.mpr z))
          have el : pI (pset B I0) (td + 2) k = nI (lat s.2.2.1.2.1 (nI k)).length := a1
          rw [nI_clamp (by omega), el, e18]
          refine ⟨fun g6 => ⟨hq.1, ?_⟩, fun g6 => next (fun z => g6 (by rw [elat, z]))⟩
          have e6 := (nI_eq (by omega) (by omega)).mp g6
          have e7 : s.2.2.1.2.1[k] = s.2.2.2.1 := by
            rw [elat] at hpre e6
            exact (hpre.eq_of_length e6.symm).symm
          rw [if_pos e7] at ek
          rw [ek, if_pos (nI_pos' (by omega))] at h
          exact m_choose d1 hq g1 hkn (fun J2 y1 y2 y3 => ⟨_, rfl, mod_stay (B := B) hq y1 (g2.tr y2) (y3.trans z0) h⟩)
    exact key _ 0 rfl (by omega) rfl
  · have hne : s.2.2.2.1.length ≠ 0 := fun z => g (by rw [z]; rfl)
    rw [if_neg hne, if_neg (fun z => g4 (nI_le (b := 10) z (by omega)))] at h
    exact no h rfl
