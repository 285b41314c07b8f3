theorem s_alen2 {mi : pMI} {pc : Nat} (hd : decode mi.2.1 pc = .ok (.arraylength, 1)) : OpS mi pc (o_alen 2 (pc + 1)) := by
  refine ⟨fun C C' X X' Q Q' f M hC hC' hCC hX hQ h => ?_, fun w hw d C hC p e R s m args below meth c Z Q A f M h => ?_⟩
  · obtain ⟨L, S, c0, s0⟩ := f
    rcases S with _ | ⟨v1, S⟩
    · exact False.elim h
    cases v1 with
    | ref x1 =>
      obtain ⟨len, h1, h3⟩ := h; exact ⟨len, h1, hX _ _ _ h3⟩
    | _ => exact False.elim h
  · obtain ⟨L, S, c0, s0⟩ := f
    rcases S with _ | ⟨v1, S⟩
    · exact False.elim h
    cases v1 with
    | ref x1 =>
      intro H locs cells slots ls hH hL hc hs hS
      obtain ⟨hx, hb, hml, hown, hlocks, hrt, hnm, htab, hW, hlow, hfr, hlo, hsz, hend⟩ := A
      obtain ⟨len, h1, h3⟩ := h
      show W p (pWl w) e R s m args below meth c H locs cells slots Z (F0 m pc ls (.ref (pAd w x1) :: S.map (ptr w)))
      rw [hH.ad h1]
      have hcell := hH.2.2.2.2.1 x1 len h1
      have hK := act_K hw hW
      refine W.alen (n := Int32.ofNat len) hx hb hcell ((hK.2 0 _ rfl).1 len (fun j => .int (pI M x1 j))) (by show Int32.ofNat (arrV _ _ _).slots.size = _; rw [arrV_size]) rfl rfl hd ?_
      exact h3 H locs cells slots ls hH hL hc hs hS
    | _ => exact False.elim h
theorem s_alen4 {mi : pMI} {pc : Nat} (hd : decode mi.2.1 pc = .ok (.arraylength, 1)) : OpS mi pc (o_alen 4 (pc + 1)) := by
  refine ⟨fun C C' X X' Q Q' f M hC hC' hCC hX hQ h => ?_, fun w hw d C hC p e R s m args below meth c Z Q A f M h => ?_⟩
  · obtain ⟨L, S, c0, s0⟩ := f
    rcases S with _ | ⟨v1, S⟩
    · exact False.elim h
    cases v1 with
    | ref x1 =>
      obtain ⟨len, h1, h3⟩ := h; exact ⟨len, h1, hX _ _ _ h3⟩
    | _ => exact False.elim h
  · obtain ⟨L, S, c0, s0⟩ := f
    rcases S with _ | ⟨v1, S⟩
    · exact False.elim h
    cases v1 with
    | ref x1 =>
      intro H locs cells slots ls hH hL hc hs hS
      obtain ⟨hx, hb, hml, hown, hlocks, hrt, hnm, htab, hW, hlow, hfr, hlo, hsz, hend⟩ := A
      obtain ⟨len, h1, h3⟩ := h
      show W p (pWl w) e R s m args below meth c H locs cells slots Z (F0 m pc ls (.ref (pAd w x1) :: S.map (ptr w)))
      rw [hH.ad h1]
      have hcell := hH.2.2.2.2.2.2.1 x1 len h1
      have hK := act_K hw hW
      refine W.alen (n := Int32.ofNat len) hx hb hcell ((hK.2 2 _ rfl).1 len (fun j => va_rf (pOpt w (pP M x1 j)))) (by show Int32.ofNat (arrV _ _ _).slots.size = _; rw [arrV_size]) rfl rfl hd ?_
      exact h3 H locs cells slots ls hH hL hc hs hS
    | _ => exact False.elim h
theorem s_aast {mi : pMI} {pc : Nat} (hd : decode mi.2.1 pc = .ok (.aastore, 1)) : OpS mi pc (o_aast (pc + 1)) := by
  refine ⟨fun C C' X X' Q Q' f M hC hC' hCC hX hQ h => ?_, fun w hw d C hC p e R s m args below meth c Z Q A f M h => ?_⟩
  · obtain ⟨L, S, c0, s0⟩ := f
    rcases S with _ | ⟨v1, S⟩
    · exact False.elim h
    cases v1 with
    | ref x1 =>
      rcases S with _ | ⟨v2, S⟩
      · exact False.elim h
      cases v2 with
      | int x2 =>
        rcases S with _ | ⟨v3, S⟩
        · exact False.elim h
        cases v3 with
        | ref x3 =>
          obtain ⟨len, h1, h2, h3, h4⟩ := h; exact ⟨len, h1, h2, h3, hX _ _ _ h4⟩
        | _ => exact False.elim h
      | _ => exact False.elim h
    | _ => exact False.elim h
  · obtain ⟨L, S, c0, s0⟩ := f
    rcases S with _ | ⟨v1, S⟩
    · exact False.elim h
    cases v1 with
    | ref x1 =>
      rcases S with _ | ⟨v2, S⟩
      · exact False.elim h
      cases v2 with
      | int x2 =>
        rcases S with _ | ⟨v3, S⟩
        · exact False.elim h
        cases v3 with
        | ref x3 =>
          intro H locs cells slots ls hH hL hc hs hS
          obtain ⟨hx, hb, hml, hown, hlocks, hrt, hnm, htab, hW, hlow, hfr, hlo, hsz, hend⟩ := A
          obtain ⟨len, h1, h9, h2, h3⟩ := h
          show W p (pWl w) e R s m args below meth c H locs cells slots Z (F0 m pc ls (.ref (pAd w x1) :: .int x2 :: .ref (pAd w x3) :: S.map (ptr w)))
          rw [hH.ad h1]
          have ead := hH.ad h9
          have hcell := hH.2.2.2.2.2.2.1 x3 len h1
          have hK := act_K hw hW
          have hlt : x2.toNatClampNeg < len := Nat.not_le.mp fun q => h2 (Or.inr q)
          have h0 : ¬ x2 < 0 := fun q => h2 (Or.inl q)
          obtain ⟨r', hr', cellV, g1, g2, g3, -⟩ := hH.2.2.2.1 x1 9 h9
          have hcls := (hK.1 9 _ rfl).2
          obtain ⟨kA, comp, k1, k2, k3, -⟩ := (hK.2 2 _ rfl).2
          have hcomp : comp = (pWD w).1 9 := Option.some.inj (k3.symm.trans hcls.1)
          subst hcomp
          obtain ⟨kC, hkC, hkC2⟩ := id hcls.2
          rw [← ead] at g1
          refine W.aast hx hb hcell (fun q h => by cases h) (fun h => by cases h) k1 k2 rfl hkC ⟨h0, by show _ < (arrV _ _ _).slots.size; rw [arrV_size]; exact hlt⟩ g1 (fun q h => by rw [g3] at h; cases h) (by rw [g2]; exact hkC) (by rw [g2]; exact va_assign hcls) rfl rfl hd fun H1 e1 z oq => ?_
          refine h3 H1 _ cells slots ls (hH.upd h1 (by omega) z oq rfl rfl (fun b hb2 j => rfl) (fun b hb2 j => rfl) (fun b hb2 j => by show u2 _ _ _ _ _ _ = _; simp [u2, hb2, pP]) (fun q => by omega) (fun q => by omega) (fun q => by omega) (fun q => ?_)) hL hc hs (hS.put z oq (show pB w ≤ pB w + x3 by omega))
          rw [e1, vp_cell_q, vp_cell_q, arrV_store]
          congr 2
          funext j
          by_cases hq : j = x2.toNatClampNeg
          · subst hq
            show _ = va_rf (pOpt w (u2 _ _ _ _ _ _))
            simp [updV, u2, pOpt, va_rf]
          · show _ = va_rf (pOpt w (u2 _ _ _ _ _ _))
            simp [updV, u2, hq, pP]
        | _ => exact False.elim h
      | _ => exact False.elim h
    | _ => exact False.elim h
theorem s_new {mi : pMI} {pc : Nat} {idx ci N : Nat} {CN : String} {T : u_T} (hcl : pCls ci CN T N) (hdef : ∀ k, k < N → defaultValue (pTy ci k) = match pIsR (pTy ci k) with | true => .null | false => .int 0) (hl : pWd (.classLink mi.1.cls idx CN)) (hin : pWd (.instantiable CN N)) (hini : pWd (.initialized CN)) (hd : decode mi.2.1 pc = .ok (.new idx, 3)) : OpS mi pc (o_new ci N (pc + 3)) := by
  refine ⟨fun C C' X X' Q Q' f M hC hC' hCC hX hQ h => ?_, fun w hw d C hC p e R s m args below meth c Z Q A f M h => ?_⟩
  · obtain ⟨L, S, c0, s0⟩ := f
    exact ⟨h.1, h.2.1, h.2.2.1, hX _ _ _ h.2.2.2⟩
  · obtain ⟨L, S, c0, s0⟩ := f
    intro H locs cells slots ls hH hL hc hs hS
    obtain ⟨hx, hb, hml, hown, hlocks, hrt, hnm, htab, hW, hlow, hfr, hlo, hsz, hend⟩ := A
    obtain ⟨h1, h2, h3, h4⟩ := h
    dsimp only at h1 h2 hc hs
    obtain ⟨c1, c2, c3, c4⟩ := id hcl
    have hKn := (act_K hw hW).1 ci _ c1
    refine W.newcK hx hb hown (act_w hw hW hl) (act_w hw hW hin) (act_w hw hW hini) rfl hd (by omega) (by omega) hKn.2.1 rfl fun H1 kC hkC e1 z1 o1 => ?_
    have hob := u_born (pTy ci) (act_ts hw hW (args := args)) c2 hKn hkC e1 c3
    have hrel : pRel w (pnew M (1, ci)) H1 := by
      refine hH.push h3 z1 o1 (fun h => by cases h) (fun n hn => ?_) (fun n hn => by cases hn) (fun n hn => by cases hn) (fun n hn => by cases hn)
      cases hn
      refine ⟨_, c1, ?_⟩
      rw [← hH.1]
      refine hob.to (fun k hk => ?_)
      rw [hdef k hk]
      unfold pfv
      have eI : pI (pnew M (1, ci)) (pN M) k = 0 := by show (if pN M = pN M then 0 else _) = (0 : Int32); rw [if_pos rfl]
      have eP : pP (pnew M (1, ci)) (pN M) k = 0 := by show (if pN M = pN M then 0 else _) = (0 : Nat); rw [if_pos rfl]
      cases pIsR (pTy ci k) <;> simp [eI, eP, pv, ptr]
    have key := h4 H1 locs (cells + 1) (slots + N) ls hrel hL (by dsimp only; omega) (by dsimp only; omega) ⟨Nat.le_trans hS.1 (by omega), fun q q1 q2 => (o1 q (Nat.lt_of_lt_of_le q1 hS.1)).trans (hS.2.1 q q1 q2), hS.2.2⟩
    have ead : ptr w (.ref (pN M)) = .ref H.size := by show Value.ref (pAd w (pN M)) = _; rw [pAd_lt h3, hH.1]
    have key2 : W p (pWl w) e R s m args below meth c H1 locs (cells + 1) (slots + N) Z (F0 m (pc + 3) ls (ptr w (.ref (pN M)) :: S.map (ptr w))) := key
    rw [ead] at key2
    exact key2
theorem s_newa2 {mi : pMI} {pc : Nat} (harr : pWd (.arrayClass .int)) (hd : decode mi.2.1 pc = .ok (.newarray .int, 2)) : OpS mi pc (o_newa 2 (pc + 2)) := by
  refine ⟨fun C C' X X' Q Q' f M hC hC' hCC hX hQ h => ?_, fun w hw d C hC p e R s m args below meth c Z Q A f M h => ?_⟩
  · obtain ⟨L, S, c0, s0⟩ := f
    rcases S with _ | ⟨v1, S⟩
    · exact False.elim h
    cases v1 with
    | int x1 =>
      exact ⟨h.1, h.2.1, h.2.2.1, h.2.2.2.1, h.2.2.2.2.1, hX _ _ _ h.2.2.2.2.2⟩
    | _ => exact False.elim h
  · obtain ⟨L, S, c0, s0⟩ := f
    rcases S with _ | ⟨v1, S⟩
    · exact False.elim h
    cases v1 with
    | int x1 =>
      intro H locs cells slots ls hH hL hc hs hS
      obtain ⟨hx, hb, hml, hown, hlocks, hrt, hnm, htab, hW, hlow, hfr, hlo, hsz, hend⟩ := A
      obtain ⟨h0, hm, h1, h2, h3, h4⟩ := h
      dsimp only at h1 h2 hc hs
      show W p (pWl w) e R s m args below meth c H locs cells slots Z (F0 m pc ls (.int x1 :: S.map (ptr w)))
      refine va_newaK hx hb (atype := .int) (act_w hw hW harr) rfl hd rfl h0 rfl (by show _ * 4 ≤ _; omega) (by omega) (by omega) rfl fun H1 cA e1 z1 o1 hAr hNm => ?_
      have hcA : cA = (pWc w).1 := Option.some.inj (hNm.symm.trans ((act_K hw hW).2 0 _ rfl).2)
      subst hcA
      have hrel : pRel w (pnew M (2, x1.toNatClampNeg)) H1 := by
        refine hH.push h3 z1 o1 (fun h => by cases h) (fun n hn => by cases hn) (fun n hn => ?_) (fun n hn => by cases hn) (fun n hn => by cases hn)
        cases hn
        rw [← hH.1]; exact e1
      have key := h4 H1 locs (cells + 1) (slots + x1.toNatClampNeg) ls hrel hL (by dsimp only; omega) (by dsimp only; omega) ⟨Nat.le_trans hS.1 (by omega), fun q q1 q2 => (o1 q (Nat.lt_of_lt_of_le q1 hS.1)).trans (hS.2.1 q q1 q2), hS.2.2⟩
      have ead : ptr w (.ref (pN M)) = .ref H.size := by show Value.ref (pAd w (pN M)) = _; rw [pAd_lt h3, hH.1]
      have key2 : W p (pWl w) e R s m args below meth c H1 locs (cells + 1) (slots + x1.toNatClampNeg) Z (F0 m (pc + 2) ls (ptr w (.ref (pN M)) :: S.map (ptr w))) := key
      rw [ead] at key2
      exact key2
    | _ => exact False.elim h
theorem s_anew {mi : pMI} {pc : Nat} {idx : Nat} (hl : pWd (.classLink mi.1.cls idx "WordPad$Row")) (hao : Cond.arrayOver (.object "WordPad$Row") ∈ lw_tbl) (hd : decode mi.2.1 pc = .ok (.anewarray idx, 3)) : OpS mi pc (o_newa 4 (pc + 3)) := by
  refine ⟨fun C C' X X' Q Q' f M hC hC' hCC hX hQ h => ?_, fun w hw d C hC p e R s m args below meth c Z Q A f M h => ?_⟩
  · obtain ⟨L, S, c0, s0⟩ := f
    rcases S with _ | ⟨v1, S⟩
    · exact False.elim h
    cases v1 with
    | int x1 =>
      exact ⟨h.1, h.2.1, h.2.2.1, h.2.2.2.1, h.2.2.2.2.1, hX _ _ _ h.2.2.2.2.2⟩
    | _ => exact False.elim h
  · obtain ⟨L, S, c0, s0⟩ := f
    rcases S with _ | ⟨v1, S⟩
    · exact False.elim h
    cases v1 with
    | int x1 =>
      intro H locs cells slots ls hH hL hc hs hS
      obtain ⟨hx, hb, hml, hown, hlocks, hrt, hnm, htab, hW, hlow, hfr, hlo, hsz, hend⟩ := A
      obtain ⟨h0, hm, h1, h2, h3, h4⟩ := h
      dsimp only at h1 h2 hc hs
      show W p (pWl w) e R s m args below meth c H locs cells slots Z (F0 m pc ls (.int x1 :: S.map (ptr w)))
      have hao2 : va_AO "WordPad$Row" s := by
        obtain ⟨-, -, ⟨a0, hw0⟩, -⟩ := id hw
        exact va_AO.moved hW.alike (va_AO.of (hw0 _ hao))
      refine W.anew hx hb hown (act_w hw hW hl) (va_AO.use hao2) rfl hd rfl h0 (by omega) (by omega) (by omega) fun cA kA comp f1 f2 f3 f4 => ?_
      obtain ⟨kA', comp', -, -, -, k4⟩ := ((act_K hw hW).2 2 _ rfl).2
      have hcA : cA = (pWc w).2.2 := Option.some.inj (f1.symm.trans k4)
      subst hcA
      generalize hH1 : H.push ({ cls := (pWc w).2.2, slots := Array.replicate x1.toNatClampNeg .null, vm := .none } : Cell) = H1
      have z1 : H1.size = H.size + 1 := by rw [← hH1, Array.size_push]
      have e1 : H1[H.size]? = some (arrV (pWc w).2.2 x1.toNatClampNeg (fun _ => .null)) := by rw [← hH1, Array.getElem?_push_size, ← arrV_new]
      have o1 : ∀ q : Nat, q < H.size → H1[q]? = H[q]? := fun q hq => by rw [← hH1, Array.getElem?_push, if_neg (Nat.ne_of_lt hq)]
      have hrel : pRel w (pnew M (4, x1.toNatClampNeg)) H1 := by
        refine hH.push h3 z1 o1 (fun h => by cases h) (fun n hn => by cases hn) (fun n hn => by cases hn) (fun n hn => by cases hn) (fun n hn => ?_)
        cases hn
        rw [← hH.1, e1, vp_cell_q]; rfl
      have key := h4 H1 locs (cells + 1) (slots + x1.toNatClampNeg) ls hrel hL (by dsimp only; omega) (by dsimp only; omega) ⟨Nat.le_trans hS.1 (by omega), fun q q1 q2 => (o1 q (Nat.lt_of_lt_of_le q1 hS.1)).trans (hS.2.1 q q1 q2), hS.2.2⟩
      have ead : ptr w (.ref (pN M)) = .ref H.size := by show Value.ref (pAd w (pN M)) = _; rw [pAd_lt h3, hH.1]
      have key2 : W p (pWl w) e R s m args below meth c H1 locs (cells + 1) (slots + x1.toNatClampNeg) Z (F0 m (pc + 3) ls (ptr w (.ref (pN M)) :: S.map (ptr w))) := key
      rw [ead] at key2
      exact key2
    | _ => exact False.elim h
theorem s_iret {mi : pMI} {pc : Nat} (hrt0 : mi.2.2.2.1 = some .int) (hd : decode mi.2.1 pc = .ok (.ireturn, 1)) : OpS mi pc o_iret := by
  refine ⟨fun C C' X X' Q Q' f M hC hC' hCC hX hQ h => ?_, fun w hw d C hC p e R s m args below meth c Z Q A f M h => ?_⟩
  · obtain ⟨L, S, c0, s0⟩ := f
    rcases S with _ | ⟨v1, S⟩
    · exact False.elim h
    rcases S with _ | ⟨v2, S⟩
    · cases v1 with
      | int x1 =>
        exact hQ _ _ h
      | _ => exact False.elim h
    · cases v1 <;> exact False.elim h
  · obtain ⟨L, S, c0, s0⟩ := f
    rcases S with _ | ⟨v1, S⟩
    · exact False.elim h
    rcases S with _ | ⟨v2, S⟩
    · cases v1 with
      | int x1 =>
        intro H locs cells slots ls hH hL hc hs hS
        obtain ⟨hx, hb, hml, hown, hlocks, hrt, hnm, htab, hW, hlow, hfr, hlo, hsz, hend⟩ := A
        dsimp only at hc hs
        rcases hend with rfl | ⟨-, hend⟩
        · refine vx_ret (W.widen (show cells ≤ R.cells by omega) (show slots ≤ R.slots by omega) ?_)
          exact W.iret hx hb (hrt.trans hrt0) (fun t ht hWt => ⟨(some (.int x1)), M, rfl, h, by rw [ht]; exact hH, by rw [ht]; exact hS.1, fun q hq => by rw [ht]; exact hS.2.1 q (Nat.lt_of_lt_of_le hq hsz) (Nat.not_le.mpr hq)⟩) hS.2.2 hd hlocks
        · exact hend (some (.int x1)) M H locs cells slots ls pc h hH hS (by omega) (by omega) (by rw [hb]; exact hd) (by rw [hrt0]; exact trivial)
      | _ => exact False.elim h
    · cases v1 <;> exact False.elim h
theorem s_zret {mi : pMI} {pc : Nat} (hrt0 : mi.2.2.2.1 = some .boolean) (hd : decode mi.2.1 pc = .ok (.ireturn, 1)) : OpS mi pc o_zret := by
  refine ⟨fun C C' X X' Q Q' f M hC hC' hCC hX hQ h => ?_, fun w hw d C hC p e R s m args below meth c Z Q A f M h => ?_⟩
  · obtain ⟨L, S, c0, s0⟩ := f
    rcases S with _ | ⟨v1, S⟩
    · exact False.elim h
    rcases S with _ | ⟨v2, S⟩
    · cases v1 with
      | int x1 =>
        exact ⟨h.1, hQ _ _ h.2⟩
      | _ => exact False.elim h
    · cases v1 <;> exact False.elim h
  · obtain ⟨L, S, c0, s0⟩ := f
    rcases S with _ | ⟨v1, S⟩
    · exact False.elim h
    rcases S with _ | ⟨v2, S⟩
    · cases v1 with
      | int x1 =>
        intro H locs cells slots ls hH hL hc hs hS
        obtain ⟨hx, hb, hml, hown, hlocks, hrt, hnm, htab, hW, hlow, hfr, hlo, hsz, hend⟩ := A
        dsimp only at hc hs
        rcases hend with rfl | ⟨-, hend⟩
        · refine vx_ret (W.widen (show cells ≤ R.cells by omega) (show slots ≤ R.slots by omega) ?_)
          exact W.zret hx hb (hrt.trans hrt0) (by rcases h.1 with rfl | rfl <;> rfl) (fun t ht hWt => ⟨(some (.int x1)), M, rfl, h.2, by rw [ht]; exact hH, by rw [ht]; exact hS.1, fun q hq => by rw [ht]; exact hS.2.1 q (Nat.lt_of_lt_of_le hq hsz) (Nat.not_le.mpr hq)⟩) hS.2.2 hd hlocks
        · exact hend (some (.int x1)) M H locs cells slots ls pc h.2 hH hS (by omega) (by omega) (by rw [hb]; exact hd) (by rw [hrt0]; exact h.1)
      | _ => exact False.elim h
    · cases v1 <;> exact False.elim h
theorem s_lret {mi : pMI} {pc : Nat} (hrt0 : mi.2.2.2.1 = some .long) (hd : decode mi.2.1 pc = .ok (.lreturn, 1)) : OpS mi pc o_lret := by
  refine ⟨fun C C' X X' Q Q' f M hC hC' hCC hX hQ h => ?_, fun w hw d C hC p e R s m args below meth c Z Q A f M h => ?_⟩
  · obtain ⟨L, S, c0, s0⟩ := f
    rcases S with _ | ⟨v1, S⟩
    · exact False.elim h
    rcases S with _ | ⟨v2, S⟩
    · cases v1 with
      | long x1 =>
        exact hQ _ _ h
      | _ => exact False.elim h
    · cases v1 <;> exact False.elim h
  · obtain ⟨L, S, c0, s0⟩ := f
    rcases S with _ | ⟨v1, S⟩
    · exact False.elim h
    rcases S with _ | ⟨v2, S⟩
    · cases v1 with
      | long x1 =>
        intro H locs cells slots ls hH hL hc hs hS
        obtain ⟨hx, hb, hml, hown, hlocks, hrt, hnm, htab, hW, hlow, hfr, hlo, hsz, hend⟩ := A
        dsimp only at hc hs
        rcases hend with rfl | ⟨-, hend⟩
        · refine vx_ret (W.widen (show cells ≤ R.cells by omega) (show slots ≤ R.slots by omega) ?_)
          exact W.lret hx hb (hrt.trans hrt0) (fun t ht hWt => ⟨(some (.long x1)), M, rfl, h, by rw [ht]; exact hH, by rw [ht]; exact hS.1, fun q hq => by rw [ht]; exact hS.2.1 q (Nat.lt_of_lt_of_le hq hsz) (Nat.not_le.mpr hq)⟩) hS.2.2 hd hlocks
        · exact hend (some (.long x1)) M H locs cells slots ls pc h hH hS (by omega) (by omega) (by rw [hb]; exact hd) (by rw [hrt0]; exact trivial)
      | _ => exact False.elim h
    · cases v1 <;> exact False.elim h
theorem s_dret {mi : pMI} {pc : Nat} (hrt0 : mi.2.2.2.1 = some .double) (hd : decode mi.2.1 pc = .ok (.dreturn, 1)) : OpS mi pc o_dret := by
  refine ⟨fun C C' X X' Q Q' f M hC hC' hCC hX hQ h => ?_, fun w hw d C hC p e R s m args below meth c Z Q A f M h => ?_⟩
  · obtain ⟨L, S, c0, s0⟩ := f
    rcases S with _ | ⟨v1, S⟩
    · exact False.elim h
    rcases S with _ | ⟨v2, S⟩
    · cases v1 with
      | double x1 =>
        exact hQ _ _ h
      | _ => exact False.elim h
    · cases v1 <;> exact False.elim h
  · obtain ⟨L, S, c0, s0⟩ := f
    rcases S with _ | ⟨v1, S⟩
    · exact False.elim h
    rcases S with _ | ⟨v2, S⟩
    · cases v1 with
      | double x1 =>
        intro H locs cells slots ls hH hL hc hs hS
        obtain ⟨hx, hb, hml, hown, hlocks, hrt, hnm, htab, hW, hlow, hfr, hlo, hsz, hend⟩ := A
        dsimp only at hc hs
        rcases hend with rfl | ⟨-, hend⟩
        · refine vx_ret (W.widen (show cells ≤ R.cells by omega) (show slots ≤ R.slots by omega) ?_)
          exact W.dret hx hb (hrt.trans hrt0) (fun t ht hWt => ⟨(some (.double x1)), M, rfl, h, by rw [ht]; exact hH, by rw [ht]; exact hS.1, fun q hq => by rw [ht]; exact hS.2.1 q (Nat.lt_of_lt_of_le hq hsz) (Nat.not_le.mpr hq)⟩) hS.2.2 hd hlocks
        · exact hend (some (.double x1)) M H locs cells slots ls pc h hH hS (by omega) (by omega) (by rw [hb]; exact hd) (by rw [hrt0]; exact trivial)
      | _ => exact False.elim h
    · cases v1 <;> exact False.elim h
theorem s_vret {mi : pMI} {pc : Nat} (hrt0 : mi.2.2.2.1 = none) (hd : decode mi.2.1 pc = .ok (.return_, 1)) : OpS mi pc o_vret := by
  refine ⟨fun C C' X X' Q Q' f M hC hC' hCC hX hQ h => ?_, fun w hw d C hC p e R s m args below meth c Z Q A f M h => ?_⟩
  · obtain ⟨L, S, c0, s0⟩ := f
    rcases S with _ | ⟨v1, S⟩
    · exact hQ _ _ h
    · exact False.elim h
  · obtain ⟨L, S, c0, s0⟩ := f
    rcases S with _ | ⟨v1, S⟩
    · intro H locs cells slots ls hH hL hc hs hS
      obtain ⟨hx, hb, hml, hown, hlocks, hrt, hnm, htab, hW, hlow, hfr, hlo, hsz, hend⟩ := A
      dsimp only at hc hs
      rcases hend with rfl | ⟨-, hend⟩
      · refine vx_ret (W.widen (show cells ≤ R.cells by omega) (show slots ≤ R.slots by omega) ?_)
        exact W.vret hx hb (hrt.trans hrt0) (fun t ht hWt => ⟨none, M, rfl, h, by rw [ht]; exact hH, by rw [ht]; exact hS.1, fun q hq => by rw [ht]; exact hS.2.1 q (Nat.lt_of_lt_of_le hq hsz) (Nat.not_le.mpr hq)⟩) hS.2.2 hd hlocks
      · exact hend none M H locs cells slots ls pc h hH hS (by omega) (by omega) (by rw [hb]; exact hd) (by rw [hrt0]; exact trivial)
    · exact False.elim h
theorem s_aret {mi : pMI} {pc : Nat} {rt : String} (hrt0 : mi.2.2.2.1 = some (.object rt)) (hd : decode mi.2.1 pc = .ok (.areturn, 1)) : OpS mi pc o_aret := by
  refine ⟨fun C C' X X' Q Q' f M hC hC' hCC hX hQ h => ?_, fun w hw d C hC p e R s m args below meth c Z Q A f M h => ?_⟩
  · obtain ⟨L, S, c0, s0⟩ := f
    rcases S with _ | ⟨v1, S⟩
    · exact False.elim h
    rcases S with _ | ⟨v2, S⟩
    · cases v1 with
      | ref x1 =>
        exact hQ _ _ h
      | _ => exact False.elim h
    · cases v1 <;> exact False.elim h
  · obtain ⟨L, S, c0, s0⟩ := f
    rcases S with _ | ⟨v1, S⟩
    · exact False.elim h
    rcases S with _ | ⟨v2, S⟩
    · cases v1 with
      | ref x1 =>
        intro H locs cells slots ls hH hL hc hs hS
        obtain ⟨hx, hb, hml, hown, hlocks, hrt, hnm, htab, hW, hlow, hfr, hlo, hsz, hend⟩ := A
        dsimp only at hc hs
        rcases hend with rfl | ⟨-, hend⟩
        · refine vx_ret (W.widen (show cells ≤ R.cells by omega) (show slots ≤ R.slots by omega) ?_)
          exact W.aret hx hb (hrt.trans hrt0) (Or.inl ⟨_, rfl⟩) (Or.inr ⟨_, rfl⟩) (fun t ht hWt => ⟨(some (.ref x1)), M, rfl, h, by rw [ht]; exact hH, by rw [ht]; exact hS.1, fun q hq => by rw [ht]; exact hS.2.1 q (Nat.lt_of_lt_of_le hq hsz) (Nat.not_le.mpr hq)⟩) hS.2.2 hd hlocks
        · exact hend (some (.ref x1)) M H locs cells slots ls pc h hH hS (by omega) (by omega) (by rw [hb]; exact hd) (by rw [hrt0]; exact trivial)
      | _ => exact False.elim h
    · cases v1 <;> exact False.elim h
theorem s_max {mi : pMI} {pc : Nat} {idx : Nat} (hl : pWd (.methodLink mi.1.cls idx Lib.Math.max.name)) (hst : pWd (.static Lib.Math.max.name)) (hini : pWd (.initialized "java/lang/Math")) (hco : pWd (.code Lib.Math.max.name Lib.Math.max.code 2 (some .int))) (hd : decode mi.2.1 pc = .ok (.invokestatic idx, 3)) : OpS mi pc (o_max (pc + 3)) := by
  refine ⟨fun C C' X X' Q Q' f M hC hC' hCC hX hQ h => ?_, fun w hw d C hC p e R s m args below meth c Z Q A f M h => ?_⟩
  · obtain ⟨L, S, c0, s0⟩ := f
    rcases S with _ | ⟨v1, S⟩
    · exact False.elim h
    cases v1 with
    | int x1 =>
      rcases S with _ | ⟨v2, S⟩
      · exact False.elim h
      cases v2 with
      | int x2 =>
        exact ⟨h.1, hX _ _ _ h.2⟩
      | _ => exact False.elim h
    | _ => exact False.elim h
  · obtain ⟨L, S, c0, s0⟩ := f
    rcases S with _ | ⟨v1, S⟩
    · exact False.elim h
    cases v1 with
    | int x1 =>
      rcases S with _ | ⟨v2, S⟩
      · exact False.elim h
      cases v2 with
      | int x2 =>
        intro H locs cells slots ls hH hL hc hs hS
        obtain ⟨hx, hb, hml, hown, hlocks, hrt, hnm, htab, hW, hlow, hfr, hlo, hsz, hend⟩ := A
        show W p (pWl w) e R s m args below meth c H locs cells slots Z (F0 m pc ls (.int x1 :: .int x2 :: S.map (ptr w)))
        refine va_mmax hx hb (hml.trans hL.1.symm) hown (act_w hw hW hl) (act_w hw hW hst) (act_w hw hW hini) (act_w hw hW hco) (by omega) (by rw [ptr_sum]; have := h.1; omega) (by omega) (by omega) hd ?_
        exact h.2 H locs cells slots ls hH hL hc hs hS
      | _ => exact False.elim h
    | _ => exact False.elim h
theorem s_min {mi : pMI} {pc : Nat} {idx : Nat} (hl : pWd (.methodLink mi.1.cls idx Lib.Math.min.name)) (hst : pWd (.static Lib.Math.min.name)) (hini : pWd (.initialized "java/lang/Math")) (hco : pWd (.code Lib.Math.min.name Lib.Math.min.code 2 (some .int))) (hd : decode mi.2.1 pc = .ok (.invokestatic idx, 3)) : OpS mi pc (o_min (pc + 3)) := by
  refine ⟨fun C C' X X' Q Q' f M hC hC' hCC hX hQ h => ?_, fun w hw d C hC p e R s m args below meth c Z Q A f M h => ?_⟩
  · obtain ⟨L, S, c0, s0⟩ := f
    rcases S with _ | ⟨v1, S⟩
    · exact False.elim h
    cases v1 with
    | int x1 =>
      rcases S with _ | ⟨v2, S⟩
      · exact False.elim h
      cases v2 with
      | int x2 =>
        exact ⟨h.1, hX _ _ _ h.2⟩
      | _ => exact False.elim h
    | _ => exact False.elim h
  · obtain ⟨L, S, c0, s0⟩ := f
    rcases S with _ | ⟨v1, S⟩
    · exact False.elim h
    cases v1 with
    | int x1 =>
      rcases S with _ | ⟨v2, S⟩
      · exact False.elim h
      cases v2 with
      | int x2 =>
        intro H locs cells slots ls hH hL hc hs hS
        obtain ⟨hx, hb, hml, hown, hlocks, hrt, hnm, htab, hW, hlow, hfr, hlo, hsz, hend⟩ := A
        show W p (pWl w) e R s m args below meth c H locs cells slots Z (F0 m pc ls (.int x1 :: .int x2 :: S.map (ptr w)))
        refine va_mmin hx hb (hml.trans hL.1.symm) hown (act_w hw hW hl) (act_w hw hW hst) (act_w hw hW hini) (act_w hw hW hco) (by omega) (by rw [ptr_sum]; have := h.1; omega) (by omega) (by omega) hd ?_
        exact h.2 H locs cells slots ls hH hL hc hs hS
      | _ => exact False.elim h
    | _ => exact False.elim h
theorem s_objinit {mi : pMI} {pc : Nat} {idx : Nat} (hl : pWd (.methodLink mi.1.cls idx Lib.objectInit)) (hst : pWd (.instanceMethod Lib.objectInit)) (hco : pWd (.code Lib.objectInit ⟨#[0xb1]⟩ 1 none)) (hd : decode mi.2.1 pc = .ok (.invokespecial idx, 3)) : OpS mi pc (o_objinit (pc + 3)) := by
  refine ⟨fun C C' X X' Q Q' f M hC hC' hCC hX hQ h => ?_, fun w hw d C hC p e R s m args below meth c Z Q A f M h => ?_⟩
  · obtain ⟨L, S, c0, s0⟩ := f
    rcases S with _ | ⟨v1, S⟩
    · exact False.elim h
    cases v1 with
    | ref x1 =>
      exact ⟨h.1, hX _ _ _ h.2⟩
    | _ => exact False.elim h
  · obtain ⟨L, S, c0, s0⟩ := f
    rcases S with _ | ⟨v1, S⟩
    · exact False.elim h
    cases v1 with
    | ref x1 =>
      intro H locs cells slots ls hH hL hc hs hS
      obtain ⟨hx, hb, hml, hown, hlocks, hrt, hnm, htab, hW, hlow, hfr, hlo, hsz, hend⟩ := A
      show W p (pWl w) e R s m args below meth c H locs cells slots Z (F0 m pc ls (.ref (pAd w x1) :: S.map (ptr w)))
      refine W.objInit hx hb hown (act_w hw hW hl) (act_w hw hW hst) (act_w hw hW hco) rfl (hL.1.trans hml.symm) rfl hd (by omega) (by show 2 * 0 + _ + 12 ≤ _; rw [ptr_sum]; have := h.1; omega) ?_
      exact h.2 H locs cells slots ls hH hL hc hs hS
    | _ => exact False.elim h
