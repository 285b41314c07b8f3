theorem s_getI {mi : pMI} {pc : Nat} {idx ci k N : Nat} {CN : String} {T : u_T} (hcl : pCls ci CN T N) (hk : k < N) (hdc : (T k).1 = CN) (hl : pWd (.fieldLink mi.1.cls idx CN (T k).2.1 (T k).2.2.1) ∨ ∃ host, pWd (.fieldLinkNest mi.1.cls idx CN (T k).2.1 (T k).2.2.1 host)) (hd : decode mi.2.1 pc = .ok (.getfield idx, 3)) (hr : pIsR (pTy ci k) = false) : OpS mi pc (o_getI ci k (pc + 3)) := by
  refine ⟨fun C C' X X' Q Q' f M hC hC' hCC hX hQ h => ?_, fun w hw d C hC p e R s m args below meth c Z Q A f M h => ?_⟩
  · obtain ⟨L, S, c0, s0⟩ := f
    rcases S with _ | ⟨v1, S⟩
    · exact False.elim h
    cases v1 with
    | ref x1 =>
      exact ⟨h.1, hX _ _ _ h.2⟩
    | _ => exact False.elim h
  · obtain ⟨L, S, c0, s0⟩ := f
    rcases S with _ | ⟨v1, S⟩
    · exact False.elim h
    cases v1 with
    | ref x1 =>
      intro H locs cells slots ls hH hL hc hs hS
      obtain ⟨hx, hb, hml, hown, hlocks, hrt, hnm, htab, hW, hlow, hfr, hlo, hsz, hend⟩ := A
      have h2 := h.2 H locs cells slots ls hH hL hc hs hS
      show W p (pWl w) e R s m args below meth c H locs cells slots Z (F0 m pc ls (.ref (pAd w x1) :: S.map (ptr w)))
      rw [hH.ad h.1]
      refine r_get hw hW hx hb hcl hown hH h.1 hk hdc hl hd ?_
      have ev : pfv w M x1 ci k = .int (pI M x1 k) := by unfold pfv; rw [hr]
      rw [ev]; exact h2
    | _ => exact False.elim h
theorem s_getP {mi : pMI} {pc : Nat} {idx ci k N : Nat} {CN : String} {T : u_T} (hcl : pCls ci CN T N) (hk : k < N) (hdc : (T k).1 = CN) (hl : pWd (.fieldLink mi.1.cls idx CN (T k).2.1 (T k).2.2.1) ∨ ∃ host, pWd (.fieldLinkNest mi.1.cls idx CN (T k).2.1 (T k).2.2.1 host)) (hd : decode mi.2.1 pc = .ok (.getfield idx, 3)) (hr : pIsR (pTy ci k) = true) : OpS mi pc (o_getP ci k (pc + 3)) := by
  refine ⟨fun C C' X X' Q Q' f M hC hC' hCC hX hQ h => ?_, fun w hw d C hC p e R s m args below meth c Z Q A f M h => ?_⟩
  · obtain ⟨L, S, c0, s0⟩ := f
    rcases S with _ | ⟨v1, S⟩
    · exact False.elim h
    cases v1 with
    | ref x1 =>
      exact ⟨h.1, hX _ _ _ h.2⟩
    | _ => exact False.elim h
  · obtain ⟨L, S, c0, s0⟩ := f
    rcases S with _ | ⟨v1, S⟩
    · exact False.elim h
    cases v1 with
    | ref x1 =>
      intro H locs cells slots ls hH hL hc hs hS
      obtain ⟨hx, hb, hml, hown, hlocks, hrt, hnm, htab, hW, hlow, hfr, hlo, hsz, hend⟩ := A
      have h2 := h.2 H locs cells slots ls hH hL hc hs hS
      show W p (pWl w) e R s m args below meth c H locs cells slots Z (F0 m pc ls (.ref (pAd w x1) :: S.map (ptr w)))
      rw [hH.ad h.1]
      refine r_get hw hW hx hb hcl hown hH h.1 hk hdc hl hd ?_
      have ev : pfv w M x1 ci k = ptr w (pv (pP M x1 k)) := by unfold pfv; rw [hr]
      rw [ev]; exact h2
    | _ => exact False.elim h
theorem s_putI {mi : pMI} {pc : Nat} {idx ci k N : Nat} {CN : String} {T : u_T} (hcl : pCls ci CN T N) (hk : k < N) (hdc : (T k).1 = CN) (hl : (pWd (.fieldLink mi.1.cls idx CN (T k).2.1 (T k).2.2.1) ∧ ((T k).2.2.2 = false ∨ ((T k).2.2.2 = true ∧ mi.1.name = "<init>" ∧ CN = mi.1.cls))) ∨ ((T k).2.2.2 = false ∧ ∃ host, pWd (.fieldLinkNest mi.1.cls idx CN (T k).2.1 (T k).2.2.1 host))) (hd : decode mi.2.1 pc = .ok (.putfield idx, 3)) (hr : pIsR (pTy ci k) = false) (ht : pTy ci k = .int) : OpS mi pc (o_putI ci k (pc + 3)) := by
  refine ⟨fun C C' X X' Q Q' f M hC hC' hCC hX hQ h => ?_, fun w hw d C hC p e R s m args below meth c Z Q A f M h => ?_⟩
  · obtain ⟨L, S, c0, s0⟩ := f
    rcases S with _ | ⟨v1, S⟩
    · exact False.elim h
    cases v1 with
    | int x1 =>
      rcases S with _ | ⟨v2, S⟩
      · exact False.elim h
      cases v2 with
      | ref x2 =>
        exact ⟨h.1, hX _ _ _ h.2⟩
      | _ => exact False.elim h
    | _ => exact False.elim h
  · obtain ⟨L, S, c0, s0⟩ := f
    rcases S with _ | ⟨v1, S⟩
    · exact False.elim h
    cases v1 with
    | int x1 =>
      rcases S with _ | ⟨v2, S⟩
      · exact False.elim h
      cases v2 with
      | ref x2 =>
        intro H locs cells slots ls hH hL hc hs hS
        obtain ⟨hx, hb, hml, hown, hlocks, hrt, hnm, htab, hW, hlow, hfr, hlo, hsz, hend⟩ := A
        have hl' : (pWd (.fieldLink mi.1.cls idx CN (T k).2.1 (T k).2.2.1) ∧ ((T k).2.2.2 = false ∨ ((T k).2.2.2 = true ∧ meth.name = "<init>" ∧ CN = mi.1.cls))) ∨ ((T k).2.2.2 = false ∧ ∃ host, pWd (.fieldLinkNest mi.1.cls idx CN (T k).2.1 (T k).2.2.1 host)) := by rw [hnm]; exact hl
        show W p (pWl w) e R s m args below meth c H locs cells slots Z (F0 m pc ls (ptr w (.int x1) :: .ref (pAd w x2) :: S.map (ptr w)))
        rw [hH.ad h.1]
        refine r_put (M' := psI M x2 k x1) hw hW hx hb hcl hown hH hS h.1 hk hdc hl' hd (by rw [ht]; rfl) (by rw [ht]; rfl) rfl rfl (fun b hb2 j => ?_) (fun b hb2 j => ?_) (fun b hb2 j => ?_) (fun j hj => ?_) (fun H1 locs1 hH1 hS1 => h.2 H1 locs1 cells slots ls hH1 hL hc hs hS1)
        · show u2 _ _ _ _ _ _ = _; simp [u2, hb2, pI]
        · rfl
        · rfl
        · unfold pfv
          by_cases ej : j = k
          · subst ej
            rw [if_pos rfl, hr]; show Value.int (u2 _ _ _ _ _ _) = _; simp [u2, ptr]
          · rw [if_neg ej]
            cases pIsR (pTy ci j)
            · show Value.int (u2 _ _ _ _ _ _) = _; simp [u2, ej, pI]
            · rfl
      | _ => exact False.elim h
    | _ => exact False.elim h
theorem s_putZ {mi : pMI} {pc : Nat} {idx ci k N : Nat} {CN : String} {T : u_T} (hcl : pCls ci CN T N) (hk : k < N) (hdc : (T k).1 = CN) (hl : (pWd (.fieldLink mi.1.cls idx CN (T k).2.1 (T k).2.2.1) ∧ ((T k).2.2.2 = false ∨ ((T k).2.2.2 = true ∧ mi.1.name = "<init>" ∧ CN = mi.1.cls))) ∨ ((T k).2.2.2 = false ∧ ∃ host, pWd (.fieldLinkNest mi.1.cls idx CN (T k).2.1 (T k).2.2.1 host))) (hd : decode mi.2.1 pc = .ok (.putfield idx, 3)) (hr : pIsR (pTy ci k) = false) (ht : pTy ci k = .boolean) : OpS mi pc (o_putZ ci k (pc + 3)) := by
  refine ⟨fun C C' X X' Q Q' f M hC hC' hCC hX hQ h => ?_, fun w hw d C hC p e R s m args below meth c Z Q A f M h => ?_⟩
  · obtain ⟨L, S, c0, s0⟩ := f
    rcases S with _ | ⟨v1, S⟩
    · exact False.elim h
    cases v1 with
    | int x1 =>
      rcases S with _ | ⟨v2, S⟩
      · exact False.elim h
      cases v2 with
      | ref x2 =>
        exact ⟨h.1, h.2.1, hX _ _ _ h.2.2⟩
      | _ => exact False.elim h
    | _ => exact False.elim h
  · obtain ⟨L, S, c0, s0⟩ := f
    rcases S with _ | ⟨v1, S⟩
    · exact False.elim h
    cases v1 with
    | int x1 =>
      rcases S with _ | ⟨v2, S⟩
      · exact False.elim h
      cases v2 with
      | ref x2 =>
        intro H locs cells slots ls hH hL hc hs hS
        obtain ⟨hx, hb, hml, hown, hlocks, hrt, hnm, htab, hW, hlow, hfr, hlo, hsz, hend⟩ := A
        have hl' : (pWd (.fieldLink mi.1.cls idx CN (T k).2.1 (T k).2.2.1) ∧ ((T k).2.2.2 = false ∨ ((T k).2.2.2 = true ∧ meth.name = "<init>" ∧ CN = mi.1.cls))) ∨ ((T k).2.2.2 = false ∧ ∃ host, pWd (.fieldLinkNest mi.1.cls idx CN (T k).2.1 (T k).2.2.1 host)) := by rw [hnm]; exact hl
        show W p (pWl w) e R s m args below meth c H locs cells slots Z (F0 m pc ls (ptr w (.int x1) :: .ref (pAd w x2) :: S.map (ptr w)))
        rw [hH.ad h.1]
        refine r_put (M' := psI M x2 k x1) hw hW hx hb hcl hown hH hS h.1 hk hdc hl' hd (by rw [ht]; rcases h.2.1 with rfl | rfl <;> rfl) (by rw [ht]; rcases h.2.1 with rfl | rfl <;> rfl) rfl rfl (fun b hb2 j => ?_) (fun b hb2 j => ?_) (fun b hb2 j => ?_) (fun j hj => ?_) (fun H1 locs1 hH1 hS1 => h.2.2 H1 locs1 cells slots ls hH1 hL hc hs hS1)
        · show u2 _ _ _ _ _ _ = _; simp [u2, hb2, pI]
        · rfl
        · rfl
        · unfold pfv
          by_cases ej : j = k
          · subst ej
            rw [if_pos rfl, hr]; show Value.int (u2 _ _ _ _ _ _) = _; simp [u2, ptr]
          · rw [if_neg ej]
            cases pIsR (pTy ci j)
            · show Value.int (u2 _ _ _ _ _ _) = _; simp [u2, ej, pI]
            · rfl
      | _ => exact False.elim h
    | _ => exact False.elim h
theorem s_putP {mi : pMI} {pc : Nat} {idx ci k N : Nat} {CN : String} {T : u_T} (hcl : pCls ci CN T N) (hk : k < N) (hdc : (T k).1 = CN) (hl : (pWd (.fieldLink mi.1.cls idx CN (T k).2.1 (T k).2.2.1) ∧ ((T k).2.2.2 = false ∨ ((T k).2.2.2 = true ∧ mi.1.name = "<init>" ∧ CN = mi.1.cls))) ∨ ((T k).2.2.2 = false ∧ ∃ host, pWd (.fieldLinkNest mi.1.cls idx CN (T k).2.1 (T k).2.2.1 host))) (hd : decode mi.2.1 pc = .ok (.putfield idx, 3)) (hr : pIsR (pTy ci k) = true) (hrn : ∀ b, narrow (pTy ci k) (.ref b) = .ref b) (hrf : ∀ b, fits (pTy ci k) (.ref b) = true) : OpS mi pc (o_putP ci k (pc + 3)) := by
  refine ⟨fun C C' X X' Q Q' f M hC hC' hCC hX hQ h => ?_, fun w hw d C hC p e R s m args below meth c Z Q A f M h => ?_⟩
  · obtain ⟨L, S, c0, s0⟩ := f
    rcases S with _ | ⟨v1, S⟩
    · exact False.elim h
    cases v1 with
    | ref x1 =>
      rcases S with _ | ⟨v2, S⟩
      · exact False.elim h
      cases v2 with
      | ref x2 =>
        exact ⟨h.1, hX _ _ _ h.2⟩
      | _ => exact False.elim h
    | _ => exact False.elim h
  · obtain ⟨L, S, c0, s0⟩ := f
    rcases S with _ | ⟨v1, S⟩
    · exact False.elim h
    cases v1 with
    | ref x1 =>
      rcases S with _ | ⟨v2, S⟩
      · exact False.elim h
      cases v2 with
      | ref x2 =>
        intro H locs cells slots ls hH hL hc hs hS
        obtain ⟨hx, hb, hml, hown, hlocks, hrt, hnm, htab, hW, hlow, hfr, hlo, hsz, hend⟩ := A
        have hl' : (pWd (.fieldLink mi.1.cls idx CN (T k).2.1 (T k).2.2.1) ∧ ((T k).2.2.2 = false ∨ ((T k).2.2.2 = true ∧ meth.name = "<init>" ∧ CN = mi.1.cls))) ∨ ((T k).2.2.2 = false ∧ ∃ host, pWd (.fieldLinkNest mi.1.cls idx CN (T k).2.1 (T k).2.2.1 host)) := by rw [hnm]; exact hl
        show W p (pWl w) e R s m args below meth c H locs cells slots Z (F0 m pc ls (ptr w (.ref x1) :: .ref (pAd w x2) :: S.map (ptr w)))
        rw [hH.ad h.1]
        refine r_put (M' := psP M x2 k (x1 + 1)) hw hW hx hb hcl hown hH hS h.1 hk hdc hl' hd (hrn _) (hrf _) rfl rfl (fun b hb2 j => ?_) (fun b hb2 j => ?_) (fun b hb2 j => ?_) (fun j hj => ?_) (fun H1 locs1 hH1 hS1 => h.2 H1 locs1 cells slots ls hH1 hL hc hs hS1)
        · rfl
        · rfl
        · show u2 _ _ _ _ _ _ = _; simp [u2, hb2, pP]
        · unfold pfv
          by_cases ej : j = k
          · subst ej
            rw [if_pos rfl, hr]; show ptr w (pv (u2 _ _ _ _ _ _)) = _; simp [u2, pv]
          · rw [if_neg ej]
            cases pIsR (pTy ci j)
            · rfl
            · show ptr w (pv (u2 _ _ _ _ _ _)) = _; simp [u2, ej, pP]
      | _ => exact False.elim h
    | _ => exact False.elim h
theorem s_iald {mi : pMI} {pc : Nat} (hd : decode mi.2.1 pc = .ok (.iaload, 1)) : OpS mi pc (o_iald (pc + 1)) := by
  refine ⟨fun C C' X X' Q Q' f M hC hC' hCC hX hQ h => ?_, fun w hw d C hC p e R s m args below meth c Z Q A f M h => ?_⟩
  · obtain ⟨L, S, c0, s0⟩ := f
    rcases S with _ | ⟨v1, S⟩
    · exact False.elim h
    cases v1 with
    | int x1 =>
      rcases S with _ | ⟨v2, S⟩
      · exact False.elim h
      cases v2 with
      | ref x2 =>
        obtain ⟨len, h1, h2, h3⟩ := h; exact ⟨len, h1, h2, hX _ _ _ h3⟩
      | _ => exact False.elim h
    | _ => exact False.elim h
  · obtain ⟨L, S, c0, s0⟩ := f
    rcases S with _ | ⟨v1, S⟩
    · exact False.elim h
    cases v1 with
    | int x1 =>
      rcases S with _ | ⟨v2, S⟩
      · exact False.elim h
      cases v2 with
      | ref x2 =>
        intro H locs cells slots ls hH hL hc hs hS
        obtain ⟨hx, hb, hml, hown, hlocks, hrt, hnm, htab, hW, hlow, hfr, hlo, hsz, hend⟩ := A
        obtain ⟨len, h1, h2, h3⟩ := h
        show W p (pWl w) e R s m args below meth c H locs cells slots Z (F0 m pc ls (.int x1 :: .ref (pAd w x2) :: S.map (ptr w)))
        rw [hH.ad h1]
        have hcell := hH.2.2.2.2.1 x2 len h1
        have hK := act_K hw hW
        have hlt : x1.toNatClampNeg < len := Nat.not_le.mp fun q => h2 (Or.inr q)
        refine W.iald (v := .int (pI M x2 x1.toNatClampNeg)) hx hb hcell ((hK.2 0 _ rfl).1 len (fun j => .int (pI M x2 j))) (fun q => by cases q) (by show ¬ (x1 < 0 ∨ (arrV _ _ _).slots.size ≤ _); rw [arrV_size]; exact h2) (by show (arrV _ _ _).slots[_]? = _; rw [arrV_read _ _ hlt]) rfl rfl hd ?_
        exact h3 H locs cells slots ls hH hL hc hs hS
      | _ => exact False.elim h
    | _ => exact False.elim h
theorem s_aald {mi : pMI} {pc : Nat} (hd : decode mi.2.1 pc = .ok (.aaload, 1)) : OpS mi pc (o_aald (pc + 1)) := by
  refine ⟨fun C C' X X' Q Q' f M hC hC' hCC hX hQ h => ?_, fun w hw d C hC p e R s m args below meth c Z Q A f M h => ?_⟩
  · obtain ⟨L, S, c0, s0⟩ := f
    rcases S with _ | ⟨v1, S⟩
    · exact False.elim h
    cases v1 with
    | int x1 =>
      rcases S with _ | ⟨v2, S⟩
      · exact False.elim h
      cases v2 with
      | ref x2 =>
        obtain ⟨len, h1, h2, h3⟩ := h; exact ⟨len, h1, h2, hX _ _ _ h3⟩
      | _ => exact False.elim h
    | _ => exact False.elim h
  · obtain ⟨L, S, c0, s0⟩ := f
    rcases S with _ | ⟨v1, S⟩
    · exact False.elim h
    cases v1 with
    | int x1 =>
      rcases S with _ | ⟨v2, S⟩
      · exact False.elim h
      cases v2 with
      | ref x2 =>
        intro H locs cells slots ls hH hL hc hs hS
        obtain ⟨hx, hb, hml, hown, hlocks, hrt, hnm, htab, hW, hlow, hfr, hlo, hsz, hend⟩ := A
        obtain ⟨len, h1, h2, h3⟩ := h
        show W p (pWl w) e R s m args below meth c H locs cells slots Z (F0 m pc ls (.int x1 :: .ref (pAd w x2) :: S.map (ptr w)))
        rw [hH.ad h1]
        have hcell := hH.2.2.2.2.2.2.1 x2 len h1
        have hK := act_K hw hW
        have hlt : x1.toNatClampNeg < len := Nat.not_le.mp fun q => h2 (Or.inr q)
        refine W.aald (v := va_rf (pOpt w (pP M x2 x1.toNatClampNeg))) (ty := .object "WordPad$Row") hx hb hcell ((hK.2 2 _ rfl).1 len (fun j => va_rf (pOpt w (pP M x2 j)))) rfl (fun q => by cases q) (by show ¬ (x1 < 0 ∨ (arrV _ _ _).slots.size ≤ _); rw [arrV_size]; exact h2) (by show (arrV _ _ _).slots[_]? = _; rw [arrV_read _ _ hlt]) rfl rfl hd ?_
        have e0 : va_rf (pOpt w (pP M x2 x1.toNatClampNeg)) = ptr w (pv (pP M x2 x1.toNatClampNeg)) := by cases pP M x2 x1.toNatClampNeg <;> rfl
        rw [e0]
        exact h3 H locs cells slots ls hH hL hc hs hS
      | _ => exact False.elim h
    | _ => exact False.elim h
theorem s_iast {mi : pMI} {pc : Nat} (hd : decode mi.2.1 pc = .ok (.iastore, 1)) : OpS mi pc (o_iast (pc + 1)) := by
  refine ⟨fun C C' X X' Q Q' f M hC hC' hCC hX hQ h => ?_, fun w hw d C hC p e R s m args below meth c Z Q A f M h => ?_⟩
  · obtain ⟨L, S, c0, s0⟩ := f
    rcases S with _ | ⟨v1, S⟩
    · exact False.elim h
    cases v1 with
    | int x1 =>
      rcases S with _ | ⟨v2, S⟩
      · exact False.elim h
      cases v2 with
      | int x2 =>
        rcases S with _ | ⟨v3, S⟩
        · exact False.elim h
        cases v3 with
        | ref x3 =>
          obtain ⟨len, h1, h2, h3⟩ := h; exact ⟨len, h1, h2, hX _ _ _ h3⟩
        | _ => exact False.elim h
      | _ => exact False.elim h
    | _ => exact False.elim h
  · obtain ⟨L, S, c0, s0⟩ := f
    rcases S with _ | ⟨v1, S⟩
    · exact False.elim h
    cases v1 with
    | int x1 =>
      rcases S with _ | ⟨v2, S⟩
      · exact False.elim h
      cases v2 with
      | int x2 =>
        rcases S with _ | ⟨v3, S⟩
        · exact False.elim h
        cases v3 with
        | ref x3 =>
          intro H locs cells slots ls hH hL hc hs hS
          obtain ⟨hx, hb, hml, hown, hlocks, hrt, hnm, htab, hW, hlow, hfr, hlo, hsz, hend⟩ := A
          obtain ⟨len, h1, h2, h3⟩ := h
          show W p (pWl w) e R s m args below meth c H locs cells slots Z (F0 m pc ls (.int x1 :: .int x2 :: .ref (pAd w x3) :: S.map (ptr w)))
          rw [hH.ad h1]
          have hcell := hH.2.2.2.2.1 x3 len h1
          have hK := act_K hw hW
          refine W.iast hx hb hcell ((hK.2 0 _ rfl).1 len (fun j => .int (pI M x3 j))) (fun q => by cases q) (by show ¬ (x2 < 0 ∨ (arrV _ _ _).slots.size ≤ _); rw [arrV_size]; exact h2) rfl rfl hd fun H1 e1 z oq => ?_
          refine h3 H1 _ cells slots ls (hH.upd h1 (by omega) z oq rfl rfl (fun b hb2 j => by show u2 _ _ _ _ _ _ = _; simp [u2, hb2, pI]) (fun b hb2 j => rfl) (fun _ _ _ => rfl) (fun q => by omega) (fun q => ?_) (fun q => by omega) (fun q => by omega)) hL hc hs (hS.put z oq (show pB w ≤ pB w + x3 by omega))
          rw [e1, vp_cell_i, vp_cell_i, arrV_store]
          congr 2
          funext j
          by_cases hq : j = x2.toNatClampNeg
          · subst hq
            show _ = Value.int (u2 _ _ _ _ _ _)
            simp [updV, u2]
          · show _ = Value.int (u2 _ _ _ _ _ _)
            simp [updV, u2, hq, pI]
        | _ => exact False.elim h
      | _ => exact False.elim h
    | _ => exact False.elim h
