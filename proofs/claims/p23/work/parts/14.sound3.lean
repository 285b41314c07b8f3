theorem s_istore {mi : pMI} {pc : Nat} {k nL : Nat} (hd : decode mi.2.1 pc = .ok (.istore k, 2)) (hn : mi.2.2.1 = nL) : OpS mi pc (o_istore k nL (pc + 2)) := by
  subst hn
  refine ⟨fun C C' X X' Q Q' f M hC hC' hCC hX hQ h => ?_, fun w hw d C hC p e R s m args below meth c Z Q A f M h => ?_⟩
  · obtain ⟨L, S, c0, s0⟩ := f
    rcases S with _ | ⟨v1, S⟩
    · exact False.elim h
    cases v1 with
    | int x1 =>
      exact ⟨h.1, h.2.1, hX _ _ _ h.2.2⟩
    | _ => exact False.elim h
  · obtain ⟨L, S, c0, s0⟩ := f
    rcases S with _ | ⟨v1, S⟩
    · exact False.elim h
    cases v1 with
    | int x1 =>
      intro H locs cells slots ls hH hL hc hs hS
      obtain ⟨hx, hb, hml, hown, hlocks, hrt, hnm, htab, hW, hlow, hfr, hlo, hsz, hend⟩ := A
      refine lv_istore hx hb hd hL.has h.1 rfl (fun ls' hl' => ?_)
      exact h.2.2 H locs cells slots ls' hH (pLR_st1 (v := .int x1) h.2.1 hl') hc hs hS
    | _ => exact False.elim h
theorem s_istore_n {mi : pMI} {pc : Nat} {k : Fin 4} {i nL : Nat} (hd : decode mi.2.1 pc = .ok (.istore_n k, 1)) (hi : (k : Nat) = i) (hn : mi.2.2.1 = nL) : OpS mi pc (o_istore i nL (pc + 1)) := by
  subst hn
  refine ⟨fun C C' X X' Q Q' f M hC hC' hCC hX hQ h => ?_, fun w hw d C hC p e R s m args below meth c Z Q A f M h => ?_⟩
  · obtain ⟨L, S, c0, s0⟩ := f
    rcases S with _ | ⟨v1, S⟩
    · exact False.elim h
    cases v1 with
    | int x1 =>
      exact ⟨h.1, h.2.1, hX _ _ _ h.2.2⟩
    | _ => exact False.elim h
  · obtain ⟨L, S, c0, s0⟩ := f
    rcases S with _ | ⟨v1, S⟩
    · exact False.elim h
    cases v1 with
    | int x1 =>
      intro H locs cells slots ls hH hL hc hs hS
      obtain ⟨hx, hb, hml, hown, hlocks, hrt, hnm, htab, hW, hlow, hfr, hlo, hsz, hend⟩ := A
      refine lv_istore_n hx hb hd hi hL.has h.1 rfl (fun ls' hl' => ?_)
      exact h.2.2 H locs cells slots ls' hH (pLR_st1 (v := .int x1) h.2.1 hl') hc hs hS
    | _ => exact False.elim h
theorem s_astore {mi : pMI} {pc : Nat} {k nL : Nat} (hd : decode mi.2.1 pc = .ok (.astore k, 2)) (hn : mi.2.2.1 = nL) : OpS mi pc (o_astore k nL (pc + 2)) := by
  subst hn
  refine ⟨fun C C' X X' Q Q' f M hC hC' hCC hX hQ h => ?_, fun w hw d C hC p e R s m args below meth c Z Q A f M h => ?_⟩
  · obtain ⟨L, S, c0, s0⟩ := f
    rcases S with _ | ⟨v1, S⟩
    · exact False.elim h
    cases v1 with
    | ref x1 =>
      exact ⟨h.1, h.2.1, hX _ _ _ h.2.2⟩
    | _ => exact False.elim h
  · obtain ⟨L, S, c0, s0⟩ := f
    rcases S with _ | ⟨v1, S⟩
    · exact False.elim h
    cases v1 with
    | ref x1 =>
      intro H locs cells slots ls hH hL hc hs hS
      obtain ⟨hx, hb, hml, hown, hlocks, hrt, hnm, htab, hW, hlow, hfr, hlo, hsz, hend⟩ := A
      refine lv_astore hx hb hd hL.has h.1 rfl (fun ls' hl' => ?_)
      exact h.2.2 H locs cells slots ls' hH (pLR_st1 (v := .ref x1) h.2.1 hl') hc hs hS
    | _ => exact False.elim h
theorem s_astore_n {mi : pMI} {pc : Nat} {k : Fin 4} {i nL : Nat} (hd : decode mi.2.1 pc = .ok (.astore_n k, 1)) (hi : (k : Nat) = i) (hn : mi.2.2.1 = nL) : OpS mi pc (o_astore i nL (pc + 1)) := by
  subst hn
  refine ⟨fun C C' X X' Q Q' f M hC hC' hCC hX hQ h => ?_, fun w hw d C hC p e R s m args below meth c Z Q A f M h => ?_⟩
  · obtain ⟨L, S, c0, s0⟩ := f
    rcases S with _ | ⟨v1, S⟩
    · exact False.elim h
    cases v1 with
    | ref x1 =>
      exact ⟨h.1, h.2.1, hX _ _ _ h.2.2⟩
    | _ => exact False.elim h
  · obtain ⟨L, S, c0, s0⟩ := f
    rcases S with _ | ⟨v1, S⟩
    · exact False.elim h
    cases v1 with
    | ref x1 =>
      intro H locs cells slots ls hH hL hc hs hS
      obtain ⟨hx, hb, hml, hown, hlocks, hrt, hnm, htab, hW, hlow, hfr, hlo, hsz, hend⟩ := A
      refine lv_astore_n hx hb hd hi hL.has h.1 rfl (fun ls' hl' => ?_)
      exact h.2.2 H locs cells slots ls' hH (pLR_st1 (v := .ref x1) h.2.1 hl') hc hs hS
    | _ => exact False.elim h
theorem s_lstore {mi : pMI} {pc : Nat} {k nL : Nat} (hd : decode mi.2.1 pc = .ok (.lstore k, 2)) (hn : mi.2.2.1 = nL) : OpS mi pc (o_lstore k nL (pc + 2)) := by
  subst hn
  refine ⟨fun C C' X X' Q Q' f M hC hC' hCC hX hQ h => ?_, fun w hw d C hC p e R s m args below meth c Z Q A f M h => ?_⟩
  · obtain ⟨L, S, c0, s0⟩ := f
    rcases S with _ | ⟨v1, S⟩
    · exact False.elim h
    cases v1 with
    | long x1 =>
      exact ⟨h.1, h.2.1, hX _ _ _ h.2.2⟩
    | _ => exact False.elim h
  · obtain ⟨L, S, c0, s0⟩ := f
    rcases S with _ | ⟨v1, S⟩
    · exact False.elim h
    cases v1 with
    | long x1 =>
      intro H locs cells slots ls hH hL hc hs hS
      obtain ⟨hx, hb, hml, hown, hlocks, hrt, hnm, htab, hW, hlow, hfr, hlo, hsz, hend⟩ := A
      refine lv_lstore hx hb hd hL.has h.1 rfl (fun ls' hl' => ?_)
      exact h.2.2 H locs cells slots ls' hH (pLR_st2 (v := .long x1) h.2.1 hl') hc hs hS
    | _ => exact False.elim h
theorem s_lstore_n {mi : pMI} {pc : Nat} {k : Fin 4} {i nL : Nat} (hd : decode mi.2.1 pc = .ok (.lstore_n k, 1)) (hi : (k : Nat) = i) (hn : mi.2.2.1 = nL) : OpS mi pc (o_lstore i nL (pc + 1)) := by
  subst hn
  refine ⟨fun C C' X X' Q Q' f M hC hC' hCC hX hQ h => ?_, fun w hw d C hC p e R s m args below meth c Z Q A f M h => ?_⟩
  · obtain ⟨L, S, c0, s0⟩ := f
    rcases S with _ | ⟨v1, S⟩
    · exact False.elim h
    cases v1 with
    | long x1 =>
      exact ⟨h.1, h.2.1, hX _ _ _ h.2.2⟩
    | _ => exact False.elim h
  · obtain ⟨L, S, c0, s0⟩ := f
    rcases S with _ | ⟨v1, S⟩
    · exact False.elim h
    cases v1 with
    | long x1 =>
      intro H locs cells slots ls hH hL hc hs hS
      obtain ⟨hx, hb, hml, hown, hlocks, hrt, hnm, htab, hW, hlow, hfr, hlo, hsz, hend⟩ := A
      refine lv_lstore_n hx hb hd hi hL.has h.1 rfl (fun ls' hl' => ?_)
      exact h.2.2 H locs cells slots ls' hH (pLR_st2 (v := .long x1) h.2.1 hl') hc hs hS
    | _ => exact False.elim h
theorem s_dstore {mi : pMI} {pc : Nat} {k nL : Nat} (hd : decode mi.2.1 pc = .ok (.dstore k, 2)) (hn : mi.2.2.1 = nL) : OpS mi pc (o_dstore k nL (pc + 2)) := by
  subst hn
  refine ⟨fun C C' X X' Q Q' f M hC hC' hCC hX hQ h => ?_, fun w hw d C hC p e R s m args below meth c Z Q A f M h => ?_⟩
  · obtain ⟨L, S, c0, s0⟩ := f
    rcases S with _ | ⟨v1, S⟩
    · exact False.elim h
    cases v1 with
    | double x1 =>
      exact ⟨h.1, h.2.1, hX _ _ _ h.2.2⟩
    | _ => exact False.elim h
  · obtain ⟨L, S, c0, s0⟩ := f
    rcases S with _ | ⟨v1, S⟩
    · exact False.elim h
    cases v1 with
    | double x1 =>
      intro H locs cells slots ls hH hL hc hs hS
      obtain ⟨hx, hb, hml, hown, hlocks, hrt, hnm, htab, hW, hlow, hfr, hlo, hsz, hend⟩ := A
      refine lv_dstore hx hb hd hL.has h.1 rfl (fun ls' hl' => ?_)
      exact h.2.2 H locs cells slots ls' hH (pLR_st2 (v := .double x1) h.2.1 hl') hc hs hS
    | _ => exact False.elim h
theorem s_dstore_n {mi : pMI} {pc : Nat} {k : Fin 4} {i nL : Nat} (hd : decode mi.2.1 pc = .ok (.dstore_n k, 1)) (hi : (k : Nat) = i) (hn : mi.2.2.1 = nL) : OpS mi pc (o_dstore i nL (pc + 1)) := by
  subst hn
  refine ⟨fun C C' X X' Q Q' f M hC hC' hCC hX hQ h => ?_, fun w hw d C hC p e R s m args below meth c Z Q A f M h => ?_⟩
  · obtain ⟨L, S, c0, s0⟩ := f
    rcases S with _ | ⟨v1, S⟩
    · exact False.elim h
    cases v1 with
    | double x1 =>
      exact ⟨h.1, h.2.1, hX _ _ _ h.2.2⟩
    | _ => exact False.elim h
  · obtain ⟨L, S, c0, s0⟩ := f
    rcases S with _ | ⟨v1, S⟩
    · exact False.elim h
    cases v1 with
    | double x1 =>
      intro H locs cells slots ls hH hL hc hs hS
      obtain ⟨hx, hb, hml, hown, hlocks, hrt, hnm, htab, hW, hlow, hfr, hlo, hsz, hend⟩ := A
      refine lv_dstore_n hx hb hd hi hL.has h.1 rfl (fun ls' hl' => ?_)
      exact h.2.2 H locs cells slots ls' hH (pLR_st2 (v := .double x1) h.2.1 hl') hc hs hS
    | _ => exact False.elim h
theorem s_iinc {mi : pMI} {pc : Nat} {k nL : Nat} {n : Int} {v : Int32} (hd : decode mi.2.1 pc = .ok (.iinc k n, 3)) (hv : Int32.ofInt n = v) (hn : mi.2.2.1 = nL) : OpS mi pc (o_iinc k nL v (pc + 3)) := by
  subst hn
  refine ⟨fun C C' X X' Q Q' f M hC hC' hCC hX hQ h => ?_, fun w hw d C hC p e R s m args below meth c Z Q A f M h => ?_⟩
  · unfold o_iinc at h ⊢; split at h
    · rename_i x hp; exact ⟨h.1, h.2.1, hX _ _ _ h.2.2⟩
    · exact h.elim
  · unfold o_iinc at h; split at h
    · rename_i x hp
      intro H locs cells slots ls hH hL hc hs hS
      obtain ⟨hx, hb, hml, hown, hlocks, hrt, hnm, htab, hW, hlow, hfr, hlo, hsz, hend⟩ := A
      have hl0 : lv_has ls mi.2.2.1 ((k, .int x) :: passoc w f.1) := ⟨hL.1, hL.2.1, fun q hq => by
        rcases List.mem_cons.mp hq with rfl | hq
        · exact hL.2.2 k (.int x) hp
        · exact hL.has.2.2 q hq⟩
      refine lv_iinc (k := 0) hx hb hd hl0 rfl (v := x + v) (by rw [hv]) h.1 rfl (fun ls' hl' => ?_)
      refine h.2.2 H locs cells slots ls' hH (pLR_st1 (v := .int (x + v)) h.2.1 ?_) hc hs hS
      refine ⟨hl'.1, hl'.2.1, fun q hq => hl'.2.2 q ?_⟩
      rcases List.mem_cons.mp hq with rfl | hq
      · exact List.mem_cons_self
      · refine List.mem_cons_of_mem _ ?_
        rw [List.mem_filter] at hq ⊢
        exact ⟨List.mem_cons_of_mem _ hq.1, hq.2⟩
    · exact h.elim
