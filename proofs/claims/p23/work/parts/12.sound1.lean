theorem s_iconst {mi : pMI} {pc : Nat} {n : Int} {v : Int32} (hd : decode mi.2.1 pc = .ok (.iconst n, 1)) (hv : Int32.ofInt n = v) : OpS mi pc (o_const (.int v) (pc + 1)) := by
  refine ⟨fun C C' X X' Q Q' f M hC hC' hCC hX hQ h => ?_, fun w hw d C hC p e R s m args below meth c Z Q A f M h => ?_⟩
  · obtain ⟨L, S, c0, s0⟩ := f
    exact hX _ _ _ h
  · obtain ⟨L, S, c0, s0⟩ := f
    intro H locs cells slots ls hH hL hc hs hS
    obtain ⟨hx, hb, hml, hown, hlocks, hrt, hnm, htab, hW, hlow, hfr, hlo, hsz, hend⟩ := A
    refine lv_iconst hx hb hd hv ?_
    exact h H locs cells slots ls hH hL hc hs hS
theorem s_bipush {mi : pMI} {pc : Nat} {n : Int} {v : Int32} (hd : decode mi.2.1 pc = .ok (.bipush n, 2)) (hv : (Int8.ofInt n).toInt32 = v) : OpS mi pc (o_const (.int v) (pc + 2)) := by
  refine ⟨fun C C' X X' Q Q' f M hC hC' hCC hX hQ h => ?_, fun w hw d C hC p e R s m args below meth c Z Q A f M h => ?_⟩
  · obtain ⟨L, S, c0, s0⟩ := f
    exact hX _ _ _ h
  · obtain ⟨L, S, c0, s0⟩ := f
    intro H locs cells slots ls hH hL hc hs hS
    obtain ⟨hx, hb, hml, hown, hlocks, hrt, hnm, htab, hW, hlow, hfr, hlo, hsz, hend⟩ := A
    refine lv_bipush hx hb hd hv ?_
    exact h H locs cells slots ls hH hL hc hs hS
theorem s_sipush {mi : pMI} {pc : Nat} {n : Int} {v : Int32} (hd : decode mi.2.1 pc = .ok (.sipush n, 3)) (hv : (Int16.ofInt n).toInt32 = v) : OpS mi pc (o_const (.int v) (pc + 3)) := by
  refine ⟨fun C C' X X' Q Q' f M hC hC' hCC hX hQ h => ?_, fun w hw d C hC p e R s m args below meth c Z Q A f M h => ?_⟩
  · obtain ⟨L, S, c0, s0⟩ := f
    exact hX _ _ _ h
  · obtain ⟨L, S, c0, s0⟩ := f
    intro H locs cells slots ls hH hL hc hs hS
    obtain ⟨hx, hb, hml, hown, hlocks, hrt, hnm, htab, hW, hlow, hfr, hlo, hsz, hend⟩ := A
    refine lv_sipush hx hb hd hv ?_
    exact h H locs cells slots ls hH hL hc hs hS
theorem s_lconst {mi : pMI} {pc : Nat} {n : Fin 2} {v : Int64} (hd : decode mi.2.1 pc = .ok (.lconst n, 1)) (hv : Int64.ofNat (n : Nat) = v) : OpS mi pc (o_const (.long v) (pc + 1)) := by
  refine ⟨fun C C' X X' Q Q' f M hC hC' hCC hX hQ h => ?_, fun w hw d C hC p e R s m args below meth c Z Q A f M h => ?_⟩
  · obtain ⟨L, S, c0, s0⟩ := f
    exact hX _ _ _ h
  · obtain ⟨L, S, c0, s0⟩ := f
    intro H locs cells slots ls hH hL hc hs hS
    obtain ⟨hx, hb, hml, hown, hlocks, hrt, hnm, htab, hW, hlow, hfr, hlo, hsz, hend⟩ := A
    refine lv_lconst hx hb hd hv ?_
    exact h H locs cells slots ls hH hL hc hs hS
theorem s_dconst0 {mi : pMI} {pc : Nat} (hd : decode mi.2.1 pc = .ok (.dconst 0, 1)) : OpS mi pc (o_const (.double FP.dconst0) (pc + 1)) := by
  refine ⟨fun C C' X X' Q Q' f M hC hC' hCC hX hQ h => ?_, fun w hw d C hC p e R s m args below meth c Z Q A f M h => ?_⟩
  · obtain ⟨L, S, c0, s0⟩ := f
    exact hX _ _ _ h
  · obtain ⟨L, S, c0, s0⟩ := f
    intro H locs cells slots ls hH hL hc hs hS
    obtain ⟨hx, hb, hml, hown, hlocks, hrt, hnm, htab, hW, hlow, hfr, hlo, hsz, hend⟩ := A
    refine lv_dconst0 hx hb hd ?_
    exact h H locs cells slots ls hH hL hc hs hS
theorem s_iadd {mi : pMI} {pc : Nat} (hd : decode mi.2.1 pc = .ok (.iadd, 1)) : OpS mi pc (o_ibin (fun x y => x + y) (pc + 1)) := by
  refine ⟨fun C C' X X' Q Q' f M hC hC' hCC hX hQ h => ?_, fun w hw d C hC p e R s m args below meth c Z Q A f M h => ?_⟩
  · obtain ⟨L, S, c0, s0⟩ := f
    rcases S with _ | ⟨v1, S⟩
    · exact False.elim h
    cases v1 with
    | int x1 =>
      rcases S with _ | ⟨v2, S⟩
      · exact False.elim h
      cases v2 with
      | int x2 =>
        exact hX _ _ _ h
      | _ => exact False.elim h
    | _ => exact False.elim h
  · obtain ⟨L, S, c0, s0⟩ := f
    rcases S with _ | ⟨v1, S⟩
    · exact False.elim h
    cases v1 with
    | int x1 =>
      rcases S with _ | ⟨v2, S⟩
      · exact False.elim h
      cases v2 with
      | int x2 =>
        intro H locs cells slots ls hH hL hc hs hS
        obtain ⟨hx, hb, hml, hown, hlocks, hrt, hnm, htab, hW, hlow, hfr, hlo, hsz, hend⟩ := A
        refine lv_iadd hx hb hd ?_
        exact h H locs cells slots ls hH hL hc hs hS
      | _ => exact False.elim h
    | _ => exact False.elim h
theorem s_isub {mi : pMI} {pc : Nat} (hd : decode mi.2.1 pc = .ok (.isub, 1)) : OpS mi pc (o_ibin (fun x y => x - y) (pc + 1)) := by
  refine ⟨fun C C' X X' Q Q' f M hC hC' hCC hX hQ h => ?_, fun w hw d C hC p e R s m args below meth c Z Q A f M h => ?_⟩
  · obtain ⟨L, S, c0, s0⟩ := f
    rcases S with _ | ⟨v1, S⟩
    · exact False.elim h
    cases v1 with
    | int x1 =>
      rcases S with _ | ⟨v2, S⟩
      · exact False.elim h
      cases v2 with
      | int x2 =>
        exact hX _ _ _ h
      | _ => exact False.elim h
    | _ => exact False.elim h
  · obtain ⟨L, S, c0, s0⟩ := f
    rcases S with _ | ⟨v1, S⟩
    · exact False.elim h
    cases v1 with
    | int x1 =>
      rcases S with _ | ⟨v2, S⟩
      · exact False.elim h
      cases v2 with
      | int x2 =>
        intro H locs cells slots ls hH hL hc hs hS
        obtain ⟨hx, hb, hml, hown, hlocks, hrt, hnm, htab, hW, hlow, hfr, hlo, hsz, hend⟩ := A
        refine lv_isub hx hb hd ?_
        exact h H locs cells slots ls hH hL hc hs hS
      | _ => exact False.elim h
    | _ => exact False.elim h
theorem s_imul {mi : pMI} {pc : Nat} (hd : decode mi.2.1 pc = .ok (.imul, 1)) : OpS mi pc (o_ibin (fun x y => x * y) (pc + 1)) := by
  refine ⟨fun C C' X X' Q Q' f M hC hC' hCC hX hQ h => ?_, fun w hw d C hC p e R s m args below meth c Z Q A f M h => ?_⟩
  · obtain ⟨L, S, c0, s0⟩ := f
    rcases S with _ | ⟨v1, S⟩
    · exact False.elim h
    cases v1 with
    | int x1 =>
      rcases S with _ | ⟨v2, S⟩
      · exact False.elim h
      cases v2 with
      | int x2 =>
        exact hX _ _ _ h
      | _ => exact False.elim h
    | _ => exact False.elim h
  · obtain ⟨L, S, c0, s0⟩ := f
    rcases S with _ | ⟨v1, S⟩
    · exact False.elim h
    cases v1 with
    | int x1 =>
      rcases S with _ | ⟨v2, S⟩
      · exact False.elim h
      cases v2 with
      | int x2 =>
        intro H locs cells slots ls hH hL hc hs hS
        obtain ⟨hx, hb, hml, hown, hlocks, hrt, hnm, htab, hW, hlow, hfr, hlo, hsz, hend⟩ := A
        refine lv_imul hx hb hd ?_
        exact h H locs cells slots ls hH hL hc hs hS
      | _ => exact False.elim h
    | _ => exact False.elim h
theorem s_iand {mi : pMI} {pc : Nat} (hd : decode mi.2.1 pc = .ok (.iand, 1)) : OpS mi pc (o_ibin (fun x y => x &&& y) (pc + 1)) := by
  refine ⟨fun C C' X X' Q Q' f M hC hC' hCC hX hQ h => ?_, fun w hw d C hC p e R s m args below meth c Z Q A f M h => ?_⟩
  · obtain ⟨L, S, c0, s0⟩ := f
    rcases S with _ | ⟨v1, S⟩
    · exact False.elim h
    cases v1 with
    | int x1 =>
      rcases S with _ | ⟨v2, S⟩
      · exact False.elim h
      cases v2 with
      | int x2 =>
        exact hX _ _ _ h
      | _ => exact False.elim h
    | _ => exact False.elim h
  · obtain ⟨L, S, c0, s0⟩ := f
    rcases S with _ | ⟨v1, S⟩
    · exact False.elim h
    cases v1 with
    | int x1 =>
      rcases S with _ | ⟨v2, S⟩
      · exact False.elim h
      cases v2 with
      | int x2 =>
        intro H locs cells slots ls hH hL hc hs hS
        obtain ⟨hx, hb, hml, hown, hlocks, hrt, hnm, htab, hW, hlow, hfr, hlo, hsz, hend⟩ := A
        refine lv_iand hx hb hd ?_
        exact h H locs cells slots ls hH hL hc hs hS
      | _ => exact False.elim h
    | _ => exact False.elim h
theorem s_ior {mi : pMI} {pc : Nat} (hd : decode mi.2.1 pc = .ok (.ior, 1)) : OpS mi pc (o_ibin (fun x y => x ||| y) (pc + 1)) := by
  refine ⟨fun C C' X X' Q Q' f M hC hC' hCC hX hQ h => ?_, fun w hw d C hC p e R s m args below meth c Z Q A f M h => ?_⟩
  · obtain ⟨L, S, c0, s0⟩ := f
    rcases S with _ | ⟨v1, S⟩
    · exact False.elim h
    cases v1 with
    | int x1 =>
      rcases S with _ | ⟨v2, S⟩
      · exact False.elim h
      cases v2 with
      | int x2 =>
        exact hX _ _ _ h
      | _ => exact False.elim h
    | _ => exact False.elim h
  · obtain ⟨L, S, c0, s0⟩ := f
    rcases S with _ | ⟨v1, S⟩
    · exact False.elim h
    cases v1 with
    | int x1 =>
      rcases S with _ | ⟨v2, S⟩
      · exact False.elim h
      cases v2 with
      | int x2 =>
        intro H locs cells slots ls hH hL hc hs hS
        obtain ⟨hx, hb, hml, hown, hlocks, hrt, hnm, htab, hW, hlow, hfr, hlo, hsz, hend⟩ := A
        refine lv_ior hx hb hd ?_
        exact h H locs cells slots ls hH hL hc hs hS
      | _ => exact False.elim h
    | _ => exact False.elim h
theorem s_ishr {mi : pMI} {pc : Nat} (hd : decode mi.2.1 pc = .ok (.ishr, 1)) : OpS mi pc (o_ibin (fun x y => x >>> (y &&& 31)) (pc + 1)) := by
  refine ⟨fun C C' X X' Q Q' f M hC hC' hCC hX hQ h => ?_, fun w hw d C hC p e R s m args below meth c Z Q A f M h => ?_⟩
  · obtain ⟨L, S, c0, s0⟩ := f
    rcases S with _ | ⟨v1, S⟩
    · exact False.elim h
    cases v1 with
    | int x1 =>
      rcases S with _ | ⟨v2, S⟩
      · exact False.elim h
      cases v2 with
      | int x2 =>
        exact hX _ _ _ h
      | _ => exact False.elim h
    | _ => exact False.elim h
  · obtain ⟨L, S, c0, s0⟩ := f
    rcases S with _ | ⟨v1, S⟩
    · exact False.elim h
    cases v1 with
    | int x1 =>
      rcases S with _ | ⟨v2, S⟩
      · exact False.elim h
      cases v2 with
      | int x2 =>
        intro H locs cells slots ls hH hL hc hs hS
        obtain ⟨hx, hb, hml, hown, hlocks, hrt, hnm, htab, hW, hlow, hfr, hlo, hsz, hend⟩ := A
        refine lv_ishr hx hb hd ?_
        exact h H locs cells slots ls hH hL hc hs hS
      | _ => exact False.elim h
    | _ => exact False.elim h
theorem s_iushr {mi : pMI} {pc : Nat} (hd : decode mi.2.1 pc = .ok (.iushr, 1)) : OpS mi pc (o_ibin (fun x y => (x.toUInt32 >>> (y.toUInt32 &&& Int32.toUInt32 31)).toInt32) (pc + 1)) := by
  refine ⟨fun C C' X X' Q Q' f M hC hC' hCC hX hQ h => ?_, fun w hw d C hC p e R s m args below meth c Z Q A f M h => ?_⟩
  · obtain ⟨L, S, c0, s0⟩ := f
    rcases S with _ | ⟨v1, S⟩
    · exact False.elim h
    cases v1 with
    | int x1 =>
      rcases S with _ | ⟨v2, S⟩
      · exact False.elim h
      cases v2 with
      | int x2 =>
        exact hX _ _ _ h
      | _ => exact False.elim h
    | _ => exact False.elim h
  · obtain ⟨L, S, c0, s0⟩ := f
    rcases S with _ | ⟨v1, S⟩
    · exact False.elim h
    cases v1 with
    | int x1 =>
      rcases S with _ | ⟨v2, S⟩
      · exact False.elim h
      cases v2 with
      | int x2 =>
        intro H locs cells slots ls hH hL hc hs hS
        obtain ⟨hx, hb, hml, hown, hlocks, hrt, hnm, htab, hW, hlow, hfr, hlo, hsz, hend⟩ := A
        refine lv_iushr hx hb hd rfl ?_
        exact h H locs cells slots ls hH hL hc hs hS
      | _ => exact False.elim h
    | _ => exact False.elim h
theorem s_ineg {mi : pMI} {pc : Nat} (hd : decode mi.2.1 pc = .ok (.ineg, 1)) : OpS mi pc (o_iun (fun x => -x) (pc + 1)) := by
  refine ⟨fun C C' X X' Q Q' f M hC hC' hCC hX hQ h => ?_, fun w hw d C hC p e R s m args below meth c Z Q A f M h => ?_⟩
  · obtain ⟨L, S, c0, s0⟩ := f
    rcases S with _ | ⟨v1, S⟩
    · exact False.elim h
    cases v1 with
    | int x1 =>
      exact hX _ _ _ h
    | _ => exact False.elim h
  · obtain ⟨L, S, c0, s0⟩ := f
    rcases S with _ | ⟨v1, S⟩
    · exact False.elim h
    cases v1 with
    | int x1 =>
      intro H locs cells slots ls hH hL hc hs hS
      obtain ⟨hx, hb, hml, hown, hlocks, hrt, hnm, htab, hW, hlow, hfr, hlo, hsz, hend⟩ := A
      refine lv_ineg hx hb hd ?_
      exact h H locs cells slots ls hH hL hc hs hS
    | _ => exact False.elim h
theorem s_i2c {mi : pMI} {pc : Nat} (hd : decode mi.2.1 pc = .ok (.i2c, 1)) : OpS mi pc (o_iun (fun x => (x.toUInt32 % 65536).toInt32) (pc + 1)) := by
  refine ⟨fun C C' X X' Q Q' f M hC hC' hCC hX hQ h => ?_, fun w hw d C hC p e R s m args below meth c Z Q A f M h => ?_⟩
  · obtain ⟨L, S, c0, s0⟩ := f
    rcases S with _ | ⟨v1, S⟩
    · exact False.elim h
    cases v1 with
    | int x1 =>
      exact hX _ _ _ h
    | _ => exact False.elim h
  · obtain ⟨L, S, c0, s0⟩ := f
    rcases S with _ | ⟨v1, S⟩
    · exact False.elim h
    cases v1 with
    | int x1 =>
      intro H locs cells slots ls hH hL hc hs hS
      obtain ⟨hx, hb, hml, hown, hlocks, hrt, hnm, htab, hW, hlow, hfr, hlo, hsz, hend⟩ := A
      refine lv_i2c hx hb hd rfl ?_
      exact h H locs cells slots ls hH hL hc hs hS
    | _ => exact False.elim h
theorem s_idiv {mi : pMI} {pc : Nat} (hd : decode mi.2.1 pc = .ok (.idiv, 1)) : OpS mi pc (o_idiv (pc + 1)) := by
  refine ⟨fun C C' X X' Q Q' f M hC hC' hCC hX hQ h => ?_, fun w hw d C hC p e R s m args below meth c Z Q A f M h => ?_⟩
  · obtain ⟨L, S, c0, s0⟩ := f
    rcases S with _ | ⟨v1, S⟩
    · exact False.elim h
    cases v1 with
    | int x1 =>
      rcases S with _ | ⟨v2, S⟩
      · exact False.elim h
      cases v2 with
      | int x2 =>
        exact ⟨h.1, hX _ _ _ h.2⟩
      | _ => exact False.elim h
    | _ => exact False.elim h
  · obtain ⟨L, S, c0, s0⟩ := f
    rcases S with _ | ⟨v1, S⟩
    · exact False.elim h
    cases v1 with
    | int x1 =>
      rcases S with _ | ⟨v2, S⟩
      · exact False.elim h
      cases v2 with
      | int x2 =>
        intro H locs cells slots ls hH hL hc hs hS
        obtain ⟨hx, hb, hml, hown, hlocks, hrt, hnm, htab, hW, hlow, hfr, hlo, hsz, hend⟩ := A
        refine lv_idiv hx hb hd h.1 ?_
        exact h.2 H locs cells slots ls hH hL hc hs hS
      | _ => exact False.elim h
    | _ => exact False.elim h
theorem s_irem {mi : pMI} {pc : Nat} (hd : decode mi.2.1 pc = .ok (.irem, 1)) : OpS mi pc (o_irem (pc + 1)) := by
  refine ⟨fun C C' X X' Q Q' f M hC hC' hCC hX hQ h => ?_, fun w hw d C hC p e R s m args below meth c Z Q A f M h => ?_⟩
  · obtain ⟨L, S, c0, s0⟩ := f
    rcases S with _ | ⟨v1, S⟩
    · exact False.elim h
    cases v1 with
    | int x1 =>
      rcases S with _ | ⟨v2, S⟩
      · exact False.elim h
      cases v2 with
      | int x2 =>
        exact ⟨h.1, hX _ _ _ h.2⟩
      | _ => exact False.elim h
    | _ => exact False.elim h
  · obtain ⟨L, S, c0, s0⟩ := f
    rcases S with _ | ⟨v1, S⟩
    · exact False.elim h
    cases v1 with
    | int x1 =>
      rcases S with _ | ⟨v2, S⟩
      · exact False.elim h
      cases v2 with
      | int x2 =>
        intro H locs cells slots ls hH hL hc hs hS
        obtain ⟨hx, hb, hml, hown, hlocks, hrt, hnm, htab, hW, hlow, hfr, hlo, hsz, hend⟩ := A
        refine lv_irem hx hb hd h.1 ?_
        exact h.2 H locs cells slots ls hH hL hc hs hS
      | _ => exact False.elim h
    | _ => exact False.elim h
theorem s_ladd {mi : pMI} {pc : Nat} (hd : decode mi.2.1 pc = .ok (.ladd, 1)) : OpS mi pc (o_lbin (fun x y => x + y) (pc + 1)) := by
  refine ⟨fun C C' X X' Q Q' f M hC hC' hCC hX hQ h => ?_, fun w hw d C hC p e R s m args below meth c Z Q A f M h => ?_⟩
  · obtain ⟨L, S, c0, s0⟩ := f
    rcases S with _ | ⟨v1, S⟩
    · exact False.elim h
    cases v1 with
    | long x1 =>
      rcases S with _ | ⟨v2, S⟩
      · exact False.elim h
      cases v2 with
      | long x2 =>
        exact hX _ _ _ h
      | _ => exact False.elim h
    | _ => exact False.elim h
  · obtain ⟨L, S, c0, s0⟩ := f
    rcases S with _ | ⟨v1, S⟩
    · exact False.elim h
    cases v1 with
    | long x1 =>
      rcases S with _ | ⟨v2, S⟩
      · exact False.elim h
      cases v2 with
      | long x2 =>
        intro H locs cells slots ls hH hL hc hs hS
        obtain ⟨hx, hb, hml, hown, hlocks, hrt, hnm, htab, hW, hlow, hfr, hlo, hsz, hend⟩ := A
        refine lv_ladd hx hb hd ?_
        exact h H locs cells slots ls hH hL hc hs hS
      | _ => exact False.elim h
    | _ => exact False.elim h
theorem s_lsub {mi : pMI} {pc : Nat} (hd : decode mi.2.1 pc = .ok (.lsub, 1)) : OpS mi pc (o_lbin (fun x y => x - y) (pc + 1)) := by
  refine ⟨fun C C' X X' Q Q' f M hC hC' hCC hX hQ h => ?_, fun w hw d C hC p e R s m args below meth c Z Q A f M h => ?_⟩
  · obtain ⟨L, S, c0, s0⟩ := f
    rcases S with _ | ⟨v1, S⟩
    · exact False.elim h
    cases v1 with
    | long x1 =>
      rcases S with _ | ⟨v2, S⟩
      · exact False.elim h
      cases v2 with
      | long x2 =>
        exact hX _ _ _ h
      | _ => exact False.elim h
    | _ => exact False.elim h
  · obtain ⟨L, S, c0, s0⟩ := f
    rcases S with _ | ⟨v1, S⟩
    · exact False.elim h
    cases v1 with
    | long x1 =>
      rcases S with _ | ⟨v2, S⟩
      · exact False.elim h
      cases v2 with
      | long x2 =>
        intro H locs cells slots ls hH hL hc hs hS
        obtain ⟨hx, hb, hml, hown, hlocks, hrt, hnm, htab, hW, hlow, hfr, hlo, hsz, hend⟩ := A
        refine lv_lsub hx hb hd ?_
        exact h H locs cells slots ls hH hL hc hs hS
      | _ => exact False.elim h
    | _ => exact False.elim h
theorem s_lmul {mi : pMI} {pc : Nat} (hd : decode mi.2.1 pc = .ok (.lmul, 1)) : OpS mi pc (o_lbin (fun x y => x * y) (pc + 1)) := by
  refine ⟨fun C C' X X' Q Q' f M hC hC' hCC hX hQ h => ?_, fun w hw d C hC p e R s m args below meth c Z Q A f M h => ?_⟩
  · obtain ⟨L, S, c0, s0⟩ := f
    rcases S with _ | ⟨v1, S⟩
    · exact False.elim h
    cases v1 with
    | long x1 =>
      rcases S with _ | ⟨v2, S⟩
      · exact False.elim h
      cases v2 with
      | long x2 =>
        exact hX _ _ _ h
      | _ => exact False.elim h
    | _ => exact False.elim h
  · obtain ⟨L, S, c0, s0⟩ := f
    rcases S with _ | ⟨v1, S⟩
    · exact False.elim h
    cases v1 with
    | long x1 =>
      rcases S with _ | ⟨v2, S⟩
      · exact False.elim h
      cases v2 with
      | long x2 =>
        intro H locs cells slots ls hH hL hc hs hS
        obtain ⟨hx, hb, hml, hown, hlocks, hrt, hnm, htab, hW, hlow, hfr, hlo, hsz, hend⟩ := A
        refine lv_lmul hx hb hd ?_
        exact h H locs cells slots ls hH hL hc hs hS
      | _ => exact False.elim h
    | _ => exact False.elim h
theorem s_i2l {mi : pMI} {pc : Nat} (hd : decode mi.2.1 pc = .ok (.i2l, 1)) : OpS mi pc (o_i2l (pc + 1)) := by
  refine ⟨fun C C' X X' Q Q' f M hC hC' hCC hX hQ h => ?_, fun w hw d C hC p e R s m args below meth c Z Q A f M h => ?_⟩
  · obtain ⟨L, S, c0, s0⟩ := f
    rcases S with _ | ⟨v1, S⟩
    · exact False.elim h
    cases v1 with
    | int x1 =>
      exact hX _ _ _ h
    | _ => exact False.elim h
  · obtain ⟨L, S, c0, s0⟩ := f
    rcases S with _ | ⟨v1, S⟩
    · exact False.elim h
    cases v1 with
    | int x1 =>
      intro H locs cells slots ls hH hL hc hs hS
      obtain ⟨hx, hb, hml, hown, hlocks, hrt, hnm, htab, hW, hlow, hfr, hlo, hsz, hend⟩ := A
      refine lv_i2l hx hb hd rfl ?_
      exact h H locs cells slots ls hH hL hc hs hS
    | _ => exact False.elim h
theorem s_l2i {mi : pMI} {pc : Nat} (hd : decode mi.2.1 pc = .ok (.l2i, 1)) : OpS mi pc (o_l2i (pc + 1)) := by
  refine ⟨fun C C' X X' Q Q' f M hC hC' hCC hX hQ h => ?_, fun w hw d C hC p e R s m args below meth c Z Q A f M h => ?_⟩
  · obtain ⟨L, S, c0, s0⟩ := f
    rcases S with _ | ⟨v1, S⟩
    · exact False.elim h
    cases v1 with
    | long x1 =>
      exact hX _ _ _ h
    | _ => exact False.elim h
  · obtain ⟨L, S, c0, s0⟩ := f
    rcases S with _ | ⟨v1, S⟩
    · exact False.elim h
    cases v1 with
    | long x1 =>
      intro H locs cells slots ls hH hL hc hs hS
      obtain ⟨hx, hb, hml, hown, hlocks, hrt, hnm, htab, hW, hlow, hfr, hlo, hsz, hend⟩ := A
      refine lv_l2i hx hb hd rfl ?_
      exact h H locs cells slots ls hH hL hc hs hS
    | _ => exact False.elim h
theorem s_lcmp {mi : pMI} {pc : Nat} (hd : decode mi.2.1 pc = .ok (.lcmp, 1)) : OpS mi pc (o_lcmp (pc + 1)) := by
  refine ⟨fun C C' X X' Q Q' f M hC hC' hCC hX hQ h => ?_, fun w hw d C hC p e R s m args below meth c Z Q A f M h => ?_⟩
  · obtain ⟨L, S, c0, s0⟩ := f
    rcases S with _ | ⟨v1, S⟩
    · exact False.elim h
    cases v1 with
    | long x1 =>
      rcases S with _ | ⟨v2, S⟩
      · exact False.elim h
      cases v2 with
      | long x2 =>
        exact hX _ _ _ h
      | _ => exact False.elim h
    | _ => exact False.elim h
  · obtain ⟨L, S, c0, s0⟩ := f
    rcases S with _ | ⟨v1, S⟩
    · exact False.elim h
    cases v1 with
    | long x1 =>
      rcases S with _ | ⟨v2, S⟩
      · exact False.elim h
      cases v2 with
      | long x2 =>
        intro H locs cells slots ls hH hL hc hs hS
        obtain ⟨hx, hb, hml, hown, hlocks, hrt, hnm, htab, hW, hlow, hfr, hlo, hsz, hend⟩ := A
        refine W.lcmp hx hb hd ?_
        exact h H locs cells slots ls hH hL hc hs hS
      | _ => exact False.elim h
    | _ => exact False.elim h
theorem s_i2d {mi : pMI} {pc : Nat} (hd : decode mi.2.1 pc = .ok (.i2d, 1)) : OpS mi pc (o_i2d (pc + 1)) := by
  refine ⟨fun C C' X X' Q Q' f M hC hC' hCC hX hQ h => ?_, fun w hw d C hC p e R s m args below meth c Z Q A f M h => ?_⟩
  · obtain ⟨L, S, c0, s0⟩ := f
    rcases S with _ | ⟨v1, S⟩
    · exact False.elim h
    cases v1 with
    | int x1 =>
      exact hX _ _ _ h
    | _ => exact False.elim h
  · obtain ⟨L, S, c0, s0⟩ := f
    rcases S with _ | ⟨v1, S⟩
    · exact False.elim h
    cases v1 with
    | int x1 =>
      intro H locs cells slots ls hH hL hc hs hS
      obtain ⟨hx, hb, hml, hown, hlocks, hrt, hnm, htab, hW, hlow, hfr, hlo, hsz, hend⟩ := A
      refine lv_i2d hx hb hd ?_
      exact h H locs cells slots ls hH hL hc hs hS
    | _ => exact False.elim h
theorem s_ddiv {mi : pMI} {pc : Nat} (hd : decode mi.2.1 pc = .ok (.ddiv, 1)) : OpS mi pc (o_ddiv (pc + 1)) := by
  refine ⟨fun C C' X X' Q Q' f M hC hC' hCC hX hQ h => ?_, fun w hw d C hC p e R s m args below meth c Z Q A f M h => ?_⟩
  · obtain ⟨L, S, c0, s0⟩ := f
    rcases S with _ | ⟨v1, S⟩
    · exact False.elim h
    cases v1 with
    | double x1 =>
      rcases S with _ | ⟨v2, S⟩
      · exact False.elim h
      cases v2 with
      | double x2 =>
        exact ⟨h.1, hX _ _ _ h.2⟩
      | _ => exact False.elim h
    | _ => exact False.elim h
  · obtain ⟨L, S, c0, s0⟩ := f
    rcases S with _ | ⟨v1, S⟩
    · exact False.elim h
    cases v1 with
    | double x1 =>
      rcases S with _ | ⟨v2, S⟩
      · exact False.elim h
      cases v2 with
      | double x2 =>
        intro H locs cells slots ls hH hL hc hs hS
        obtain ⟨hx, hb, hml, hown, hlocks, hrt, hnm, htab, hW, hlow, hfr, hlo, hsz, hend⟩ := A
        refine lv_ddiv hx hb hd h.1 ?_
        exact h.2 H locs cells slots ls hH hL hc hs hS
      | _ => exact False.elim h
    | _ => exact False.elim h
theorem s_dcmp {mi : pMI} {pc : Nat} {op : CmpOp} (hd : decode mi.2.1 pc = .ok (.dcmp op, 1)) : OpS mi pc (o_dcmp op (pc + 1)) := by
  refine ⟨fun C C' X X' Q Q' f M hC hC' hCC hX hQ h => ?_, fun w hw d C hC p e R s m args below meth c Z Q A f M h => ?_⟩
  · obtain ⟨L, S, c0, s0⟩ := f
    rcases S with _ | ⟨v1, S⟩
    · exact False.elim h
    cases v1 with
    | double x1 =>
      rcases S with _ | ⟨v2, S⟩
      · exact False.elim h
      cases v2 with
      | double x2 =>
        exact hX _ _ _ h
      | _ => exact False.elim h
    | _ => exact False.elim h
  · obtain ⟨L, S, c0, s0⟩ := f
    rcases S with _ | ⟨v1, S⟩
    · exact False.elim h
    cases v1 with
    | double x1 =>
      rcases S with _ | ⟨v2, S⟩
      · exact False.elim h
      cases v2 with
      | double x2 =>
        intro H locs cells slots ls hH hL hc hs hS
        obtain ⟨hx, hb, hml, hown, hlocks, hrt, hnm, htab, hW, hlow, hfr, hlo, hsz, hend⟩ := A
        refine lv_dcmp hx hb hd ?_
        exact h H locs cells slots ls hH hL hc hs hS
      | _ => exact False.elim h
    | _ => exact False.elim h
theorem s_dup {mi : pMI} {pc : Nat} (hd : decode mi.2.1 pc = .ok (.dup, 1)) : OpS mi pc (o_dup (pc + 1)) := by
  refine ⟨fun C C' X X' Q Q' f M hC hC' hCC hX hQ h => ?_, fun w hw d C hC p e R s m args below meth c Z Q A f M h => ?_⟩
  · obtain ⟨L, S, c0, s0⟩ := f
    rcases S with _ | ⟨v1, S⟩
    · exact False.elim h
    exact ⟨h.1, hX _ _ _ h.2⟩
  · obtain ⟨L, S, c0, s0⟩ := f
    rcases S with _ | ⟨v1, S⟩
    · exact False.elim h
    intro H locs cells slots ls hH hL hc hs hS
    obtain ⟨hx, hb, hml, hown, hlocks, hrt, hnm, htab, hW, hlow, hfr, hlo, hsz, hend⟩ := A
    refine lv_dup hx hb hd ((ptr_cat w v1).trans ((pcat2_iff0 v1).mp h.1)) ?_
    exact h.2 H locs cells slots ls hH hL hc hs hS
theorem s_pop {mi : pMI} {pc : Nat} (hd : decode mi.2.1 pc = .ok (.pop, 1)) : OpS mi pc (o_pop (pc + 1)) := by
  refine ⟨fun C C' X X' Q Q' f M hC hC' hCC hX hQ h => ?_, fun w hw d C hC p e R s m args below meth c Z Q A f M h => ?_⟩
  · obtain ⟨L, S, c0, s0⟩ := f
    rcases S with _ | ⟨v1, S⟩
    · exact False.elim h
    exact ⟨h.1, hX _ _ _ h.2⟩
  · obtain ⟨L, S, c0, s0⟩ := f
    rcases S with _ | ⟨v1, S⟩
    · exact False.elim h
    intro H locs cells slots ls hH hL hc hs hS
    obtain ⟨hx, hb, hml, hown, hlocks, hrt, hnm, htab, hW, hlow, hfr, hlo, hsz, hend⟩ := A
    refine lv_pop hx hb hd ((ptr_cat w v1).trans ((pcat2_iff0 v1).mp h.1)) ?_
    exact h.2 H locs cells slots ls hH hL hc hs hS
theorem s_dup2 {mi : pMI} {pc : Nat} (hd : decode mi.2.1 pc = .ok (.dup2, 1)) : OpS mi pc (o_dup2 (pc + 1)) := by
  refine ⟨fun C C' X X' Q Q' f M hC hC' hCC hX hQ h => ?_, fun w hw d C hC p e R s m args below meth c Z Q A f M h => ?_⟩
  · obtain ⟨L, S, c0, s0⟩ := f
    rcases S with _ | ⟨v1, S⟩
    · exact False.elim h
    rcases S with _ | ⟨v2, S⟩
    · exact False.elim h
    exact ⟨h.1, h.2.1, hX _ _ _ h.2.2⟩
  · obtain ⟨L, S, c0, s0⟩ := f
    rcases S with _ | ⟨v1, S⟩
    · exact False.elim h
    rcases S with _ | ⟨v2, S⟩
    · exact False.elim h
    intro H locs cells slots ls hH hL hc hs hS
    obtain ⟨hx, hb, hml, hown, hlocks, hrt, hnm, htab, hW, hlow, hfr, hlo, hsz, hend⟩ := A
    refine lv_dup2_11 hx hb hd ((ptr_cat w v1).trans ((pcat2_iff0 v1).mp h.1)) ((ptr_cat w v2).trans ((pcat2_iff0 v2).mp h.2.1)) ?_
    exact h.2.2 H locs cells slots ls hH hL hc hs hS
theorem s_goto {mi : pMI} {pc : Nat} {off : Int} {t : Nat} (hd : decode mi.2.1 pc = .ok (.goto off, 3)) (ht : (pc : Int) + off = (t : Int)) : OpS mi pc (o_goto t) := by
  refine ⟨fun C C' X X' Q Q' f M hC hC' hCC hX hQ h => ?_, fun w hw d C hC p e R s m args below meth c Z Q A f M h => ?_⟩
  · obtain ⟨L, S, c0, s0⟩ := f
    exact hX _ _ _ h
  · obtain ⟨L, S, c0, s0⟩ := f
    intro H locs cells slots ls hH hL hc hs hS
    obtain ⟨hx, hb, hml, hown, hlocks, hrt, hnm, htab, hW, hlow, hfr, hlo, hsz, hend⟩ := A
    refine lv_goto hx hb hd ht ?_
    exact h H locs cells slots ls hH hL hc hs hS
theorem s_if_eq {mi : pMI} {pc : Nat} {off : Int} {t : Nat} (hd : decode mi.2.1 pc = .ok (.ifCond .eq off, 3)) (ht : (pc : Int) + off = (t : Int)) : OpS mi pc (o_if (fun x => x = 0) t (pc + 3)) := by
  refine ⟨fun C C' X X' Q Q' f M hC hC' hCC hX hQ h => ?_, fun w hw d C hC p e R s m args below meth c Z Q A f M h => ?_⟩
  · obtain ⟨L, S, c0, s0⟩ := f
    rcases S with _ | ⟨v1, S⟩
    · exact False.elim h
    cases v1 with
    | int x1 =>
      exact ⟨fun g => hX _ _ _ (h.1 g), fun g => hX _ _ _ (h.2 g)⟩
    | _ => exact False.elim h
  · obtain ⟨L, S, c0, s0⟩ := f
    rcases S with _ | ⟨v1, S⟩
    · exact False.elim h
    cases v1 with
    | int x1 =>
      intro H locs cells slots ls hH hL hc hs hS
      obtain ⟨hx, hb, hml, hown, hlocks, hrt, hnm, htab, hW, hlow, hfr, hlo, hsz, hend⟩ := A
      exact lv_if_eq hx hb hd ht (fun g => h.1 g H locs cells slots ls hH hL hc hs hS) (fun g => h.2 g H locs cells slots ls hH hL hc hs hS)
    | _ => exact False.elim h
theorem s_if_lt {mi : pMI} {pc : Nat} {off : Int} {t : Nat} (hd : decode mi.2.1 pc = .ok (.ifCond .lt off, 3)) (ht : (pc : Int) + off = (t : Int)) : OpS mi pc (o_if (fun x => x < 0) t (pc + 3)) := by
  refine ⟨fun C C' X X' Q Q' f M hC hC' hCC hX hQ h => ?_, fun w hw d C hC p e R s m args below meth c Z Q A f M h => ?_⟩
  · obtain ⟨L, S, c0, s0⟩ := f
    rcases S with _ | ⟨v1, S⟩
    · exact False.elim h
    cases v1 with
    | int x1 =>
      exact ⟨fun g => hX _ _ _ (h.1 g), fun g => hX _ _ _ (h.2 g)⟩
    | _ => exact False.elim h
  · obtain ⟨L, S, c0, s0⟩ := f
    rcases S with _ | ⟨v1, S⟩
    · exact False.elim h
    cases v1 with
    | int x1 =>
      intro H locs cells slots ls hH hL hc hs hS
      obtain ⟨hx, hb, hml, hown, hlocks, hrt, hnm, htab, hW, hlow, hfr, hlo, hsz, hend⟩ := A
      exact lv_if_lt hx hb hd ht (fun g => h.1 g H locs cells slots ls hH hL hc hs hS) (fun g => h.2 g H locs cells slots ls hH hL hc hs hS)
    | _ => exact False.elim h
theorem s_if_ge {mi : pMI} {pc : Nat} {off : Int} {t : Nat} (hd : decode mi.2.1 pc = .ok (.ifCond .ge off, 3)) (ht : (pc : Int) + off = (t : Int)) : OpS mi pc (o_if (fun x => 0 ≤ x) t (pc + 3)) := by
  refine ⟨fun C C' X X' Q Q' f M hC hC' hCC hX hQ h => ?_, fun w hw d C hC p e R s m args below meth c Z Q A f M h => ?_⟩
  · obtain ⟨L, S, c0, s0⟩ := f
    rcases S with _ | ⟨v1, S⟩
    · exact False.elim h
    cases v1 with
    | int x1 =>
      exact ⟨fun g => hX _ _ _ (h.1 g), fun g => hX _ _ _ (h.2 g)⟩
    | _ => exact False.elim h
  · obtain ⟨L, S, c0, s0⟩ := f
    rcases S with _ | ⟨v1, S⟩
    · exact False.elim h
    cases v1 with
    | int x1 =>
      intro H locs cells slots ls hH hL hc hs hS
      obtain ⟨hx, hb, hml, hown, hlocks, hrt, hnm, htab, hW, hlow, hfr, hlo, hsz, hend⟩ := A
      exact lv_if_ge hx hb hd ht (fun g => h.1 g H locs cells slots ls hH hL hc hs hS) (fun g => h.2 g H locs cells slots ls hH hL hc hs hS)
    | _ => exact False.elim h
theorem s_if_gt {mi : pMI} {pc : Nat} {off : Int} {t : Nat} (hd : decode mi.2.1 pc = .ok (.ifCond .gt off, 3)) (ht : (pc : Int) + off = (t : Int)) : OpS mi pc (o_if (fun x => 0 < x) t (pc + 3)) := by
  refine ⟨fun C C' X X' Q Q' f M hC hC' hCC hX hQ h => ?_, fun w hw d C hC p e R s m args below meth c Z Q A f M h => ?_⟩
  · obtain ⟨L, S, c0, s0⟩ := f
    rcases S with _ | ⟨v1, S⟩
    · exact False.elim h
    cases v1 with
    | int x1 =>
      exact ⟨fun g => hX _ _ _ (h.1 g), fun g => hX _ _ _ (h.2 g)⟩
    | _ => exact False.elim h
  · obtain ⟨L, S, c0, s0⟩ := f
    rcases S with _ | ⟨v1, S⟩
    · exact False.elim h
    cases v1 with
    | int x1 =>
      intro H locs cells slots ls hH hL hc hs hS
      obtain ⟨hx, hb, hml, hown, hlocks, hrt, hnm, htab, hW, hlow, hfr, hlo, hsz, hend⟩ := A
      exact lv_if_gt hx hb hd ht (fun g => h.1 g H locs cells slots ls hH hL hc hs hS) (fun g => h.2 g H locs cells slots ls hH hL hc hs hS)
    | _ => exact False.elim h
theorem s_if_le {mi : pMI} {pc : Nat} {off : Int} {t : Nat} (hd : decode mi.2.1 pc = .ok (.ifCond .le off, 3)) (ht : (pc : Int) + off = (t : Int)) : OpS mi pc (o_if (fun x => x ≤ 0) t (pc + 3)) := by
  refine ⟨fun C C' X X' Q Q' f M hC hC' hCC hX hQ h => ?_, fun w hw d C hC p e R s m args below meth c Z Q A f M h => ?_⟩
  · obtain ⟨L, S, c0, s0⟩ := f
    rcases S with _ | ⟨v1, S⟩
    · exact False.elim h
    cases v1 with
    | int x1 =>
      exact ⟨fun g => hX _ _ _ (h.1 g), fun g => hX _ _ _ (h.2 g)⟩
    | _ => exact False.elim h
  · obtain ⟨L, S, c0, s0⟩ := f
    rcases S with _ | ⟨v1, S⟩
    · exact False.elim h
    cases v1 with
    | int x1 =>
      intro H locs cells slots ls hH hL hc hs hS
      obtain ⟨hx, hb, hml, hown, hlocks, hrt, hnm, htab, hW, hlow, hfr, hlo, hsz, hend⟩ := A
      exact lv_if_le hx hb hd ht (fun g => h.1 g H locs cells slots ls hH hL hc hs hS) (fun g => h.2 g H locs cells slots ls hH hL hc hs hS)
    | _ => exact False.elim h
theorem s_icmp_eq {mi : pMI} {pc : Nat} {off : Int} {t : Nat} (hd : decode mi.2.1 pc = .ok (.if_icmp .eq off, 3)) (ht : (pc : Int) + off = (t : Int)) : OpS mi pc (o_icmp (fun x y => x = y) t (pc + 3)) := by
  refine ⟨fun C C' X X' Q Q' f M hC hC' hCC hX hQ h => ?_, fun w hw d C hC p e R s m args below meth c Z Q A f M h => ?_⟩
  · obtain ⟨L, S, c0, s0⟩ := f
    rcases S with _ | ⟨v1, S⟩
    · exact False.elim h
    cases v1 with
    | int x1 =>
      rcases S with _ | ⟨v2, S⟩
      · exact False.elim h
      cases v2 with
      | int x2 =>
        exact ⟨fun g => hX _ _ _ (h.1 g), fun g => hX _ _ _ (h.2 g)⟩
      | _ => exact False.elim h
    | _ => exact False.elim h
  · obtain ⟨L, S, c0, s0⟩ := f
    rcases S with _ | ⟨v1, S⟩
    · exact False.elim h
    cases v1 with
    | int x1 =>
      rcases S with _ | ⟨v2, S⟩
      · exact False.elim h
      cases v2 with
      | int x2 =>
        intro H locs cells slots ls hH hL hc hs hS
        obtain ⟨hx, hb, hml, hown, hlocks, hrt, hnm, htab, hW, hlow, hfr, hlo, hsz, hend⟩ := A
        exact lv_icmp_eq hx hb hd ht (fun g => h.1 g H locs cells slots ls hH hL hc hs hS) (fun g => h.2 g H locs cells slots ls hH hL hc hs hS)
      | _ => exact False.elim h
    | _ => exact False.elim h
theorem s_icmp_lt {mi : pMI} {pc : Nat} {off : Int} {t : Nat} (hd : decode mi.2.1 pc = .ok (.if_icmp .lt off, 3)) (ht : (pc : Int) + off = (t : Int)) : OpS mi pc (o_icmp (fun x y => x < y) t (pc + 3)) := by
  refine ⟨fun C C' X X' Q Q' f M hC hC' hCC hX hQ h => ?_, fun w hw d C hC p e R s m args below meth c Z Q A f M h => ?_⟩
  · obtain ⟨L, S, c0, s0⟩ := f
    rcases S with _ | ⟨v1, S⟩
    · exact False.elim h
    cases v1 with
    | int x1 =>
      rcases S with _ | ⟨v2, S⟩
      · exact False.elim h
      cases v2 with
      | int x2 =>
        exact ⟨fun g => hX _ _ _ (h.1 g), fun g => hX _ _ _ (h.2 g)⟩
      | _ => exact False.elim h
    | _ => exact False.elim h
  · obtain ⟨L, S, c0, s0⟩ := f
    rcases S with _ | ⟨v1, S⟩
    · exact False.elim h
    cases v1 with
    | int x1 =>
      rcases S with _ | ⟨v2, S⟩
      · exact False.elim h
      cases v2 with
      | int x2 =>
        intro H locs cells slots ls hH hL hc hs hS
        obtain ⟨hx, hb, hml, hown, hlocks, hrt, hnm, htab, hW, hlow, hfr, hlo, hsz, hend⟩ := A
        exact lv_icmp_lt hx hb hd ht (fun g => h.1 g H locs cells slots ls hH hL hc hs hS) (fun g => h.2 g H locs cells slots ls hH hL hc hs hS)
      | _ => exact False.elim h
    | _ => exact False.elim h
theorem s_icmp_ge {mi : pMI} {pc : Nat} {off : Int} {t : Nat} (hd : decode mi.2.1 pc = .ok (.if_icmp .ge off, 3)) (ht : (pc : Int) + off = (t : Int)) : OpS mi pc (o_icmp (fun x y => y ≤ x) t (pc + 3)) := by
  refine ⟨fun C C' X X' Q Q' f M hC hC' hCC hX hQ h => ?_, fun w hw d C hC p e R s m args below meth c Z Q A f M h => ?_⟩
  · obtain ⟨L, S, c0, s0⟩ := f
    rcases S with _ | ⟨v1, S⟩
    · exact False.elim h
    cases v1 with
    | int x1 =>
      rcases S with _ | ⟨v2, S⟩
      · exact False.elim h
      cases v2 with
      | int x2 =>
        exact ⟨fun g => hX _ _ _ (h.1 g), fun g => hX _ _ _ (h.2 g)⟩
      | _ => exact False.elim h
    | _ => exact False.elim h
  · obtain ⟨L, S, c0, s0⟩ := f
    rcases S with _ | ⟨v1, S⟩
    · exact False.elim h
    cases v1 with
    | int x1 =>
      rcases S with _ | ⟨v2, S⟩
      · exact False.elim h
      cases v2 with
      | int x2 =>
        intro H locs cells slots ls hH hL hc hs hS
        obtain ⟨hx, hb, hml, hown, hlocks, hrt, hnm, htab, hW, hlow, hfr, hlo, hsz, hend⟩ := A
        exact lv_icmp_ge hx hb hd ht (fun g => h.1 g H locs cells slots ls hH hL hc hs hS) (fun g => h.2 g H locs cells slots ls hH hL hc hs hS)
      | _ => exact False.elim h
    | _ => exact False.elim h
theorem s_icmp_gt {mi : pMI} {pc : Nat} {off : Int} {t : Nat} (hd : decode mi.2.1 pc = .ok (.if_icmp .gt off, 3)) (ht : (pc : Int) + off = (t : Int)) : OpS mi pc (o_icmp (fun x y => y < x) t (pc + 3)) := by
  refine ⟨fun C C' X X' Q Q' f M hC hC' hCC hX hQ h => ?_, fun w hw d C hC p e R s m args below meth c Z Q A f M h => ?_⟩
  · obtain ⟨L, S, c0, s0⟩ := f
    rcases S with _ | ⟨v1, S⟩
    · exact False.elim h
    cases v1 with
    | int x1 =>
      rcases S with _ | ⟨v2, S⟩
      · exact False.elim h
      cases v2 with
      | int x2 =>
        exact ⟨fun g => hX _ _ _ (h.1 g), fun g => hX _ _ _ (h.2 g)⟩
      | _ => exact False.elim h
    | _ => exact False.elim h
  · obtain ⟨L, S, c0, s0⟩ := f
    rcases S with _ | ⟨v1, S⟩
    · exact False.elim h
    cases v1 with
    | int x1 =>
      rcases S with _ | ⟨v2, S⟩
      · exact False.elim h
      cases v2 with
      | int x2 =>
        intro H locs cells slots ls hH hL hc hs hS
        obtain ⟨hx, hb, hml, hown, hlocks, hrt, hnm, htab, hW, hlow, hfr, hlo, hsz, hend⟩ := A
        exact lv_icmp_gt hx hb hd ht (fun g => h.1 g H locs cells slots ls hH hL hc hs hS) (fun g => h.2 g H locs cells slots ls hH hL hc hs hS)
      | _ => exact False.elim h
    | _ => exact False.elim h
theorem s_icmp_le {mi : pMI} {pc : Nat} {off : Int} {t : Nat} (hd : decode mi.2.1 pc = .ok (.if_icmp .le off, 3)) (ht : (pc : Int) + off = (t : Int)) : OpS mi pc (o_icmp (fun x y => x ≤ y) t (pc + 3)) := by
  refine ⟨fun C C' X X' Q Q' f M hC hC' hCC hX hQ h => ?_, fun w hw d C hC p e R s m args below meth c Z Q A f M h => ?_⟩
  · obtain ⟨L, S, c0, s0⟩ := f
    rcases S with _ | ⟨v1, S⟩
    · exact False.elim h
    cases v1 with
    | int x1 =>
      rcases S with _ | ⟨v2, S⟩
      · exact False.elim h
      cases v2 with
      | int x2 =>
        exact ⟨fun g => hX _ _ _ (h.1 g), fun g => hX _ _ _ (h.2 g)⟩
      | _ => exact False.elim h
    | _ => exact False.elim h
  · obtain ⟨L, S, c0, s0⟩ := f
    rcases S with _ | ⟨v1, S⟩
    · exact False.elim h
    cases v1 with
    | int x1 =>
      rcases S with _ | ⟨v2, S⟩
      · exact False.elim h
      cases v2 with
      | int x2 =>
        intro H locs cells slots ls hH hL hc hs hS
        obtain ⟨hx, hb, hml, hown, hlocks, hrt, hnm, htab, hW, hlow, hfr, hlo, hsz, hend⟩ := A
        exact lv_icmp_le hx hb hd ht (fun g => h.1 g H locs cells slots ls hH hL hc hs hS) (fun g => h.2 g H locs cells slots ls hH hL hc hs hS)
      | _ => exact False.elim h
    | _ => exact False.elim h
theorem s_if_ne {mi : pMI} {pc : Nat} {off : Int} {t : Nat} (hd : decode mi.2.1 pc = .ok (.ifCond .ne off, 3)) (ht : (pc : Int) + off = (t : Int)) : OpS mi pc (o_if (fun x => x = 0) (pc + 3) t) := by
  refine ⟨fun C C' X X' Q Q' f M hC hC' hCC hX hQ h => ?_, fun w hw d C hC p e R s m args below meth c Z Q A f M h => ?_⟩
  · obtain ⟨L, S, c0, s0⟩ := f
    rcases S with _ | ⟨v1, S⟩
    · exact False.elim h
    cases v1 with
    | int x1 =>
      exact ⟨fun g => hX _ _ _ (h.1 g), fun g => hX _ _ _ (h.2 g)⟩
    | _ => exact False.elim h
  · obtain ⟨L, S, c0, s0⟩ := f
    rcases S with _ | ⟨v1, S⟩
    · exact False.elim h
    cases v1 with
    | int x1 =>
      intro H locs cells slots ls hH hL hc hs hS
      obtain ⟨hx, hb, hml, hown, hlocks, hrt, hnm, htab, hW, hlow, hfr, hlo, hsz, hend⟩ := A
      exact lv_if_ne hx hb hd ht (fun g => h.2 g H locs cells slots ls hH hL hc hs hS) (fun g => h.1 g H locs cells slots ls hH hL hc hs hS)
    | _ => exact False.elim h
theorem s_icmp_ne {mi : pMI} {pc : Nat} {off : Int} {t : Nat} (hd : decode mi.2.1 pc = .ok (.if_icmp .ne off, 3)) (ht : (pc : Int) + off = (t : Int)) : OpS mi pc (o_icmp (fun x y => x = y) (pc + 3) t) := by
  refine ⟨fun C C' X X' Q Q' f M hC hC' hCC hX hQ h => ?_, fun w hw d C hC p e R s m args below meth c Z Q A f M h => ?_⟩
  · obtain ⟨L, S, c0, s0⟩ := f
    rcases S with _ | ⟨v1, S⟩
    · exact False.elim h
    cases v1 with
    | int x1 =>
      rcases S with _ | ⟨v2, S⟩
      · exact False.elim h
      cases v2 with
      | int x2 =>
        exact ⟨fun g => hX _ _ _ (h.1 g), fun g => hX _ _ _ (h.2 g)⟩
      | _ => exact False.elim h
    | _ => exact False.elim h
  · obtain ⟨L, S, c0, s0⟩ := f
    rcases S with _ | ⟨v1, S⟩
    · exact False.elim h
    cases v1 with
    | int x1 =>
      rcases S with _ | ⟨v2, S⟩
      · exact False.elim h
      cases v2 with
      | int x2 =>
        intro H locs cells slots ls hH hL hc hs hS
        obtain ⟨hx, hb, hml, hown, hlocks, hrt, hnm, htab, hW, hlow, hfr, hlo, hsz, hend⟩ := A
        exact lv_icmp_ne hx hb hd ht (fun g => h.2 g H locs cells slots ls hH hL hc hs hS) (fun g => h.1 g H locs cells slots ls hH hL hc hs hS)
      | _ => exact False.elim h
    | _ => exact False.elim h
theorem s_iload {mi : pMI} {pc : Nat} {k : Nat} (hd : decode mi.2.1 pc = .ok (.iload k, 2)) : OpS mi pc (o_iload k (pc + 2)) := by
  refine ⟨fun C C' X X' Q Q' f M hC hC' hCC hX hQ h => ?_, fun w hw d C hC p e R s m args below meth c Z Q A f M h => ?_⟩
  · unfold o_iload at h ⊢; split at h
    · rename_i x hp; exact hX _ _ _ h
    · exact h.elim
  · unfold o_iload at h; split at h
    · rename_i x hp
      intro H locs cells slots ls hH hL hc hs hS
      obtain ⟨hx, hb, hml, hown, hlocks, hrt, hnm, htab, hW, hlow, hfr, hlo, hsz, hend⟩ := A
      refine lv_iload hx hb hd (hL.2.2 _ _ hp) ?_
      exact h H locs cells slots ls hH hL hc hs hS
    · exact h.elim
theorem s_iload_n {mi : pMI} {pc : Nat} {k : Fin 4} {i : Nat} (hd : decode mi.2.1 pc = .ok (.iload_n k, 1)) (hi : (k : Nat) = i) : OpS mi pc (o_iload i (pc + 1)) := by
  refine ⟨fun C C' X X' Q Q' f M hC hC' hCC hX hQ h => ?_, fun w hw d C hC p e R s m args below meth c Z Q A f M h => ?_⟩
  · unfold o_iload at h ⊢; split at h
    · rename_i x hp; exact hX _ _ _ h
    · exact h.elim
  · unfold o_iload at h; split at h
    · rename_i x hp
      intro H locs cells slots ls hH hL hc hs hS
      obtain ⟨hx, hb, hml, hown, hlocks, hrt, hnm, htab, hW, hlow, hfr, hlo, hsz, hend⟩ := A
      refine lv_iload_n hx hb hd hi (hL.2.2 _ _ hp) ?_
      exact h H locs cells slots ls hH hL hc hs hS
    · exact h.elim
theorem s_lload {mi : pMI} {pc : Nat} {k : Nat} (hd : decode mi.2.1 pc = .ok (.lload k, 2)) : OpS mi pc (o_lload k (pc + 2)) := by
  refine ⟨fun C C' X X' Q Q' f M hC hC' hCC hX hQ h => ?_, fun w hw d C hC p e R s m args below meth c Z Q A f M h => ?_⟩
  · unfold o_lload at h ⊢; split at h
    · rename_i x hp; exact hX _ _ _ h
    · exact h.elim
  · unfold o_lload at h; split at h
    · rename_i x hp
      intro H locs cells slots ls hH hL hc hs hS
      obtain ⟨hx, hb, hml, hown, hlocks, hrt, hnm, htab, hW, hlow, hfr, hlo, hsz, hend⟩ := A
      refine lv_lload hx hb hd (hL.2.2 _ _ hp) ?_
      exact h H locs cells slots ls hH hL hc hs hS
    · exact h.elim
theorem s_lload_n {mi : pMI} {pc : Nat} {k : Fin 4} {i : Nat} (hd : decode mi.2.1 pc = .ok (.lload_n k, 1)) (hi : (k : Nat) = i) : OpS mi pc (o_lload i (pc + 1)) := by
  refine ⟨fun C C' X X' Q Q' f M hC hC' hCC hX hQ h => ?_, fun w hw d C hC p e R s m args below meth c Z Q A f M h => ?_⟩
  · unfold o_lload at h ⊢; split at h
    · rename_i x hp; exact hX _ _ _ h
    · exact h.elim
  · unfold o_lload at h; split at h
    · rename_i x hp
      intro H locs cells slots ls hH hL hc hs hS
      obtain ⟨hx, hb, hml, hown, hlocks, hrt, hnm, htab, hW, hlow, hfr, hlo, hsz, hend⟩ := A
      refine lv_lload_n hx hb hd hi (hL.2.2 _ _ hp) ?_
      exact h H locs cells slots ls hH hL hc hs hS
    · exact h.elim
theorem s_aload {mi : pMI} {pc : Nat} {k : Nat} (hd : decode mi.2.1 pc = .ok (.aload k, 2)) : OpS mi pc (o_aload k (pc + 2)) := by
  refine ⟨fun C C' X X' Q Q' f M hC hC' hCC hX hQ h => ?_, fun w hw d C hC p e R s m args below meth c Z Q A f M h => ?_⟩
  · unfold o_aload at h ⊢; split at h
    · rename_i x hp; exact hX _ _ _ h
    · exact h.elim
  · unfold o_aload at h; split at h
    · rename_i x hp
      intro H locs cells slots ls hH hL hc hs hS
      obtain ⟨hx, hb, hml, hown, hlocks, hrt, hnm, htab, hW, hlow, hfr, hlo, hsz, hend⟩ := A
      refine lv_aload hx hb hd (hL.2.2 _ _ hp) ?_
      exact h H locs cells slots ls hH hL hc hs hS
    · exact h.elim
theorem s_aload_n {mi : pMI} {pc : Nat} {k : Fin 4} {i : Nat} (hd : decode mi.2.1 pc = .ok (.aload_n k, 1)) (hi : (k : Nat) = i) : OpS mi pc (o_aload i (pc + 1)) := by
  refine ⟨fun C C' X X' Q Q' f M hC hC' hCC hX hQ h => ?_, fun w hw d C hC p e R s m args below meth c Z Q A f M h => ?_⟩
  · unfold o_aload at h ⊢; split at h
    · rename_i x hp; exact hX _ _ _ h
    · exact h.elim
  · unfold o_aload at h; split at h
    · rename_i x hp
      intro H locs cells slots ls hH hL hc hs hS
      obtain ⟨hx, hb, hml, hown, hlocks, hrt, hnm, htab, hW, hlow, hfr, hlo, hsz, hend⟩ := A
      refine lv_aload_n hx hb hd hi (hL.2.2 _ _ hp) ?_
      exact h H locs cells slots ls hH hL hc hs hS
    · exact h.elim
theorem s_dload {mi : pMI} {pc : Nat} {k : Nat} (hd : decode mi.2.1 pc = .ok (.dload k, 2)) : OpS mi pc (o_dload k (pc + 2)) := by
  refine ⟨fun C C' X X' Q Q' f M hC hC' hCC hX hQ h => ?_, fun w hw d C hC p e R s m args below meth c Z Q A f M h => ?_⟩
  · unfold o_dload at h ⊢; split at h
    · rename_i x hp; exact hX _ _ _ h
    · exact h.elim
  · unfold o_dload at h; split at h
    · rename_i x hp
      intro H locs cells slots ls hH hL hc hs hS
      obtain ⟨hx, hb, hml, hown, hlocks, hrt, hnm, htab, hW, hlow, hfr, hlo, hsz, hend⟩ := A
      refine lv_dload hx hb hd (hL.2.2 _ _ hp) ?_
      exact h H locs cells slots ls hH hL hc hs hS
    · exact h.elim
theorem s_dload_n {mi : pMI} {pc : Nat} {k : Fin 4} {i : Nat} (hd : decode mi.2.1 pc = .ok (.dload_n k, 1)) (hi : (k : Nat) = i) : OpS mi pc (o_dload i (pc + 1)) := by
  refine ⟨fun C C' X X' Q Q' f M hC hC' hCC hX hQ h => ?_, fun w hw d C hC p e R s m args below meth c Z Q A f M h => ?_⟩
  · unfold o_dload at h ⊢; split at h
    · rename_i x hp; exact hX _ _ _ h
    · exact h.elim
  · unfold o_dload at h; split at h
    · rename_i x hp
      intro H locs cells slots ls hH hL hc hs hS
      obtain ⟨hx, hb, hml, hown, hlocks, hrt, hnm, htab, hW, hlow, hfr, hlo, hsz, hend⟩ := A
      refine lv_dload_n hx hb hd hi (hL.2.2 _ _ hp) ?_
      exact h H locs cells slots ls hH hL hc hs hS
    · exact h.elim
