/-! TWO OPERATIONS MORE -/
theorem s_ishl {mi : pMI} {pc : Nat} (hd : decode mi.2.1 pc = .ok (.ishl, 1)) : OpS mi pc (o_ibin (fun x y => x <<< (y &&& 31)) (pc + 1)) := by
  refine ⟨fun C C' X X' Q Q' f M hC hC' hCC hX hQ h => ?_, fun w hw d C hC p e R s m args below meth c Z Q A f M h => ?_⟩
  · obtain ⟨L, S, c0, s0⟩ := f
    rcases S with _ | ⟨v1, S⟩
    · exact False.elim h
    cases v1 with
    | int x1 =>
      rcases S with _ | ⟨v2, S⟩
      · exact False.elim h
      cases v2 with
      | int x2 =>
        exact hX _ _ _ h
      | _ => exact False.elim h
    | _ => exact False.elim h
  · obtain ⟨L, S, c0, s0⟩ := f
    rcases S with _ | ⟨v1, S⟩
    · exact False.elim h
    cases v1 with
    | int x1 =>
      rcases S with _ | ⟨v2, S⟩
      · exact False.elim h
      cases v2 with
      | int x2 =>
        intro H locs cells slots ls hH hL hc hs hS
        obtain ⟨hx, hb, hml, hown, hlocks, hrt, hnm, htab, hW, hlow, hfr, hlo, hsz, hend⟩ := A
        refine lv_ishl hx hb hd ?_
        exact h H locs cells slots ls hH hL hc hs hS
      | _ => exact False.elim h
    | _ => exact False.elim h
def o_ifnn (t : Nat) : pOp := fun _ X _ f M => match f.2.1 with
  | .ref _ :: r => X t (f.1, r, f.2.2) M
  | _ => False
theorem s_ifnn {mi : pMI} {pc : Nat} {off : Int} {t : Nat} (hd : decode mi.2.1 pc = .ok (.ifnonnull off, 3)) (ht : (pc : Int) + off = (t : Int)) : OpS mi pc (o_ifnn t) := by
  refine ⟨fun C C' X X' Q Q' f M hC hC' hCC hX hQ h => ?_, fun w hw d C hC p e R s m args below meth c Z Q A f M h => ?_⟩
  · obtain ⟨L, S, c0, s0⟩ := f
    rcases S with _ | ⟨v1, S⟩
    · exact False.elim h
    cases v1 with
    | ref x1 => exact hX _ _ _ h
    | _ => exact False.elim h
  · obtain ⟨L, S, c0, s0⟩ := f
    rcases S with _ | ⟨v1, S⟩
    · exact False.elim h
    cases v1 with
    | ref x1 =>
      intro H locs cells slots ls hH hL hc hs hS
      obtain ⟨hx, hb, hml, hown, hlocks, hrt, hnm, htab, hW, hlow, hfr, hlo, hsz, hend⟩ := A
      show W p (pWl w) e R s m args below meth c H locs cells slots Z (F0 m pc ls (.ref (pAd w x1) :: S.map (ptr w)))
      exact lv_ifnonnull hx hb hd ht (h H locs cells slots ls hH hL hc hs hS)
    | _ => exact False.elim h
theorem st_ifnn {d : Nat} {mi : pMI} {Q : pR → pM → Prop} {pc : Nat} {L : List (Option Value)} {S : List Value} {c s : Nat} {M : pM} {t a : Nat} (hs : OpS mi pc (o_ifnn t)) (h : Go d mi Q t (L, S, c, s) M) : Go d mi Q pc (L, .ref a :: S, c, s) M := st hs h
