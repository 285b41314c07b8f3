/-! STRINGS: what the instructions do with them -/
theorem pAd_big {w : pW} {i : Nat} : pAd w (pBIG + i) = pWsp w i := by
  unfold pAd
  rw [if_neg (by omega), Nat.add_sub_cancel_left]
theorem str_at {w : pW} {s : State} (hw : pWOK w) (hW : (pW0 w).WarmedH s.vm) (hlow : ∀ q, q < pB w → s.heap[q]? = (pW0 w).heap[q]?) : vk_S 21 pSLen pSByt (pWsp w) (fun i => pWsp w (100 + i)) (pFree w) s s.heap :=
  (vk_S.moved hW.alike hw.2.2.2.2.2.2.2.1).kept (fun q _ hq => hlow q (Nat.not_le.mp hq))
theorem z_at {w : pW} {s : State} (hW : (pW0 w).WarmedH s.vm) (hlow : ∀ q, q < pB w → s.heap[q]? = (pW0 w).heap[q]?) {C n d : String} {v : Value} (h : va_Z C n d v (pFree w) (pW0 w) (pW0 w).heap) : va_Z C n d v (pFree w) s s.heap :=
  (va_Z.moved hW.alike h).kept (fun q _ hq => hlow q (Nat.not_le.mp hq))
theorem t_at {w : pW} {s : State} (hW : (pW0 w).WarmedH s.vm) (hlow : ∀ q, q < pB w → s.heap[q]? = (pW0 w).heap[q]?) {ty : FieldType} {t N : Nat} {f : Nat → Value} (h : va_T ty t N f (pFree w) (pW0 w) (pW0 w).heap) : va_T ty t N f (pFree w) s s.heap :=
  (va_T.moved hW.alike h).kept (fun q _ hq => hlow q (Nat.not_le.mp hq))
def o_sval (n : Nat) : pOp := fun _ X _ f M => match f.2.1 with
  | .ref a :: r => ∃ i, i < 21 ∧ a = pBIG + i ∧ X n (f.1, .ref (pBIG + (100 + i)) :: r, f.2.2) M
  | _ => False
def o_scod (n : Nat) : pOp := fun _ X _ f M => match f.2.1 with
  | .ref a :: r => ∃ i, i < 21 ∧ a = pBIG + i ∧ X n (f.1, .int 0 :: r, f.2.2) M
  | _ => False
def o_salen (n : Nat) : pOp := fun _ X _ f M => match f.2.1 with
  | .ref a :: r => ∃ i, i < 21 ∧ a = pBIG + (100 + i) ∧ X n (f.1, .int (Int32.ofNat (pSLen.getD i 0)) :: r, f.2.2) M
  | _ => False
def o_sbald (n : Nat) : pOp := fun _ X _ f M => match f.2.1 with
  | .int j :: .ref a :: r => ∃ i, i < 21 ∧ a = pBIG + (100 + i) ∧ vp_in j (pSLen.getD i 0) ∧ X n (f.1, .int ((pSByt.getD i []).getD j.toNatClampNeg 0) :: r, f.2.2) M
  | _ => False
def o_fmt (n : Nat) : pOp := fun _ X _ f M => X n (f.1, .null :: f.2.1, f.2.2) M ∧ X n (f.1, .ref (pBIG + 600) :: f.2.1, f.2.2) M
def o_nret (ty : FieldType) : pOp := fun _ _ Q f M => match f.2.1 with
  | [.int v] => narrow ty (.int v) = .int v ∧ Q (.inl (some (.int v))) M
  | _ => False
def o_callSt (mi : pMI) (k n : Nat) : pOp := fun C X _ f M => ∃ (res : Nat × Nat) (as r : List Value) (i : Nat), f.2.1 = as.reverse ++ .ref (pBIG + i) :: r ∧ as.length = k ∧ i < 21 ∧ psum r ≤ 8 ∧ res.1 ≤ f.2.2.1 ∧ res.2 ≤ f.2.2.2 ∧
  C mi res (.ref (pBIG + i) :: as) M (pAft X n f.1 r (f.2.2.1 - res.1) (f.2.2.2 - res.2))
theorem s_ldcS {mi : pMI} {pc idx i : Nat} {tx : String} (hx9 : pStrs[i]? = some (mi.1.cls, idx, tx)) (hd : decode mi.2.1 pc = .ok (.ldc idx, 2)) : OpS mi pc (o_const (.ref (pBIG + i)) (pc + 2)) := by
  refine ⟨fun C C' X X' Q Q' f M hC hC' hCC hX hQ h => hX _ _ _ h, fun w hw d C hC p e R s m args below meth c Z Q A f M h => ?_⟩
  intro H locs cells slots ls hH hL hc hs hS
  obtain ⟨hx, hb, hml, hown, hlocks, hrt, hnm, htab, hW, hlow, hfr, hlo, hsz, hend⟩ := A
  have k : W p (pWl w) e R s m args below meth c H locs cells slots Z (F0 m (pc + 2) ls (.ref (pAd w (pBIG + i)) :: f.2.1.map (ptr w))) := h H locs cells slots ls hH hL hc hs hS
  rw [pAd_big] at k
  exact va_ldcS hx hb hown (vk_R.warm hW (hw.2.2.2.2.2.1 i _ hx9)) hd k
theorem s_gsC {mi : pMI} {pc idx : Nat} (hl : pWd (.fieldLink mi.1.cls idx "java/lang/String" "COMPACT_STRINGS" "Z")) (hd : decode mi.2.1 pc = .ok (.getstatic idx, 3)) : OpS mi pc (o_const (.int 1) (pc + 3)) := by
  refine ⟨fun C C' X X' Q Q' f M hC hC' hCC hX hQ h => hX _ _ _ h, fun w hw d C hC p e R s m args below meth c Z Q A f M h => ?_⟩
  intro H locs cells slots ls hH hL hc hs hS
  obtain ⟨hx, hb, hml, hown, hlocks, hrt, hnm, htab, hW, hlow, hfr, hlo, hsz, hend⟩ := A
  exact va_gets hx hb (z_at hW hlow hw.2.2.2.2.2.2.2.2.1) hS hown (act_w hw hW hl) (fun _ h => h) hd (h H locs cells slots ls hH hL hc hs hS)
theorem s_gsF {mi : pMI} {pc idx : Nat} (hl : pWd (.fieldLink mi.1.cls idx "jdk/internal/util/Preconditions" "SIOOBE_FORMATTER" "Ljava/util/function/BiFunction;")) (hd : decode mi.2.1 pc = .ok (.getstatic idx, 3)) : OpS mi pc (o_fmt (pc + 3)) := by
  refine ⟨fun C C' X X' Q Q' f M hC hC' hCC hX hQ h => ⟨hX _ _ _ h.1, hX _ _ _ h.2⟩, fun w hw d C hC p e R s m args below meth c Z Q A f M h => ?_⟩
  intro H locs cells slots ls hH hL hc hs hS
  obtain ⟨hx, hb, hml, hown, hlocks, hrt, hnm, htab, hW, hlow, hfr, hlo, hsz, hend⟩ := A
  rcases hw.2.2.2.2.2.2.2.2.2.1 with hz | hz
  · exact va_gets hx hb (z_at hW hlow hz) hS hown (act_w hw hW hl) (fun _ h => h) hd (h.1 H locs cells slots ls hH hL hc hs hS)
  · have k : W p (pWl w) e R s m args below meth c H locs cells slots Z (F0 m (pc + 3) ls (.ref (pAd w (pBIG + 600)) :: f.2.1.map (ptr w))) := h.2 H locs cells slots ls hH hL hc hs hS
    rw [pAd_big] at k
    exact va_gets hx hb (z_at hW hlow hz) hS hown (act_w hw hW hl) (fun _ h => h) hd k
theorem s_sval {mi : pMI} {pc idx : Nat} (hl : pWd (.fieldLink mi.1.cls idx "java/lang/String" "value" "[B")) (hd : decode mi.2.1 pc = .ok (.getfield idx, 3)) : OpS mi pc (o_sval (pc + 3)) := by
  refine ⟨fun C C' X X' Q Q' f M hC hC' hCC hX hQ h => ?_, fun w hw d C hC p e R s m args below meth c Z Q A f M h => ?_⟩
  · obtain ⟨L, S, c0, s0⟩ := f
    rcases S with _ | ⟨v1, S⟩
    · exact False.elim h
    cases v1 with
    | ref x1 => obtain ⟨i, h1, h2, h3⟩ := h; exact ⟨i, h1, h2, hX _ _ _ h3⟩
    | _ => exact False.elim h
  · obtain ⟨L, S, c0, s0⟩ := f
    rcases S with _ | ⟨v1, S⟩
    · exact False.elim h
    cases v1 with
    | ref x1 =>
      intro H locs cells slots ls hH hL hc hs hS
      obtain ⟨hx, hb, hml, hown, hlocks, hrt, hnm, htab, hW, hlow, hfr, hlo, hsz, hend⟩ := A
      obtain ⟨i, h1, rfl, h3⟩ := h
      have k : W p (pWl w) e R s m args below meth c H locs cells slots Z (F0 m (pc + 3) ls (.ref (pAd w (pBIG + (100 + i))) :: S.map (ptr w))) := h3 H locs cells slots ls hH hL hc hs hS
      rw [pAd_big] at k
      show W p (pWl w) e R s m args below meth c H locs cells slots Z (F0 m pc ls (.ref (pAd w (pBIG + i)) :: S.map (ptr w)))
      rw [pAd_big]
      exact vk_getf hx hb ((str_at hw hW hlow).1 i h1).2.2.1 hS hown (act_w hw hW hl) (fun _ h => h) hd k
    | _ => exact False.elim h
theorem s_scod {mi : pMI} {pc idx : Nat} (hl : pWd (.fieldLink mi.1.cls idx "java/lang/String" "coder" "B")) (hd : decode mi.2.1 pc = .ok (.getfield idx, 3)) : OpS mi pc (o_scod (pc + 3)) := by
  refine ⟨fun C C' X X' Q Q' f M hC hC' hCC hX hQ h => ?_, fun w hw d C hC p e R s m args below meth c Z Q A f M h => ?_⟩
  · obtain ⟨L, S, c0, s0⟩ := f
    rcases S with _ | ⟨v1, S⟩
    · exact False.elim h
    cases v1 with
    | ref x1 => obtain ⟨i, h1, h2, h3⟩ := h; exact ⟨i, h1, h2, hX _ _ _ h3⟩
    | _ => exact False.elim h
  · obtain ⟨L, S, c0, s0⟩ := f
    rcases S with _ | ⟨v1, S⟩
    · exact False.elim h
    cases v1 with
    | ref x1 =>
      intro H locs cells slots ls hH hL hc hs hS
      obtain ⟨hx, hb, hml, hown, hlocks, hrt, hnm, htab, hW, hlow, hfr, hlo, hsz, hend⟩ := A
      obtain ⟨i, h1, rfl, h3⟩ := h
      show W p (pWl w) e R s m args below meth c H locs cells slots Z (F0 m pc ls (.ref (pAd w (pBIG + i)) :: S.map (ptr w)))
      rw [pAd_big]
      exact vk_getf hx hb ((str_at hw hW hlow).1 i h1).2.1 hS hown (act_w hw hW hl) (fun _ h => h) hd (h3 H locs cells slots ls hH hL hc hs hS)
    | _ => exact False.elim h
theorem s_salen {mi : pMI} {pc : Nat} (hd : decode mi.2.1 pc = .ok (.arraylength, 1)) : OpS mi pc (o_salen (pc + 1)) := by
  refine ⟨fun C C' X X' Q Q' f M hC hC' hCC hX hQ h => ?_, fun w hw d C hC p e R s m args below meth c Z Q A f M h => ?_⟩
  · obtain ⟨L, S, c0, s0⟩ := f
    rcases S with _ | ⟨v1, S⟩
    · exact False.elim h
    cases v1 with
    | ref x1 => obtain ⟨i, h1, h2, h3⟩ := h; exact ⟨i, h1, h2, hX _ _ _ h3⟩
    | _ => exact False.elim h
  · obtain ⟨L, S, c0, s0⟩ := f
    rcases S with _ | ⟨v1, S⟩
    · exact False.elim h
    cases v1 with
    | ref x1 =>
      intro H locs cells slots ls hH hL hc hs hS
      obtain ⟨hx, hb, hml, hown, hlocks, hrt, hnm, htab, hW, hlow, hfr, hlo, hsz, hend⟩ := A
      obtain ⟨i, h1, rfl, h3⟩ := h
      show W p (pWl w) e R s m args below meth c H locs cells slots Z (F0 m pc ls (.ref (pAd w (pBIG + (100 + i))) :: S.map (ptr w)))
      rw [pAd_big]
      exact va_tlen hx hb ((str_at hw hW hlow).1 i h1).2.2.2 hS rfl hd (h3 H locs cells slots ls hH hL hc hs hS)
    | _ => exact False.elim h
theorem s_sbald {mi : pMI} {pc : Nat} (hd : decode mi.2.1 pc = .ok (.baload, 1)) : OpS mi pc (o_sbald (pc + 1)) := by
  refine ⟨fun C C' X X' Q Q' f M hC hC' hCC hX hQ h => ?_, fun w hw d C hC p e R s m args below meth c Z Q A f M h => ?_⟩
  · obtain ⟨L, S, c0, s0⟩ := f
    rcases S with _ | ⟨v1, S⟩
    · exact False.elim h
    cases v1 with
    | int x1 =>
      rcases S with _ | ⟨v2, S⟩
      · exact False.elim h
      cases v2 with
      | ref x2 => obtain ⟨i, h1, h2, h3, h4⟩ := h; exact ⟨i, h1, h2, h3, hX _ _ _ h4⟩
      | _ => exact False.elim h
    | _ => exact False.elim h
  · obtain ⟨L, S, c0, s0⟩ := f
    rcases S with _ | ⟨v1, S⟩
    · exact False.elim h
    cases v1 with
    | int x1 =>
      rcases S with _ | ⟨v2, S⟩
      · exact False.elim h
      cases v2 with
      | ref x2 =>
        intro H locs cells slots ls hH hL hc hs hS
        obtain ⟨hx, hb, hml, hown, hlocks, hrt, hnm, htab, hW, hlow, hfr, hlo, hsz, hend⟩ := A
        obtain ⟨i, h1, rfl, h3, h4⟩ := h
        show W p (pWl w) e R s m args below meth c H locs cells slots Z (F0 m pc ls (.int x1 :: .ref (pAd w (pBIG + (100 + i))) :: S.map (ptr w)))
        rw [pAd_big]
        exact va_tb hx hb ((str_at hw hW hlow).1 i h1).2.2.2 hS h3 rfl hd (h4 H locs cells slots ls hH hL hc hs hS)
      | _ => exact False.elim h
    | _ => exact False.elim h
theorem s_nret {mi : pMI} {pc : Nat} {ty : FieldType} (hty : ty = .char ∨ ty = .byte) (hrt0 : mi.2.2.2.1 = some ty) (hd : decode mi.2.1 pc = .ok (.ireturn, 1)) : OpS mi pc (o_nret ty) := by
  refine ⟨fun C C' X X' Q Q' f M hC hC' hCC hX hQ h => ?_, fun w hw d C hC p e R s m args below meth c Z Q A f M h => ?_⟩
  · obtain ⟨L, S, c0, s0⟩ := f
    rcases S with _ | ⟨v1, S⟩
    · exact False.elim h
    rcases S with _ | ⟨v2, S⟩
    · cases v1 with
      | int x1 =>
        exact ⟨h.1, hQ _ _ h.2⟩
      | _ => exact False.elim h
    · cases v1 <;> exact False.elim h
  · obtain ⟨L, S, c0, s0⟩ := f
    rcases S with _ | ⟨v1, S⟩
    · exact False.elim h
    rcases S with _ | ⟨v2, S⟩
    · cases v1 with
      | int x1 =>
        intro H locs cells slots ls hH hL hc hs hS
        obtain ⟨hx, hb, hml, hown, hlocks, hrt, hnm, htab, hW, hlow, hfr, hlo, hsz, hend⟩ := A
        dsimp only at hc hs
        rcases hend with rfl | ⟨-, hend⟩
        · refine vx_ret (W.widen (show cells ≤ R.cells by omega) (show slots ≤ R.slots by omega) ?_)
          exact W.zret hx hb (hrt.trans hrt0) h.1 (fun t ht hWt => ⟨(some (.int x1)), M, rfl, h.2, by rw [ht]; exact hH, by rw [ht]; exact hS.1, fun q hq => by rw [ht]; exact hS.2.1 q (Nat.lt_of_lt_of_le hq hsz) (Nat.not_le.mpr hq)⟩) hS.2.2 hd hlocks
        · refine hend (some (.int x1)) M H locs cells slots ls pc h.2 hH hS (by omega) (by omega) (by rw [hb]; exact hd) ?_
          rw [hrt0]
          rcases hty with rfl | rfl <;> exact h.1
      | _ => exact False.elim h
    · cases v1 <;> exact False.elim h
theorem s_i2b {mi : pMI} {pc : Nat} (hd : decode mi.2.1 pc = .ok (.i2b, 1)) : OpS mi pc (o_iun (fun x => x.toInt8.toInt32) (pc + 1)) := by
  refine ⟨fun C C' X X' Q Q' f M hC hC' hCC hX hQ h => ?_, fun w hw d C hC p e R s m args below meth c Z Q A f M h => ?_⟩
  · obtain ⟨L, S, c0, s0⟩ := f
    rcases S with _ | ⟨v1, S⟩
    · exact False.elim h
    cases v1 with
    | int x1 =>
      exact hX _ _ _ h
    | _ => exact False.elim h
  · obtain ⟨L, S, c0, s0⟩ := f
    rcases S with _ | ⟨v1, S⟩
    · exact False.elim h
    cases v1 with
    | int x1 =>
      intro H locs cells slots ls hH hL hc hs hS
      obtain ⟨hx, hb, hml, hown, hlocks, hrt, hnm, htab, hW, hlow, hfr, hlo, hsz, hend⟩ := A
      refine lv_i2b hx hb hd rfl ?_
      exact h H locs cells slots ls hH hL hc hs hS
    | _ => exact False.elim h
theorem s_callSt {mi y : pMI} {pc idx k : Nat} (hce : pCallee y k) (hyc : y.1.cls = "java/lang/String") (hl : pWd (.methodLink mi.1.cls idx y.1)) (hin : pWd (.instanceMethod y.1)) (hsel : (Cond.selects y.1.cls y.1 y.1) ∈ pTs) (hd : decode mi.2.1 pc = .ok (.invokevirtual idx, 3)) : OpS mi pc (o_callSt y k (pc + 3)) := by
  refine ⟨fun C C' X X' Q Q' f M hC hC' hCC hX hQ h => ?_, fun w hw d C hC p e R s m args below meth c Z Q A f M h => ?_⟩
  · obtain ⟨res, as, r, a, h1, h2, h3, h4, h5, h6, h7⟩ := h
    exact ⟨res, as, r, a, h1, h2, h3, h4, h5, h6, hCC _ _ _ _ _ (hC _ _ _ _ _ _ (aft_mono hX) h7)⟩
  · obtain ⟨res, as, r, a, h1, h2, h3, h4, h5, h6, h7⟩ := h
    intro H locs cells slots ls hH hL hc hs hS
    obtain ⟨hx, hb, hml, hown, hlocks, hrt, hnm, htab, hW, hlow, hfr, hlo, hsz, hend⟩ := A
    obtain ⟨hok, d', hd', hM⟩ := sc_met hC aft_nx h7
    obtain ⟨b1, b2, b3, b4, b5⟩ := call_base (args := args) (res := res) hw hW hok hd' hfr hlo hce
    have hPre : PreV s H y.1.cls (pAd w (pBIG + a)) (pPc w (.ref (pBIG + a) :: as) M) (as.map (ptr w)) := by
      refine ⟨pPc_blind, ?_, pPc_of hH hW hlow hsz hS⟩
      rw [pAd_big, hyc]
      exact vk_recv (str_at hw hW hlow) h3 hS
    have hst : (f.2.1.map (ptr w)) = (as.map (ptr w)).reverse ++ .ref (pAd w (pBIG + a)) :: r.map (ptr w) := by rw [h1, List.map_append, List.map_reverse]; rfl
    have hrm : 2 * (F0 m pc ls (f.2.1.map (ptr w))).monitorRoom + ((r.map (ptr w)).map fun v => v.category).sum ≤ 8 := lv_room (by rw [ptr_sum]; exact h4)
    have hf : cells + res.1 ≤ R.cells ∧ slots + res.2 ≤ R.slots := ⟨by omega, by omega⟩
    have hfix : CallFix p m c mi.2.1 mi.2.2.1 s args pTs mi.1.cls := ⟨hx, hb, hml, hown, act_ts hw hW⟩
    have fin : ∀ (r1 : Option Value) (M1 : pM) (H1 : Heap) (locs1 : List Loc), pAft (pWG w mi p e R s m args below meth c Z) (pc + 3) f.1 r (f.2.2.1 - res.1) (f.2.2.2 - res.2) (.inl r1) M1 → pRel w M1 H1 → va_S (pFree w) s.heap H1 locs1 → W p (pWl w) e R s m args below meth c H1 locs1 (cells + res.1) (slots + res.2) Z (F0 m (pc + 3) ls ((r1.map (ptr w)).toList ++ r.map (ptr w))) := by
      intro r1 M1 H1 locs1 hq hR hS1
      have := hq H1 locs1 (cells + res.1) (slots + res.2) ls hR hL (by dsimp only; omega) (by dsimp only; omega) hS1
      cases r1 <;> exact this
    exact p_run (va_runV hfix hM ⟨⟨b1.1, b1.2.1, b1.2.2.1, b1.2.2.2.1, b1.2.2.2.2.1, b1.2.2.2.2.2, b2, b3, b4, b5, act_w hw hW hl⟩, act_w hw hW hin, act_w hw hW (pTs_of hsel)⟩ hPre rfl (by rw [List.length_map]; exact h2) hL.1 hst hrm hd hf) (by rw [hH.1]; omega) hsz hS fin
theorem st_sval {d : Nat} {mi : pMI} {Q : pR → pM → Prop} {pc : Nat} {L : List (Option Value)} {S : List Value} {c s : Nat} {M : pM} {n : Nat} {i : Nat} (hs : OpS mi pc (o_sval n)) (hi : i < 21) (h : Go d mi Q n (L, .ref (pBIG + (100 + i)) :: S, c, s) M) : Go d mi Q pc (L, .ref (pBIG + i) :: S, c, s) M := st hs ⟨i, hi, rfl, h⟩
theorem st_scod {d : Nat} {mi : pMI} {Q : pR → pM → Prop} {pc : Nat} {L : List (Option Value)} {S : List Value} {c s : Nat} {M : pM} {n : Nat} {i : Nat} (hs : OpS mi pc (o_scod n)) (hi : i < 21) (h : Go d mi Q n (L, .int 0 :: S, c, s) M) : Go d mi Q pc (L, .ref (pBIG + i) :: S, c, s) M := st hs ⟨i, hi, rfl, h⟩
theorem st_salen {d : Nat} {mi : pMI} {Q : pR → pM → Prop} {pc : Nat} {L : List (Option Value)} {S : List Value} {c s : Nat} {M : pM} {n : Nat} {i : Nat} (hs : OpS mi pc (o_salen n)) (hi : i < 21) (h : Go d mi Q n (L, .int (nI (pSLen.getD i 0)) :: S, c, s) M) : Go d mi Q pc (L, .ref (pBIG + (100 + i)) :: S, c, s) M := st hs ⟨i, hi, rfl, h⟩
theorem st_sbald {d : Nat} {mi : pMI} {Q : pR → pM → Prop} {pc : Nat} {L : List (Option Value)} {S : List Value} {c s : Nat} {M : pM} {n : Nat} {i : Nat} {j : Int32} (hs : OpS mi pc (o_sbald n)) (hi : i < 21) (hj : vp_in j (pSLen.getD i 0)) (h : Go d mi Q n (L, .int ((pSByt.getD i []).getD j.toNatClampNeg 0) :: S, c, s) M) : Go d mi Q pc (L, .int j :: .ref (pBIG + (100 + i)) :: S, c, s) M := st hs ⟨i, hi, rfl, hj, h⟩
theorem st_fmt {d : Nat} {mi : pMI} {Q : pR → pM → Prop} {pc : Nat} {L : List (Option Value)} {S : List Value} {c s : Nat} {M : pM} {n : Nat} (hs : OpS mi pc (o_fmt n)) (h : ∀ v, v = .null ∨ v = .ref (pBIG + 600) → Go d mi Q n (L, v :: S, c, s) M) : Go d mi Q pc (L, S, c, s) M := st hs ⟨h _ (Or.inl rfl), h _ (Or.inr rfl)⟩
theorem st_nret {d : Nat} {mi : pMI} {Q : pR → pM → Prop} {pc : Nat} {L : List (Option Value)} {c s : Nat} {M : pM} {v : Int32} {ty : FieldType} (hs : OpS mi pc (o_nret ty)) (hn : narrow ty (.int v) = .int v) (h : Q (.inl (some (.int v))) M) : Go d mi Q pc (L, [.int v], c, s) M := st hs ⟨hn, h⟩
theorem st_callSt_i {d : Nat} {mi y : pMI} {Q : pR → pM → Prop} {pc : Nat} {L : List (Option Value)} {S R : List Value} {c s : Nat} {M : pM} {k n i : Nat} (as : List Value) (hs : OpS mi pc (o_callSt y k n)) (hS : S = as.reverse ++ .ref (pBIG + i) :: R) (hl : as.length = k) (hi : i < 21) (hr : psum R ≤ 8) (h : pCall_i d y (0, 0) (.ref (pBIG + i) :: as) M (fun v M1 => Go d mi Q n (L, .int v :: R, c, s) M1)) : Go d mi Q pc (L, S, c, s) M := by
  refine st hs ⟨(0, 0), as, R, i, hS, hl, hi, hr, Nat.zero_le _, Nat.zero_le _, CP_q h (fun r M1 q => ?_)⟩
  obtain ⟨v, rfl, q⟩ := q
  exact q
