/-! switches, constants, the script -/
def pswT (pc : Nat) : List (Int32 × Nat) → Int → List Int → Bool
  | [], _, [] => true
  | (k, t) :: r, lo, off :: os => k.toInt == lo && ((pc : Int) + off == (t : Int)) && pswT pc r (lo + 1) os
  | _, _, _ => false
theorem pswT_len {pc : Nat} : ∀ {cs : List (Int32 × Nat)} {lo : Int} {os : List Int}, pswT pc cs lo os = true → cs.length = os.length := by
  intro cs
  induction cs with
  | nil => intro lo os h; cases os with
    | nil => rfl
    | cons a l => simp [pswT] at h
  | cons a l ih => intro lo os h; cases os with
    | nil => simp [pswT] at h
    | cons b m =>
      simp only [pswT, Bool.and_eq_true] at h
      simp [ih h.2]
theorem pswT_out {pc d : Nat} {x : Int32} : ∀ {cs : List (Int32 × Nat)} {lo : Int} {os : List Int}, pswT pc cs lo os = true → (x.toInt < lo ∨ lo + cs.length ≤ x.toInt) → psw cs d x = d := by
  intro cs
  induction cs with
  | nil => intro lo os _ _; rfl
  | cons a l ih =>
    intro lo os h hx
    cases os with
    | nil => simp [pswT] at h
    | cons b m =>
      simp only [pswT, Bool.and_eq_true, beq_iff_eq] at h
      rw [psw, if_neg]
      · refine ih h.2 ?_
        rw [List.length_cons] at hx
        omega
      · intro e
        rw [e] at hx
        rw [List.length_cons] at hx
        omega
theorem pswT_in {pc d : Nat} {x : Int32} : ∀ {cs : List (Int32 × Nat)} {lo : Int} {os : List Int}, pswT pc cs lo os = true → lo ≤ x.toInt → x.toInt < lo + cs.length → ∃ off, os[(x.toInt - lo).toNat]? = some off ∧ (pc : Int) + off = (psw cs d x : Int) := by
  intro cs
  induction cs with
  | nil => intro lo os _ h1 h2; simp at h2; omega
  | cons a l ih =>
    intro lo os h h1 h2
    cases os with
    | nil => simp [pswT] at h
    | cons b m =>
      simp only [pswT, Bool.and_eq_true, beq_iff_eq] at h
      by_cases e : x = a.1
      · have e2 : x.toInt = lo := by rw [e]; exact h.1.1
        rw [psw, if_pos e, e2]
        exact ⟨b, by simp, h.1.2⟩
      · have hne : x.toInt ≠ lo := fun q => e (Int32.toInt_inj.mp (q.trans h.1.1.symm))
        rw [psw, if_neg e]
        rw [List.length_cons] at h2
        obtain ⟨off, h3, h4⟩ := ih h.2 (by omega) (by omega)
        refine ⟨off, ?_, h4⟩
        rw [show (x.toInt - lo).toNat = (x.toInt - (lo + 1)).toNat + 1 by omega]
        exact h3
theorem s_tsw {mi : pMI} {pc len d : Nat} {dflt lo hi : Int} {offs : Array Int} {cs : List (Int32 × Nat)} (hd : decode mi.2.1 pc = .ok (.tableswitch dflt lo hi offs, len)) (ho : pswT pc cs lo offs.toList = true) (hhi : hi + 1 = lo + (cs.length : Int)) (hdf : (pc : Int) + dflt = (d : Int)) : OpS mi pc (o_sw cs d) := by
  refine ⟨fun C C' X X' Q Q' f M hC hC' hCC hX hQ h => ?_, fun w hw dd C hC p e R s m args below meth c Z Q A f M h => ?_⟩
  · obtain ⟨L, S, c0, s0⟩ := f
    rcases S with _ | ⟨v1, S⟩
    · exact False.elim h
    cases v1 with
    | int x1 => exact hX _ _ _ h
    | _ => exact False.elim h
  · obtain ⟨L, S, c0, s0⟩ := f
    rcases S with _ | ⟨v1, S⟩
    · exact False.elim h
    cases v1 with
    | int x1 =>
      intro H locs cells slots ls hH hL hc hs hS
      obtain ⟨hx, hb, hml, hown, hlocks, hrt, hnm, htab, hW, hlow, hfr, hlo, hsz, hend⟩ := A
      by_cases q : x1.toInt < lo ∨ hi < x1.toInt
      · refine lv_tableOut hx hb hd q hdf ?_
        have e1 : psw cs d x1 = d := pswT_out ho (by omega)
        have h' : pWG w mi p e R s m args below meth c Z (psw cs d x1) (L, S, c0, s0) M := h
        rw [e1] at h'
        exact h' H locs cells slots ls hH hL hc hs hS
      · obtain ⟨off, h3, h4⟩ := pswT_in (d := d) ho (x := x1) (by omega) (by omega)
        refine lv_tableIn hx hb hd (by omega) (by omega) (off := off) (by rw [← Array.getElem?_toList]; exact h3) h4 ?_
        exact h H locs cells slots ls hH hL hc hs hS
    | _ => exact False.elim h
def pswL (pc : Nat) : List (Int32 × Nat) → List (Int × Int) → Bool
  | [], [] => true
  | (k, t) :: r, (a, off) :: os => k.toInt == a && ((pc : Int) + off == (t : Int)) && pswL pc r os
  | _, _ => false
theorem pswL_ok {pc d : Nat} {dflt : Int} {x : Int32} (hdf : (pc : Int) + dflt = (d : Int)) : ∀ {cs : List (Int32 × Nat)} {os : List (Int × Int)}, pswL pc cs os = true → (pc : Int) + Op.lookupswitch.offset os dflt x.toInt = (psw cs d x : Int) := by
  intro cs
  induction cs with
  | nil => intro os h; cases os with
    | nil => exact hdf
    | cons a l => simp [pswL] at h
  | cons a l ih => intro os h; cases os with
    | nil => simp [pswL] at h
    | cons b m =>
      simp only [pswL, Bool.and_eq_true, beq_iff_eq] at h
      obtain ⟨b1, b2⟩ := b
      rw [Op.lookupswitch.offset_cons, psw]
      by_cases e : x = a.1
      · rw [if_pos (by rw [e]; exact h.1.1.symm), if_pos e]
        exact h.1.2
      · rw [if_neg (fun q => e (Int32.toInt_inj.mp (q.symm.trans h.1.1.symm))), if_neg e]
        exact ih h.2
theorem s_lsw {mi : pMI} {pc len d : Nat} {dflt : Int} {ps : Array (Int × Int)} {cs : List (Int32 × Nat)} (hd : decode mi.2.1 pc = .ok (.lookupswitch dflt ps, len)) (hp : (ps.toList.zip (ps.toList.drop 1)).all (fun (a, next) => a.1 < next.1) = true) (ho : pswL pc cs ps.toList = true) (hdf : (pc : Int) + dflt = (d : Int)) : OpS mi pc (o_sw cs d) := by
  refine ⟨fun C C' X X' Q Q' f M hC hC' hCC hX hQ h => ?_, fun w hw dd C hC p e R s m args below meth c Z Q A f M h => ?_⟩
  · obtain ⟨L, S, c0, s0⟩ := f
    rcases S with _ | ⟨v1, S⟩
    · exact False.elim h
    cases v1 with
    | int x1 => exact hX _ _ _ h
    | _ => exact False.elim h
  · obtain ⟨L, S, c0, s0⟩ := f
    rcases S with _ | ⟨v1, S⟩
    · exact False.elim h
    cases v1 with
    | int x1 =>
      intro H locs cells slots ls hH hL hc hs hS
      obtain ⟨hx, hb, hml, hown, hlocks, hrt, hnm, htab, hW, hlow, hfr, hlo, hsz, hend⟩ := A
      refine lv_lookup hx hb hd hp rfl (pswL_ok hdf ho) ?_
      exact h H locs cells slots ls hH hL hc hs hS
    | _ => exact False.elim h
theorem s_ldc {mi : pMI} {pc idx : Nat} {v : Int32} (hl : pWd (.constant mi.1.cls idx v)) (hd : decode mi.2.1 pc = .ok (.ldc idx, 2)) : OpS mi pc (o_const (.int v) (pc + 2)) := by
  refine ⟨fun C C' X X' Q Q' f M hC hC' hCC hX hQ h => hX _ _ _ h, fun w hw d C hC p e R s m args below meth c Z Q A f M h => ?_⟩
  intro H locs cells slots ls hH hL hc hs hS
  obtain ⟨hx, hb, hml, hown, hlocks, hrt, hnm, htab, hW, hlow, hfr, hlo, hsz, hend⟩ := A
  exact lv_ldc hx hb hown (act_w hw hW hl) hd (h H locs cells slots ls hH hL hc hs hS)
theorem s_ldc2 {mi : pMI} {pc idx : Nat} {v : Int64} (hl : pWd (.constantLong mi.1.cls idx v)) (hd : decode mi.2.1 pc = .ok (.ldc2_w idx, 3)) : OpS mi pc (o_const (.long v) (pc + 3)) := by
  refine ⟨fun C C' X X' Q Q' f M hC hC' hCC hX hQ h => hX _ _ _ h, fun w hw d C hC p e R s m args below meth c Z Q A f M h => ?_⟩
  intro H locs cells slots ls hH hL hc hs hS
  obtain ⟨hx, hb, hml, hown, hlocks, hrt, hnm, htab, hW, hlow, hfr, hlo, hsz, hend⟩ := A
  exact lv_ldc2 hx hb hown (act_w hw hW hl) hd (h H locs cells slots ls hH hL hc hs hS)
def o_sald (n : Nat) : pOp := fun _ X _ f M => match f.2.1 with
  | .int i :: .ref a :: r => ∃ len, pK M a = (5, len) ∧ vp_in i len ∧ X n (f.1, .int (pI M a i.toNatClampNeg) :: r, f.2.2) M
  | _ => False
def o_slen (n : Nat) : pOp := fun _ X _ f M => match f.2.1 with
  | .ref a :: r => ∃ len, pK M a = (5, len) ∧ X n (f.1, .int (Int32.ofNat len) :: r, f.2.2) M
  | _ => False
theorem pAd_scr {w : pW} : pAd w pSCR = pWsp w 1000 := by
  unfold pAd
  rw [if_neg (by decide)]
  rfl
theorem s_sald {mi : pMI} {pc : Nat} (hd : decode mi.2.1 pc = .ok (.iaload, 1)) : OpS mi pc (o_sald (pc + 1)) := by
  refine ⟨fun C C' X X' Q Q' f M hC hC' hCC hX hQ h => ?_, fun w hw d C hC p e R s m args below meth c Z Q A f M h => ?_⟩
  · obtain ⟨L, S, c0, s0⟩ := f
    rcases S with _ | ⟨v1, S⟩
    · exact False.elim h
    cases v1 with
    | int x1 =>
      rcases S with _ | ⟨v2, S⟩
      · exact False.elim h
      cases v2 with
      | ref x2 => obtain ⟨len, h1, h2, h3⟩ := h; exact ⟨len, h1, h2, hX _ _ _ h3⟩
      | _ => exact False.elim h
    | _ => exact False.elim h
  · obtain ⟨L, S, c0, s0⟩ := f
    rcases S with _ | ⟨v1, S⟩
    · exact False.elim h
    cases v1 with
    | int x1 =>
      rcases S with _ | ⟨v2, S⟩
      · exact False.elim h
      cases v2 with
      | ref x2 =>
        intro H locs cells slots ls hH hL hc hs hS
        obtain ⟨hx, hb, hml, hown, hlocks, hrt, hnm, htab, hW, hlow, hfr, hlo, hsz, hend⟩ := A
        obtain ⟨len, h1, h2, h3⟩ := h
        obtain ⟨e, q1, scr, q2, q3, q4, q5, q6⟩ := hH.2.2.2.2.2.2.2 x2 len h1
        subst e
        have hlt : x1.toNatClampNeg < len := Nat.not_le.mp fun q => h2 (Or.inr q)
        show W p (pWl w) e R s m args below meth c H locs cells slots Z (F0 m pc ls (.int x1 :: .ref (pAd w pSCR) :: S.map (ptr w)))
        rw [pAd_scr]
        exact W.iald (v := .int (pI M pSCR x1.toNatClampNeg)) hx hb q2 (State.isArrayOf_alike hW.alike q3) q4 (by rw [q5]; exact h2) (q6 _ hlt) rfl rfl hd (h3 H locs cells slots ls hH hL hc hs hS)
      | _ => exact False.elim h
    | _ => exact False.elim h
theorem s_slen {mi : pMI} {pc : Nat} (hd : decode mi.2.1 pc = .ok (.arraylength, 1)) : OpS mi pc (o_slen (pc + 1)) := by
  refine ⟨fun C C' X X' Q Q' f M hC hC' hCC hX hQ h => ?_, fun w hw d C hC p e R s m args below meth c Z Q A f M h => ?_⟩
  · obtain ⟨L, S, c0, s0⟩ := f
    rcases S with _ | ⟨v1, S⟩
    · exact False.elim h
    cases v1 with
    | ref x1 => obtain ⟨len, h1, h3⟩ := h; exact ⟨len, h1, hX _ _ _ h3⟩
    | _ => exact False.elim h
  · obtain ⟨L, S, c0, s0⟩ := f
    rcases S with _ | ⟨v1, S⟩
    · exact False.elim h
    cases v1 with
    | ref x1 =>
      intro H locs cells slots ls hH hL hc hs hS
      obtain ⟨hx, hb, hml, hown, hlocks, hrt, hnm, htab, hW, hlow, hfr, hlo, hsz, hend⟩ := A
      obtain ⟨len, h1, h3⟩ := h
      obtain ⟨e, q1, scr, q2, q3, q4, q5, q6⟩ := hH.2.2.2.2.2.2.2 x1 len h1
      subst e
      show W p (pWl w) e R s m args below meth c H locs cells slots Z (F0 m pc ls (.ref (pAd w pSCR) :: S.map (ptr w)))
      rw [pAd_scr]
      exact W.alen (n := Int32.ofNat len) hx hb q2 (State.isArrayOf_alike hW.alike q3) (by rw [q5]) rfl rfl hd (h3 H locs cells slots ls hH hL hc hs hS)
    | _ => exact False.elim h
def o_lmax (n : Nat) : pOp := fun _ X _ f M => match f.2.1 with
  | .long y :: .long x :: r => psum r ≤ 8 ∧ X n (f.1, .long (if y < x then x else y) :: r, f.2.2) M
  | _ => False
theorem s_lmax {mi : pMI} {pc idx : Nat} (hl : pWd (.methodLink mi.1.cls idx Lib.MathLoose.max_long.x)) (hst : pWd (.static Lib.MathLoose.max_long.x)) (hini : pWd (.initialized "java/lang/Math")) (hco : pWd (.code Lib.MathLoose.max_long.x Lib.MathLoose.max_long.code 4 (some .long))) (hd : decode mi.2.1 pc = .ok (.invokestatic idx, 3)) : OpS mi pc (o_lmax (pc + 3)) := by
  refine ⟨fun C C' X X' Q Q' f M hC hC' hCC hX hQ h => ?_, fun w hw d C hC p e R s m args below meth c Z Q A f M h => ?_⟩
  · obtain ⟨L, S, c0, s0⟩ := f
    rcases S with _ | ⟨v1, S⟩
    · exact False.elim h
    cases v1 with
    | long x1 =>
      rcases S with _ | ⟨v2, S⟩
      · exact False.elim h
      cases v2 with
      | long x2 => exact ⟨h.1, hX _ _ _ h.2⟩
      | _ => exact False.elim h
    | _ => exact False.elim h
  · obtain ⟨L, S, c0, s0⟩ := f
    rcases S with _ | ⟨v1, S⟩
    · exact False.elim h
    cases v1 with
    | long x1 =>
      rcases S with _ | ⟨v2, S⟩
      · exact False.elim h
      cases v2 with
      | long x2 =>
        intro H locs cells slots ls hH hL hc hs hS
        obtain ⟨hx, hb, hml, hown, hlocks, hrt, hnm, htab, hW, hlow, hfr, hlo, hsz, hend⟩ := A
        show W p (pWl w) e R s m args below meth c H locs cells slots Z (F0 m pc ls (.long x1 :: .long x2 :: S.map (ptr w)))
        refine va_mmax_long hx hb (hml.trans hL.1.symm) hown (act_w hw hW hl) (act_w hw hW hst) (act_w hw hW hini) (act_w hw hW hco) (by omega) (by rw [ptr_sum]; have := h.1; omega) (by omega) (by omega) hd ?_
        exact h.2 H locs cells slots ls hH hL hc hs hS
      | _ => exact False.elim h
    | _ => exact False.elim h
/-- System.arraycopy over rows of ints -/
def pcp (M : pM) (a b : Nat) (sp dp n : Nat) : pM := (M.1, fun x y => if x = b ∧ dp ≤ y ∧ y < dp + n then M.2.1 a (sp + (y - dp)) else M.2.1 x y, M.2.2)
def o_copy (n : Nat) : pOp := fun _ X _ f M => match f.2.1 with
  | .int k :: .int dp :: .ref b :: .int sp :: .ref a :: r => psum r ≤ 8 ∧ (∃ l0 l1, pK M a = (2, l0) ∧ pK M b = (2, l1) ∧ ¬ a = b ∧ ¬ sp < 0 ∧ ¬ dp < 0 ∧ ¬ k < 0 ∧ sp.toNatClampNeg + k.toNatClampNeg ≤ l0 ∧ dp.toNatClampNeg + k.toNatClampNeg ≤ l1) ∧ X n (f.1, r, f.2.2) (pcp M a b sp.toNatClampNeg dp.toNatClampNeg k.toNatClampNeg)
  | _ => False
