/-! THE LAW: a call that may throw, the reference's call, what it threw, and the answers beside each other -/
def lgT (q : Nat) (G F : pM → Prop) (k v t : Int32) (M : pM) : Prop := (t = k → ((k = 0 → ∃ n : Nat, pK M q = (3, n) ∧ vp_in 0 n ∧ (((lg_cmp (pL M q (Int32.toNatClampNeg 0)) (Int32.toInt64 v)) = 0 → G M) ∧ (¬ (lg_cmp (pL M q (Int32.toNatClampNeg 0)) (Int32.toInt64 v)) = 0 → F M))) ∧ (¬ k = 0 → G M))) ∧ (¬ t = k → F M)
/-- how a helper of the law goes on -/
def hlpO (B : pM) (I : pIm) (p q : Nat) (cd : String → Int32) (w : pR) (s' : wS) (K : Int32 → pM → Prop) : Prop := ∀ (C : pM) (J : pIm) (td dr : Nat), ExP p B C → pN C ≤ pN B + 1 → padS C p td dr → padD J p td dr s' → (∀ x, (x < p ∨ p + 1145 ≤ x) → x < pN B → J x = I x) → (∀ v, w = rI v → K 0 (pset (psL C q 0 (Int32.toInt64 v)) J)) ∧ ∀ E, w = .inr E → K (cd E) (pset C J)
theorem law_thr {d : Nat} (hd : 1 ≤ d) {mh mr : pMI} {rs : Nat × Nat} {ah ar : List Value} {B : pM} {I : pIm} {p r q n : Nat} {sc : Nat → Int32} {s s' : wS} {w : pR} {cd : String → Int32} {G F : pM → Prop} (hI : lawI B I p r q n sc s) (hb : pN B < pBIG) (hcd : ∀ E, w = .inr E → ¬ cd E = 0)
    (hh : ∀ K : Int32 → pM → Prop, hlpO B I p q cd w s' K → pCall_i d mh rs ah (pset B I) K)
    (hr : ∀ (B : pM) (I : pIm) (td dr : Nat) (K : Int32 → pM → Prop), mdS B r td dr → modD I r td s → modO B I r cd (w, s') K → pCall_i d mr (0, 0) ar (pset B I) K)
    (hG : ∀ C J, lawI C J p r q n sc s' → pN C ≤ pN B + 1 → G (pset C J)) :
    pCall_i d mh rs ah (pset B I) (fun v1 M1 => pK (keepM (pset B I) M1) r = (1, 13) ∧ pCall_i d mr (0, 0) ar (keepM (pset B I) M1) (fun v2 M2 => pK (keepM (keepM (pset B I) M1) M2) r = (1, 13) ∧ pCall_i d mX13_thrown (0, 0) [.ref r] (keepM (keepM (pset B I) M1) M2) (fun v3 M3 => lgT q G F v1 v2 v3 (keepM (keepM (keepM (pset B I) M1) M2) M3)))) := by
  have hk5 : (pK B pSCR).1 = 5 := by rw [hI.2.2.2.1]
  refine hh _ (fun C J td dr hx hn hs hd2 hf => ⟨fun v hv => ?_, fun E hE => ?_⟩)
  · have he0 := hI.pad hx hn (Nat.le_trans hn hb) hs hd2 hf
    have he := lawI.padL (v := Int32.toInt64 v) he0
    refine ⟨?_, ?_⟩
    · rw [keep_pset hk5]
      obtain ⟨-, ⟨tm, dm, ms, -⟩, -⟩ := he
      exact ms.1
    · refine law_ref hd hk5 he hr (fun C2 J2 v2 l hn2 hL ho => ?_)
      subst hv
      obtain ⟨h0, hv2⟩ := ho
      cases hv2
      refine ⟨fun _ => ⟨fun _ => ⟨1, l.2.2.1, vp_inN (j := 0) (n := 1) (by decide) (by decide), fun _ => hG C2 J2 l (by rw [hn2]; exact hn), fun g => absurd ?_ g⟩, fun g => absurd rfl g⟩, fun g => absurd h0 g⟩
      rw [lg_cmp_eq]
      show pL C2 q 0 = _
      rw [hL]
      exact if_pos ⟨rfl, rfl⟩
  · have he := hI.pad hx hn (Nat.le_trans hn hb) hs hd2 hf
    refine ⟨?_, ?_⟩
    · rw [keep_pset hk5]
      obtain ⟨-, ⟨tm, dm, ms, -⟩, -⟩ := he
      exact ms.1
    · refine law_ref hd hk5 he hr (fun C2 J2 v2 l hn2 hL ho => ?_)
      subst hE
      have h0 : J2 r 0 = cd E := ho
      exact ⟨fun _ => ⟨fun g => absurd g (hcd E rfl), fun _ => hG C2 J2 l (by rw [hn2]; exact hn)⟩, fun g => absurd h0 g⟩
/-- what the law's exceptions are numbered with -/
def cdA (E : String) : Int32 := if E = xIAE then 1 else if E = xISE then 2 else 0
def cdS (E : String) : Int32 := if E = xISE then 1 else 0
def cdB (E : String) : Int32 := if E = xIOB then 1 else if E = xISE then 2 else 0
theorem cdA_1 : cdA xIAE = 1 := by decide +kernel
theorem cdA_2 : cdA xISE = 2 := by decide +kernel
theorem cdS_1 : cdS xISE = 1 := by decide +kernel
theorem cdB_1 : cdB xIOB = 1 := by decide +kernel
theorem cdB_2 : cdB xISE = 2 := by decide +kernel
/-- what a call may do: answer an int, or throw one of two -/
def okO (w : pR) (a b : String) : Prop := (∃ v, w = rI v) ∨ w = .inr a ∨ w = .inr b
