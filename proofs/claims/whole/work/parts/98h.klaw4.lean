/-! THE LAW: calls that throw nothing -/
theorem law_plain {d : Nat} {mp mr : pMI} {rs : Nat × Nat} {as ar : List Value} {B : pM} {I : pIm} {p r q n : Nat} {sc : Nat → Int32} {s s' : wS} {v : Int32} {G : pM → Prop} {F : Int32 → Int32 → pM → pM → Prop} (hI : lawI B I p r q n sc s) (hb : pN B < pBIG) (hp : ∀ (td dr : Nat) (Q : pR → pM → Prop), padS B p td dr → padD I p td dr s → padO B I p (rI v, s') Q → CP d mp rs as (pset B I) Q) (hr : ∀ (B : pM) (I : pIm) (td dr : Nat) (K : Int32 → pM → Prop), mdS B r td dr → modD I r td s → modO B I r (fun _ => 0) (rI v, s') K → pCall_i d mr (0, 0) ar (pset B I) K) (hG : ∀ C J, lawI C J p r q n sc s' → pN C ≤ pN B + 1 → G (pset C J)) : pCall_i d mp rs as (pset B I) (fun v7 M7 => pK (keepM (pset B I) M7) r = (1, 13) ∧ pCall_i d mr (0, 0) ar (keepM (pset B I) M7) (fun v8 M8 => (v7 = v8 → G (keepM (keepM (pset B I) M7) M8)) ∧ (¬ v7 = v8 → F v7 v8 M7 M8))) := by
  obtain ⟨⟨td, dr, h1, h2⟩, -⟩ := id hI
  have hk5 : (pK B pSCR).1 = 5 := by rw [hI.2.2.2.1]
  refine hp td dr _ h1 h2 (fun C J td' dr' hx hn hs hd hf => ⟨v, rfl, ?_⟩)
  show pK (keepM (pset B I) (pset C J)) r = (1, 13) ∧ pCall_i d mr (0, 0) ar (keepM (pset B I) (pset C J)) (fun v8 M8 => (v = v8 → G (keepM (keepM (pset B I) (pset C J)) M8)) ∧ (¬ v = v8 → F v v8 (pset C J) M8))
  rw [keep_pset hk5]
  obtain ⟨⟨ps, pd⟩, ⟨tm, dm, ms, md⟩, e3, e4, e5, e6⟩ := hI.pad hx hn (Nat.le_trans hn hb) hs hd hf
  refine ⟨ms.1, hr _ _ tm dm _ ms md (fun C2 J2 tm2 dm2 v8 hx2 ms2 md2 hf2 ho => ?_)⟩
  obtain ⟨h0, hv⟩ := ho
  cases hv
  obtain ⟨l1, l2⟩ := lawI.mod ps pd e3 e4 e5 e6 hx2 ms2 md2 hf2
  rw [l2]
  refine ⟨fun _ => hG C2 J2 l1 ?_, fun g => absurd rfl g⟩
  rw [hx2.1]
  exact hn
