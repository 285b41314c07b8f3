/-! THE REFERENCE: feed -/
theorem Tp.add {I : pIm} {r : Nat} {tp : List Int32} {v : Int32} (h : Tp I r tp) (hl : tp.length < 2000) : Tp (u2 (u2 I (r + 1) tp.length v) r 2 (nI (tp.length + 1))) r (tp ++ [v]) := by
  obtain ⟨h1, h2, h3⟩ := h
  refine ⟨by rw [u2_same]; simp, by simp; omega, fun j x hx => ?_⟩
  rw [u2_a (by omega)]
  by_cases e : j < tp.length
  · rw [List.getElem?_append_left e] at hx
    rw [u2_j (by omega)]
    exact h3 j x hx
  · have hj : j = tp.length := by
      have := (List.getElem?_eq_some_iff.mp hx).1
      simp at this
      omega
    subst hj
    rw [List.getElem?_append_right (Nat.le_refl _), Nat.sub_self] at hx
    rw [u2_same]
    exact Option.some.inj hx
/-- nothing but the tape and its length has changed -/
def FrT (r : Nat) (I J : pIm) : Prop := (∀ y, y ≠ r → y ≠ r + 1 → J y = I y) ∧ ∀ f, f ≠ 2 → J r f = I r f
theorem FrT.rf {r : Nat} {I : pIm} : FrT r I I := ⟨fun _ _ _ => rfl, fun _ _ => rfl⟩
theorem FrT.tr {r : Nat} {I J K : pIm} (h : FrT r I J) (g : FrT r J K) : FrT r I K := ⟨fun y h1 h2 => (g.1 y h1 h2).trans (h.1 y h1 h2), fun f hf => (g.2 f hf).trans (h.2 f hf)⟩
theorem m_app1 {d : Nat} {B : pM} {J : pIm} {r td dr : Nat} {tp : List Int32} {x k : Int32} {Q : pR → pM → Prop} (hq : mdS B r td dr) (hl : Tp J r tp) (h4 : tp.length < 2000) (hk : ¬ k < 0)
    (h : ∀ J2, Tp J2 r (tp ++ [(x >>> (k &&& 31)) &&& 255]) → FrT r J J2 → Go d mX13_append Q 3 ([some (.ref r), some (.int x), some (.int (k + (-8)))], [], 0, 0) (pset B J2)) : Go d mX13_append Q 3 ([some (.ref r), some (.int x), some (.int k)], [], 0, 0) (pset B J) := by
  have e : pI (pset B J) r 2 = nI tp.length := hl.1
  refine bX13_append_3 ⟨fun g => absurd g hk, fun _ => ⟨hq.1, r + 1, hq.2.1.1, hq.1, 2000, hq.2.2.2.1.1, ?_, hq.1, hq.1, ?_⟩⟩
  · rw [e]; exact vp_in_nI h4 (by omega)
  · rw [e, nI_clamp (by omega)]
    have e2 : pI (psI (pset B J) (r + 1) tp.length ((x >>> (k &&& 31)) &&& 255)) r 2 = nI tp.length := by
      show u2 J (r + 1) tp.length _ r 2 = _
      rw [u2_a (by omega)]; exact hl.1
    rw [e2, nI_1, psI_set, psI_set]
    refine h _ (hl.add h4) ⟨fun y h1 h2 => ?_, fun f hf => ?_⟩
    · rw [u2_a h1, u2_a h2]
    · rw [u2_j hf, u2_a (by omega)]
theorem c_mappend {d : Nat} (hd : 1 ≤ d) {B : pM} {I : pIm} {r td dr : Nat} {tp : List Int32} {x : Int32} {K : pM → Prop} (hq : mdS B r td dr) (hl : Tp I r tp) (h4 : tp.length + 4 ≤ 2000) (h : ∀ J, Tp J r (tp ++ bt4 x) → FrT r I J → K (pset B J)) : pCall_v d mX13_append (0, 0) [.ref r, .int x] (pset B I) K := by
  refine CP_go hd okX13_append (Nat.le_of_ble_eq_true rfl) (bX13_append_0 ?_)
  refine m_app1 hq hl (by omega) (by decide) (fun J1 k1 f1 => ?_)
  refine m_app1 (k := 16) hq k1 (by simp; omega) (by decide) (fun J2 k2 f2 => ?_)
  refine m_app1 (k := 8) hq k2 (by simp; omega) (by decide) (fun J3 k3 f3 => ?_)
  refine m_app1 (k := 0) hq k3 (by simp; omega) (by decide) (fun J4 k4 f4 => ?_)
  refine bX13_append_3 ⟨fun _ => ⟨rfl, h J4 ?_ (((f1.tr f2).tr f3).tr f4)⟩, fun g => absurd (by decide) g⟩
  rw [sar24, sar16, sar8, sar0] at k4
  have e : tp ++ bt4 x = tp ++ [bt x 24] ++ [bt x 16] ++ [bt x 8] ++ [bt x 0] := by simp [bt4]
  rw [e]
  exact k4
