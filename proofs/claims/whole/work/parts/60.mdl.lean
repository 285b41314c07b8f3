/-! THE REFERENCE: its cells -/
def mbS (B : pM) (q : Nat) : Prop := pK B q = (1, 12) ∧ (pP B q 4 = (q + 1) + 1 ∧ pP B q 5 = (q + 2) + 1 ∧ pP B q 6 = (q + 3) + 1 ∧ pP B q 7 = (q + 4) + 1 ∧ pP B q 8 = (q + 5) + 1 ∧ pP B q 9 = (q + 6) + 1 ∧ pP B q 11 = (q + 7) + 1 ∧ pP B q 12 = (q + 8) + 1 ∧ pP B q 13 = (q + 9) + 1 ∧ pP B q 15 = (q + 10) + 1) ∧ (pK B (q + 1) = (2, 400) ∧ pK B (q + 2) = (2, 40) ∧ pK B (q + 3) = (2, 40) ∧ pK B (q + 4) = (2, 40) ∧ pK B (q + 5) = (2, 128) ∧ pK B (q + 6) = (2, 36) ∧ pK B (q + 7) = (2, 401) ∧ pK B (q + 8) = (2, 401) ∧ pK B (q + 9) = (2, 401) ∧ pK B (q + 10) = (2, 2000))
/-- the reference at r; the book that counts at td, the other at dr -/
def mdS (B : pM) (r td dr : Nat) : Prop := pK B r = (1, 13) ∧ (pP B r 1 = (r + 1) + 1 ∧ pP B r 4 = (r + 2) + 1 ∧ pP B r 5 = (r + 3) + 1 ∧ pP B r 6 = (r + 4) + 1 ∧ pP B r 7 = (r + 5) + 1 ∧ pP B r 8 = td + 1 ∧ pP B r 9 = dr + 1) ∧ (pP B r 10 = (r + 28) + 1 ∧ pP B r 11 = (r + 29) + 1 ∧ pP B r 17 = (r + 30) + 1 ∧ pP B r 22 = (r + 31) + 1 ∧ pP B r 23 = (r + 32) + 1 ∧ pP B r 24 = (r + 33) + 1 ∧ pP B r 25 = (r + 34) + 1 ∧ pP B r 26 = (r + 35) + 1) ∧ (pK B (r + 1) = (2, 2000) ∧ pK B (r + 2) = (2, 402) ∧ pK B (r + 3) = (2, 402) ∧ pK B (r + 4) = (2, 402) ∧ pK B (r + 5) = (2, 402) ∧ pK B (r + 28) = (2, 6) ∧ pK B (r + 29) = (2, 40) ∧ pK B (r + 30) = (2, 20) ∧ pK B (r + 31) = (2, 20) ∧ pK B (r + 32) = (2, 11) ∧ pK B (r + 33) = (2, 40) ∧ pK B (r + 34) = (2, 40) ∧ pK B (r + 35) = (2, 40)) ∧ mbS B td ∧ mbS B dr ∧ ((td = r + 6 ∧ dr = r + 17) ∨ (td = r + 17 ∧ dr = r + 6)) ∧ r + 36 ≤ pN B
/-- a tape in an array -/
def Tp (I : pIm) (r : Nat) (tp : List Int32) : Prop := I r 2 = nI tp.length ∧ tp.length ≤ 2000 ∧ ∀ j x, tp[j]? = some x → I (r + 1) j = x
/-- what the reference sees at a place: the tape's byte, 0 behind its end -/
def mby (tp : List Int32) (k : Nat) : Int32 := tp.getD k 0
theorem c_mbyteAt {d : Nat} (hd : 1 ≤ d) {B : pM} {I : pIm} {r td dr k : Nat} {tp : List Int32} {K : Int32 → pM → Prop} (hq : mdS B r td dr) (hl : Tp I r tp) (hk : k < 2 ^ 31) (h : K (mby tp k) (pset B I)) : pCall_i d mX13_byteAt (0, 0) [.ref r, .int (nI k)] (pset B I) K := by
  refine CP_go hd okX13_byteAt (Nat.le_of_ble_eq_true rfl) ?_
  obtain ⟨l1, l2, l3⟩ := hl
  have e : pI (pset B I) r 2 = nI tp.length := l1
  unfold mby at h
  refine bX13_byteAt_0 ⟨hq.1, fun g => ⟨_, rfl, ?_⟩, fun g => ⟨hq.1, r + 1, hq.2.1.1, 2000, hq.2.2.2.1.1, ?_, _, rfl, ?_⟩⟩
  · rw [e] at g
    rw [List.getD_eq_getElem?_getD, List.getElem?_eq_none ((nI_leI (by omega) hk).mp g)] at h
    exact h
  · rw [e] at g
    have hlt : k < tp.length := Nat.not_le.mp (fun z => g (nI_le z hk))
    exact vp_in_nI (by omega) (by omega)
  · rw [e] at g
    have hlt : k < tp.length := Nat.not_le.mp (fun z => g (nI_le z hk))
    rw [List.getD_eq_getElem?_getD, List.getElem?_eq_getElem hlt] at h
    rw [nI_clamp hk]
    have := l3 k _ (List.getElem?_eq_getElem hlt)
    show K (I (r + 1) k) _
    rw [this]
    exact h
