/-! THE REFERENCE: small methods -/
def isInI (v a b : Int32) : Int32 := if v < a then 0 else if b < v then 0 else 1
theorem c_misIn {d : Nat} (hd : 1 ≤ d) {M : pM} {v a b : Int32} {K : Int32 → pM → Prop} (h : K (isInI v a b) M) : pCall_i d mX13_isIn (0, 0) [.int v, .int a, .int b] M K := by
  refine CP_go hd okX13_isIn (Nat.le_of_ble_eq_true rfl) ?_
  unfold isInI at h
  refine bX13_isIn_0 ⟨fun g => ⟨_, rfl, ?_⟩, fun g => ⟨fun g2 => ⟨_, rfl, ?_⟩, fun g2 => ⟨_, rfl, ?_⟩⟩⟩
  · rw [if_pos g] at h; exact h
  · rw [if_neg g, if_pos g2] at h; exact h
  · rw [if_neg g, if_neg g2] at h; exact h
theorem c_misLetter {d : Nat} (hd : 1 ≤ d) {M : pM} {c : Int32} {K : Int32 → pM → Prop} (h : K (isLt c) M) : pCall_i d mX13_isLetter (0, 0) [.int c] M K := by
  refine CP_go hd okX13_isLetter (Nat.le_of_ble_eq_true rfl) ?_
  unfold isLt at h
  refine bX13_isLetter_0 ⟨fun g => ⟨_, rfl, ?_⟩, fun g => ⟨fun g2 => ⟨_, rfl, ?_⟩, fun g2 => ⟨_, rfl, ?_⟩⟩⟩
  · rw [if_pos g] at h; exact h
  · rw [if_neg g, if_pos g2] at h; exact h
  · rw [if_neg g, if_neg g2] at h; exact h
theorem c_misDigit {d : Nat} (hd : 1 ≤ d) {M : pM} {c : Int32} {K : Int32 → pM → Prop} (h : K (isDg c) M) : pCall_i d mX13_isDigit (0, 0) [.int c] M K := by
  refine CP_go hd okX13_isDigit (Nat.le_of_ble_eq_true rfl) ?_
  unfold isDg at h
  refine bX13_isDigit_0 ⟨fun g => ⟨_, rfl, ?_⟩, fun g => ⟨fun g2 => ⟨_, rfl, ?_⟩, fun g2 => ⟨_, rfl, ?_⟩⟩⟩
  · rw [if_pos g] at h; exact h
  · rw [if_neg g, if_pos g2] at h; exact h
  · rw [if_neg g, if_neg g2] at h; exact h
theorem c_mno {d : Nat} (hd : 1 ≤ d) {B : pM} {I : pIm} {r : Nat} {n : Int32} {K : Int32 → pM → Prop} (hq : pK B r = (1, 13)) (h : K 0 (pset B (u2 I r 0 n))) : pCall_i d mX13_no (0, 0) [.ref r, .int n] (pset B I) K := by
  refine CP_go hd okX13_no (Nat.le_of_ble_eq_true rfl) ?_
  exact bX13_no_0 ⟨hq, _, rfl, h⟩
theorem c_mthrown {d : Nat} (hd : 1 ≤ d) {B : pM} {I : pIm} {r : Nat} {K : Int32 → pM → Prop} (hq : pK B r = (1, 13)) (h : K (I r 0) (pset B I)) : pCall_i d mX13_thrown (0, 0) [.ref r] (pset B I) K := by
  refine CP_go hd okX13_thrown (Nat.le_of_ble_eq_true rfl) ?_
  exact bX13_thrown_0 ⟨hq, _, rfl, h⟩
