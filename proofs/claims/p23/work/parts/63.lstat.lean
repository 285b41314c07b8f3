/-! THE LAW'S SMALL METHODS: numbers out of the script -/
theorem keep_self {M : pM} : keepM M M = M := by
  unfold keepM
  split
  · refine Prod.ext (funext fun x => ?_) (Prod.ext (funext fun x => funext fun y => ?_) rfl)
    · show (if x = pSCR then M.1 x else M.1 x) = M.1 x
      split <;> rfl
    · show (if x = pSCR then M.2.1 x y else M.2.1 x y) = M.2.1 x y
      split <;> rfl
  · rfl
def belI (v n : Int32) : Int32 := (v &&& 2147483647) - (v &&& 2147483647) / n * n
def celI (sc : Nat → Int32) (n j : Nat) : Int32 := if n ≤ j then 461243603 * (nI j + 3) else sc j
def sizI (sc : Nat → Int32) (n w : Nat) : Int32 := 1 + belI (celI sc n w >>> ((3 : Int32) &&& 31)) 5
def letC (sc : Nat → Int32) (n w i : Nat) : Int32 := if nI i = sizI sc n w then 48 + nI w else 97 + belI (celI sc n w >>> (((2 * nI i) + 5) &&& 31)) 5
def weiI (sc : Nat → Int32) (n w : Nat) : Int32 := belI (celI sc n (7 + w % 3) >>> (nI w &&& 31)) 90
theorem nI_div {a b : Nat} (ha : a < 2 ^ 31) (hb : b < 2 ^ 31) : nI a / nI b = nI (a / b) := by
  refine Int32.toInt_inj.mp ?_
  have h1 : (nI (a / b)).toInt = ((a / b : Nat) : Int) := nI_toInt (Nat.lt_of_le_of_lt (Nat.div_le_self a b) ha)
  rw [h1, Int32.toInt_div, nI_toInt ha, nI_toInt hb]
  have h2 : (a : Int).tdiv (b : Int) = ((a / b : Nat) : Int) := rfl
  have h3 : a / b < 2 ^ 31 := Nat.lt_of_le_of_lt (Nat.div_le_self a b) ha
  rw [h2]
  clear h1 h2
  generalize a / b = q at h3 ⊢
  exact Int.bmod_eq_of_le (by simp at * <;> omega) (by simp at * <;> omega)
theorem and_max {v : Int32} : ∃ a, a < 2 ^ 31 ∧ v &&& 2147483647 = nI a := by
  have h : ¬ (v &&& 2147483647) < 0 := by
    rw [Int32.lt_iff_toInt_lt]
    have e : (v &&& 2147483647).toBitVec = v.toBitVec &&& 2147483647#32 := rfl
    have e2 : (v &&& 2147483647).toInt = (v.toBitVec &&& 2147483647#32).toInt := rfl
    rw [e2]
    have e3 : (v.toBitVec &&& 2147483647#32).msb = false := by
      rw [BitVec.msb_and]
      have : (2147483647#32).msb = false := by decide
      rw [this, Bool.and_false]
    rw [BitVec.toInt_eq_msb_cond, e3]
    simp
  exact nI_of h
theorem bel_in (v : Int32) {m : Nat} (h0 : 0 < m) (h1 : m < 1000) : ∃ k, k < m ∧ belI v (nI m) = nI k := by
  obtain ⟨a, ha, e⟩ := and_max (v := v)
  have hq : a / m ≤ a := Nat.div_le_self a m
  have hm : a / m * m ≤ a := Nat.div_mul_le_self a m
  have hmod : a - a / m * m = a % m := by
    have := Nat.div_add_mod a m
    rw [Nat.mul_comm] at this
    omega
  refine ⟨a % m, Nat.mod_lt _ h0, ?_⟩
  unfold belI
  rw [e, nI_div ha (by omega)]
  have e2 : nI (a / m) * nI m = nI (a / m * m) := (Int32.ofNat_mul _ _).symm
  rw [e2, ← hmod]
  have e3 : nI (a - a / m * m) + nI (a / m * m) = nI a := by rw [nI_add]; congr 1; omega
  rw [← e3, Int32.add_sub_cancel]
theorem siz_in {sc : Nat → Int32} {n w : Nat} : ∃ k, 1 ≤ k ∧ k ≤ 5 ∧ sizI sc n w = nI k := by
  obtain ⟨k, h1, h2⟩ := bel_in (celI sc n w >>> ((3 : Int32) &&& 31)) (m := 5) (by decide) (by decide)
  refine ⟨k + 1, by omega, by omega, ?_⟩
  unfold sizI
  have e5 : (5 : Int32) = nI 5 := rfl
  rw [e5, h2, Int32.add_comm]
  exact nI_1 k
theorem wei_in {sc : Nat → Int32} {n w : Nat} : ∃ k, k < 90 ∧ weiI sc n w = nI k := bel_in _ (by decide) (by decide)
theorem let_in {sc : Nat → Int32} {n w i : Nat} (h : nI i ≠ sizI sc n w) : ∃ k, 97 ≤ k ∧ k ≤ 101 ∧ letC sc n w i = nI k := by
  obtain ⟨k, h1, h2⟩ := bel_in (celI sc n w >>> (((2 * nI i) + 5) &&& 31)) (m := 5) (by decide) (by decide)
  refine ⟨97 + k, by omega, by omega, ?_⟩
  unfold letC
  rw [if_neg h]
  have h3 : belI (celI sc n w >>> (((2 * nI i) + 5) &&& 31)) 5 = nI k := h2
  rw [h3]
  exact nI_add 97 k
theorem cl_below {d : Nat} (hd : 1 ≤ d) {v n : Int32} {M : pM} {K : Int32 → pM → Prop} (hn : ¬ n = 0) (h : K (belI v n) M) : pCall_i d mL_below (0, 0) [.int v, .int n] M K := CP_go hd okL_below (Nat.le_of_ble_eq_true rfl) (bL_below_0 ⟨hn, _, rfl, h⟩)
/-- the script as the law's methods read it -/
def Scr (M : pM) (n : Nat) (sc : Nat → Int32) : Prop := pK M pSCR = (5, n) ∧ n ≤ 260 ∧ ∀ j, pI M pSCR j = sc j
theorem cl_cell {d : Nat} (hd : 1 ≤ d) {n j : Nat} {sc : Nat → Int32} {M : pM} {K : Int32 → pM → Prop} (hs : Scr M n sc) (hj : j ≤ 1000) (h : K (celI sc n j) M) : pCall_i d mL_cell (0, 0) [.ref pSCR, .int (nI j)] M K := by
  obtain ⟨h1, h2, h3⟩ := hs
  refine CP_go hd okL_cell (Nat.le_of_ble_eq_true rfl) (bL_cell_0 ⟨n, h1, fun g => ⟨_, rfl, ?_⟩, fun g => ⟨n, h1, ?_, _, rfl, ?_⟩⟩)
  · have g2 : n ≤ j := (nI_leI (by omega) (by omega)).mp g
    unfold celI at h
    rw [if_pos g2] at h
    exact h
  · have g2 : ¬ n ≤ j := fun z => g (nI_le z (by omega))
    exact vp_in_nI (by omega) (by omega)
  · have g2 : ¬ n ≤ j := fun z => g (nI_le z (by omega))
    unfold celI at h
    rw [if_neg g2] at h
    rw [nI_clamp (by omega), h3]
    exact h
theorem cl_size {d : Nat} (hd : 2 ≤ d) {n w : Nat} {sc : Nat → Int32} {M : pM} {K : Int32 → pM → Prop} (hs : Scr M n sc) (hj : w ≤ 900) (h : K (sizI sc n w) M) : pCall_i d mL_size (0, 0) [.ref pSCR, .int (nI w)] M K := by
  refine CP_go (by omega) okL_size (Nat.le_of_ble_eq_true rfl) (bL_size_0 (cl_cell (by omega) hs (by omega) ?_))
  rw [keep_self]
  refine cl_below (by omega) (by decide) ?_
  rw [keep_self]
  exact ⟨_, rfl, h⟩
theorem cl_letter_ {d : Nat} (hd : 3 ≤ d) {n w i : Nat} {sc : Nat → Int32} {M : pM} {K : Int32 → pM → Prop} (hs : Scr M n sc) (hj : w ≤ 900) (h : K (letC sc n w i) M) : pCall_i d mL_letter_ (0, 0) [.ref pSCR, .int (nI w), .int (nI i)] M K := by
  refine CP_go (by omega) okL_letter_ (Nat.le_of_ble_eq_true rfl) (bL_letter__0 (cl_size (by omega) hs hj ?_))
  rw [keep_self]
  unfold letC at h
  refine ⟨fun g => ⟨_, rfl, ?_⟩, fun g => cl_cell (by omega) hs (by omega) ?_⟩
  · rw [if_pos g] at h
    exact h
  · rw [if_neg g] at h
    rw [keep_self]
    refine cl_below (by omega) (by decide) ?_
    rw [keep_self]
    exact ⟨_, rfl, h⟩
theorem cl_weight {d : Nat} (hd : 2 ≤ d) {n w : Nat} {sc : Nat → Int32} {M : pM} {K : Int32 → pM → Prop} (hs : Scr M n sc) (hj : w < 6) (h : K (weiI sc n w) M) : pCall_i d mL_weight (0, 0) [.ref pSCR, .int (nI w)] M K := by
  refine CP_go (by omega) okL_weight (Nat.le_of_ble_eq_true rfl) (bL_weight_0 ?_)
  have e : (7 : Int32) + (nI w - nI w / 3 * 3) = nI (7 + w % 3) := by
    have key : ∀ w, w < 6 → (7 : Int32) + (nI w - nI w / 3 * 3) = nI (7 + w % 3) := by decide +kernel
    exact key w hj
  rw [e]
  refine cl_cell (by omega) hs (by omega) ?_
  rw [keep_self]
  refine cl_below (by omega) (by decide) ?_
  rw [keep_self]
  exact ⟨_, rfl, h⟩
/-! texts -/
def chI (i j : Nat) : Int32 := if sN i ≤ j then 32 else (sB i).getD j 0
theorem cl_letter {d : Nat} (hd : 5 ≤ d) {i j : Nat} {M : pM} {K : Int32 → pM → Prop} (hi : i < 21) (hj : j < 1000) (h : K (chI i j) M) : pCall_i d mL_letter (0, 0) [.ref (pBIG + i), .int (nI j)] M K := by
  refine CP_go (by omega) okL_letter (Nat.le_of_ble_eq_true rfl) (bL_letter_0 ⟨i, rfl, hi, c_slength (by omega) hi ?_⟩)
  rw [keep_self]
  have hlt := sN_lt i hi
  unfold chI at h
  refine ⟨fun g => ⟨_, rfl, ?_⟩, fun g => bL_letter_8 ⟨i, rfl, hi, c_scharAt (by omega) hi ?_ ?_⟩⟩
  · rw [if_pos ((nI_leI (by omega) (by omega)).mp g)] at h
    exact h
  · exact Nat.not_le.mp (fun z => g (nI_le z (by omega)))
  · rw [if_neg (fun z => g (nI_le z (by omega)))] at h
    rw [keep_self]
    exact ⟨_, rfl, h⟩
def fouI (i j : Nat) : Int32 := (((chI i j <<< (24 &&& 31)) ||| (chI i (j + 1) <<< (16 &&& 31))) ||| (chI i (j + 2) <<< (8 &&& 31))) ||| chI i (j + 3)
theorem cl_four {d : Nat} (hd : 6 ≤ d) {i j : Nat} {M : pM} {K : Int32 → pM → Prop} (hi : i < 21) (hj : j + 3 < 1000) (h : K (fouI i j) M) : pCall_i d mL_four (0, 0) [.ref (pBIG + i), .int (nI j)] M K := by
  refine CP_go (by omega) okL_four (Nat.le_of_ble_eq_true rfl) (bL_four_0 (cl_letter (by omega) hi (by omega) ?_))
  have e1 : nI j + 1 = nI (j + 1) := nI_add j 1
  have e2 : nI j + 2 = nI (j + 2) := nI_add j 2
  have e3 : nI j + 3 = nI (j + 3) := nI_add j 3
  rw [keep_self, e1]
  refine cl_letter (by omega) hi (by omega) ?_
  rw [keep_self, e2]
  refine cl_letter (by omega) hi (by omega) ?_
  rw [keep_self, e3]
  refine cl_letter (by omega) hi (by omega) ?_
  rw [keep_self]
  exact ⟨_, rfl, h⟩
/-! four bytes in one number, and out again -/
theorem bt_or {x y k : Int32} : bt (x ||| y) k = bt x k ||| bt y k := by
  unfold bt
  rw [Int32.toUInt32_or, UInt32.shiftRight_or, UInt32.toInt32_or]
  exact Int32.toBitVec_inj.mp BitVec.and_or_distrib_right
theorem bt_0 (n : Nat) (h : n < 256) : bt (nI n <<< (24 &&& 31)) 24 = nI n ∧ bt (nI n <<< (24 &&& 31)) 16 = 0 ∧ bt (nI n <<< (24 &&& 31)) 8 = 0 ∧ bt (nI n <<< (24 &&& 31)) 0 = 0 := by
  have key : ∀ n, n < 256 → bt (nI n <<< (24 &&& 31)) 24 = nI n ∧ bt (nI n <<< (24 &&& 31)) 16 = 0 ∧ bt (nI n <<< (24 &&& 31)) 8 = 0 ∧ bt (nI n <<< (24 &&& 31)) 0 = 0 := by decide +kernel
  exact key n h
theorem bt_1 (n : Nat) (h : n < 256) : bt (nI n <<< (16 &&& 31)) 24 = 0 ∧ bt (nI n <<< (16 &&& 31)) 16 = nI n ∧ bt (nI n <<< (16 &&& 31)) 8 = 0 ∧ bt (nI n <<< (16 &&& 31)) 0 = 0 := by
  have key : ∀ n, n < 256 → bt (nI n <<< (16 &&& 31)) 24 = 0 ∧ bt (nI n <<< (16 &&& 31)) 16 = nI n ∧ bt (nI n <<< (16 &&& 31)) 8 = 0 ∧ bt (nI n <<< (16 &&& 31)) 0 = 0 := by decide +kernel
  exact key n h
theorem bt_2 (n : Nat) (h : n < 256) : bt (nI n <<< (8 &&& 31)) 24 = 0 ∧ bt (nI n <<< (8 &&& 31)) 16 = 0 ∧ bt (nI n <<< (8 &&& 31)) 8 = nI n ∧ bt (nI n <<< (8 &&& 31)) 0 = 0 := by
  have key : ∀ n, n < 256 → bt (nI n <<< (8 &&& 31)) 24 = 0 ∧ bt (nI n <<< (8 &&& 31)) 16 = 0 ∧ bt (nI n <<< (8 &&& 31)) 8 = nI n ∧ bt (nI n <<< (8 &&& 31)) 0 = 0 := by decide +kernel
  exact key n h
theorem bt_3 (n : Nat) (h : n < 256) : bt (nI n) 24 = 0 ∧ bt (nI n) 16 = 0 ∧ bt (nI n) 8 = 0 ∧ bt (nI n) 0 = nI n := by
  have key : ∀ n, n < 256 → bt (nI n) 24 = 0 ∧ bt (nI n) 16 = 0 ∧ bt (nI n) 8 = 0 ∧ bt (nI n) 0 = nI n := by decide +kernel
  exact key n h
