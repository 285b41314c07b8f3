/-! THE REFERENCE'S PARSER: what it stands on, and its small methods -/
/-- the tokens, in the reference's memory -/
def tkE (B : pM) (I : pIm) (r td dr : Nat) (tp : List Int32) (t : tK) (n0 : Nat) : Prop := mdS B r td dr ∧ Tp I r tp ∧ byteL tp ∧ tkD I r tp t ∧ t.1.length = n0 + 1 ∧ n0 ≤ 400 ∧ kfM (kfT t) n0 ∧ ∃ p, geo tp t p
/-- what the parser may change -/
def FrX (r dr : Nat) (I J : pIm) : Prop := (∀ y, y ≠ r → (y < dr ∨ dr + 11 ≤ y) → y ≠ r + 28 → y ≠ r + 29 → J y = I y) ∧ ∀ f, f ≠ 12 → f ≠ 13 → f ≠ 14 → f ≠ 15 → f ≠ 16 → J r f = I r f
theorem FrX.rf {r dr : Nat} {I : pIm} : FrX r dr I I := ⟨fun _ _ _ _ _ => rfl, fun _ _ _ _ _ _ => rfl⟩
theorem FrX.tr {r dr : Nat} {I J K : pIm} (h : FrX r dr I J) (g : FrX r dr J K) : FrX r dr I K := ⟨fun y h1 h2 h3 h4 => (g.1 y h1 h2 h3 h4).trans (h.1 y h1 h2 h3 h4), fun f h1 h2 h3 h4 h5 => (g.2 f h1 h2 h3 h4 h5).trans (h.2 f h1 h2 h3 h4 h5)⟩
theorem tkE.f {B : pM} {I J : pIm} {r td dr n0 : Nat} {tp : List Int32} {t : tK} (h : tkE B I r td dr tp t n0) (f : FrX r dr I J) : tkE B J r td dr tp t n0 := by
  obtain ⟨hq, hl, hb, hT, h1, h2, h3, h4⟩ := h
  have hy := hq.lay
  obtain ⟨t1, t2, t3, t4, t5⟩ := hT
  refine ⟨hq, hl.cg (f.2 2 (by decide) (by decide) (by decide) (by decide) (by decide)) (f.1 _ (by omega) (by omega) (by omega) (by omega)), hb, ⟨t1, t2, ?_, ?_, ?_⟩, h1, h2, h3, h4⟩
  · rw [f.1 _ (by omega) (by omega) (by omega) (by omega)]; exact t3
  · rw [f.1 _ (by omega) (by omega) (by omega) (by omega)]; exact t4
  · rw [f.1 (r + 2) (by omega) (by omega) (by omega) (by omega), f.1 (r + 3) (by omega) (by omega) (by omega) (by omega)]; exact t5
/-- a value's parser changes less -/
def FrV (r dr : Nat) (I J : pIm) : Prop := (∀ y, y ≠ r → y ≠ dr → (y < dr + 7 ∨ dr + 11 ≤ y) → J y = I y) ∧ (∀ f, f ≠ 12 → f ≠ 13 → f ≠ 14 → f ≠ 15 → f ≠ 16 → J r f = I r f) ∧ ∀ f, f ≠ 10 → f ≠ 14 → J dr f = I dr f
theorem FrV.rf {r dr : Nat} {I : pIm} : FrV r dr I I := ⟨fun _ _ _ _ => rfl, fun _ _ _ _ _ _ => rfl, fun _ _ _ => rfl⟩
theorem FrV.tr {r dr : Nat} {I J K : pIm} (h : FrV r dr I J) (g : FrV r dr J K) : FrV r dr I K := ⟨fun y h1 h2 h3 => (g.1 y h1 h2 h3).trans (h.1 y h1 h2 h3), fun f h1 h2 h3 h4 h5 => (g.2.1 f h1 h2 h3 h4 h5).trans (h.2.1 f h1 h2 h3 h4 h5), fun f h1 h2 => (g.2.2 f h1 h2).trans (h.2.2 f h1 h2)⟩
theorem FrV.x {r dr : Nat} {I J : pIm} (h : FrV r dr I J) : FrX r dr I J := ⟨fun y h1 h2 _ _ => h.1 y h1 (by omega) (by omega), h.2.1⟩
theorem FrV.u {r dr f : Nat} {I : pIm} {v : Int32} (hne : dr ≠ r) (hf : f = 12 ∨ f = 13 ∨ f = 14 ∨ f = 15 ∨ f = 16) : FrV r dr I (u2 I r f v) := ⟨fun y h1 _ _ => u2_a h1, fun g h1 h2 h3 h4 h5 => u2_j (by omega), fun g _ _ => by rw [u2_a hne]⟩
/-- nodes below nn and text below tx stand -/
def kpV (dr : Nat) (I J : pIm) (nn tx : Nat) : Prop := (∀ j, j < nn → J (dr + 7) j = I (dr + 7) j ∧ J (dr + 8) j = I (dr + 8) j ∧ J (dr + 9) j = I (dr + 9) j) ∧ ∀ j, j < tx → J (dr + 10) j = I (dr + 10) j
theorem kpV.rf {dr nn tx : Nat} {I : pIm} : kpV dr I I nn tx := ⟨fun _ _ => ⟨rfl, rfl, rfl⟩, fun _ _ => rfl⟩
theorem kpV.tr {dr nn tx nn' tx' : Nat} {I J K : pIm} (h : kpV dr I J nn tx) (g : kpV dr J K nn' tx') (hn : nn ≤ nn') (ht : tx ≤ tx') : kpV dr I K nn tx := ⟨fun j hj => ⟨(g.1 j (by omega)).1.trans (h.1 j hj).1, (g.1 j (by omega)).2.1.trans (h.1 j hj).2.1, (g.1 j (by omega)).2.2.trans (h.1 j hj).2.2⟩, fun j hj => (g.2 j (by omega)).trans (h.2 j hj)⟩
theorem kpV.u {r dr nn tx f : Nat} {I : pIm} {v : Int32} (hy : dr = r + 6 ∨ dr = r + 17) : kpV dr I (u2 I r f v) nn tx := ⟨fun j _ => by rw [u2_a (by omega), u2_a (by omega), u2_a (by omega)]; exact ⟨rfl, rfl, rfl⟩, fun j _ => by rw [u2_a (by omega)]⟩
/-- where a parser that has not failed stands -/
def pT (J : pIm) (r dr : Nat) (tp : List Int32) (t : tK) (n0 a dd : Nat) (er et : Int32) (nn tx : Nat) : Prop := J r 12 = nI a ∧ J r 13 = nI dd ∧ J r 14 = -1 ∧ J r 15 = er ∧ J r 16 = et ∧ J dr 10 = nI nn ∧ J dr 14 = nI tx ∧ a ≤ n0 ∧ nn ≤ a ∧ tx ≤ sT t a ∧ dd ≤ 8
/-- one that has -/
def fT (J : pIm) (r dr : Nat) (a nn : Nat) : Prop := J r 14 = nI a ∧ a ≤ 400 ∧ J dr 10 = nI nn
theorem fT.no {J : pIm} {r dr a nn : Nat} (h : fT J r dr a nn) : ¬ J r 14 = -1 := fun z => nI_pos (n := a) (by have := h.2.1; omega) (by rw [← h.1, z]; decide)
theorem c_misOk1 {d : Nat} (hd : 1 ≤ d) {B : pM} {J : pIm} {r : Nat} {K : Int32 → pM → Prop} (hk : pK B r = (1, 13)) (h14 : J r 14 = -1) (h : K 1 (pset B J)) : pCall_i d mX13_isOk (0, 0) [.ref r] (pset B J) K := by
  refine CP_go hd okX13_isOk (Nat.le_of_ble_eq_true rfl) ?_
  exact bX13_isOk_0 ⟨hk, fun _ => ⟨_, rfl, h⟩, fun z => absurd h14 z⟩
theorem c_misOk0 {d : Nat} (hd : 1 ≤ d) {B : pM} {J : pIm} {r : Nat} {K : Int32 → pM → Prop} (hk : pK B r = (1, 13)) (h14 : ¬ J r 14 = -1) (h : K 0 (pset B J)) : pCall_i d mX13_isOk (0, 0) [.ref r] (pset B J) K := by
  refine CP_go hd okX13_isOk (Nat.le_of_ble_eq_true rfl) ?_
  exact bX13_isOk_0 ⟨hk, fun z => absurd z h14, fun _ => ⟨_, rfl, h⟩⟩
theorem c_mis0 {d : Nat} (hd : 2 ≤ d) {B : pM} {J : pIm} {r : Nat} {x y : Int32} {K : Int32 → pM → Prop} (hk : pK B r = (1, 13)) (h14 : ¬ J r 14 = -1) (h : K 0 (pset B J)) : pCall_i d mX13_is (0, 0) [.ref r, .int x, .int y] (pset B J) K := by
  refine CP_go (by omega) okX13_is (Nat.le_of_ble_eq_true rfl) ?_
  exact bX13_is_0 ⟨hk, c_misOk0 (by omega) hk h14 ⟨fun _ => ⟨_, rfl, h⟩, fun z => absurd rfl z⟩⟩
theorem c_mfail0 {d : Nat} (hd : 1 ≤ d) {B : pM} {J : pIm} {r : Nat} {K : pM → Prop} (hk : pK B r = (1, 13)) (h14 : ¬ J r 14 = -1) (h : K (pset B J)) : pCall_v d mX13_fail (0, 0) [.ref r] (pset B J) K := by
  refine CP_go hd okX13_fail (Nat.le_of_ble_eq_true rfl) ?_
  exact bX13_fail_0 ⟨hk, fun z => absurd z h14, fun _ => ⟨rfl, h⟩⟩
theorem c_mfail1 {d : Nat} (hd : 1 ≤ d) {B : pM} {J : pIm} {r : Nat} {K : pM → Prop} (hk : pK B r = (1, 13)) (h14 : J r 14 = -1) (h : K (pset B (u2 J r 14 (J r 12)))) : pCall_v d mX13_fail (0, 0) [.ref r] (pset B J) K := by
  refine CP_go hd okX13_fail (Nat.le_of_ble_eq_true rfl) ?_
  exact bX13_fail_0 ⟨hk, fun _ => ⟨hk, hk, rfl, h⟩, fun z => absurd h14 z⟩
theorem c_mtake0 {d : Nat} (hd : 3 ≤ d) {B : pM} {J : pIm} {r : Nat} {x y : Int32} {K : pM → Prop} (hk : pK B r = (1, 13)) (h14 : ¬ J r 14 = -1) (h : K (pset B J)) : pCall_v d mX13_take (0, 0) [.ref r, .int x, .int y] (pset B J) K := by
  refine CP_go (by omega) okX13_take (Nat.le_of_ble_eq_true rfl) ?_
  exact bX13_take_0 ⟨hk, c_mis0 (by omega) hk h14 ⟨fun _ => ⟨hk, c_mfail0 (by omega) hk h14 ⟨rfl, h⟩⟩, fun z => absurd rfl z⟩⟩
theorem c_mname0 {d : Nat} (hd : 2 ≤ d) {B : pM} {J : pIm} {r : Nat} {K : Int32 → pM → Prop} (hk : pK B r = (1, 13)) (h14 : ¬ J r 14 = -1) (h : K 0 (pset B J)) : pCall_i d mX13_name (0, 0) [.ref r] (pset B J) K := by
  refine CP_go (by omega) okX13_name (Nat.le_of_ble_eq_true rfl) ?_
  exact bX13_name_0 ⟨hk, c_misOk0 (by omega) hk h14 ⟨fun _ => bX13_name_37 ⟨hk, c_mfail0 (by omega) hk h14 ⟨_, rfl, h⟩⟩, fun z => absurd rfl z⟩⟩
theorem c_mnum0 {d : Nat} (hd : 2 ≤ d) {B : pM} {J : pIm} {r : Nat} {x y : Int32} {K : Int32 → pM → Prop} (hk : pK B r = (1, 13)) (h14 : ¬ J r 14 = -1) (h : K 0 (pset B J)) : pCall_i d mX13_number (0, 0) [.ref r, .int x, .int y] (pset B J) K := by
  refine CP_go (by omega) okX13_number (Nat.le_of_ble_eq_true rfl) ?_
  exact bX13_number_0 ⟨hk, c_misOk0 (by omega) hk h14 ⟨fun _ => bX13_number_20 ⟨hk, c_mfail0 (by omega) hk h14 ⟨_, rfl, h⟩⟩, fun z => absurd rfl z⟩⟩
theorem c_mknown0 {d : Nat} (hd : 3 ≤ d) {B : pM} {J : pIm} {r q : Nat} {x : Int32} {K : Int32 → pM → Prop} (hk : pK B r = (1, 13)) (h14 : ¬ J r 14 = -1) (h : K 0 (pset B J)) : pCall_i d mX13_known (0, 0) [.ref r, .ref q, .int x] (pset B J) K := by
  refine CP_go (by omega) okX13_known (Nat.le_of_ble_eq_true rfl) ?_
  exact bX13_known_0 ⟨hk, c_mname0 (by omega) hk h14 ⟨hk, c_misOk0 (by omega) hk h14 ⟨fun _ => ⟨_, rfl, h⟩, fun z => absurd rfl z⟩⟩⟩
theorem c_mone0 {d : Nat} (hd : 2 ≤ d) {B : pM} {J : pIm} {r : Nat} {K : Int32 → pM → Prop} (hk : pK B r = (1, 13)) (h14 : ¬ J r 14 = -1) (h : K 0 (pset B J)) : pCall_i d mX13_one (0, 0) [.ref r] (pset B J) K := by
  refine CP_go (by omega) okX13_one (Nat.le_of_ble_eq_true rfl) ?_
  exact bX13_one_0 ⟨hk, c_misOk0 (by omega) hk h14 ⟨fun _ => ⟨_, rfl, h⟩, fun z => absurd rfl z⟩⟩
theorem t_prod0 {d : Nat} (hd : 2 ≤ d) {B : pM} {J : pIm} {r : Nat} {v : Int32} {Q : pR → pM → Prop} (hk : pK B r = (1, 13)) (h14 : ¬ J r 14 = -1) (h : Q (.inl (some (.int v))) (pset B J)) : Go d mX13_product Q 5 ([some (.ref r), some (.int v), none], [], 0, 0) (pset B J) := bX13_product_5 ⟨hk, c_mis0 hd hk h14 ⟨fun _ => ⟨hk, c_mis0 hd hk h14 ⟨fun _ => h, fun z => absurd rfl z⟩⟩, fun z => absurd rfl z⟩⟩
theorem t_sum0 {d : Nat} (hd : 2 ≤ d) {B : pM} {J : pIm} {r : Nat} {v : Int32} {Q : pR → pM → Prop} (hk : pK B r = (1, 13)) (h14 : ¬ J r 14 = -1) (h : Q (.inl (some (.int v))) (pset B J)) : Go d mX13_sum Q 5 ([some (.ref r), some (.int v), none], [], 0, 0) (pset B J) := bX13_sum_5 ⟨hk, c_mis0 hd hk h14 ⟨fun _ => ⟨hk, c_mis0 hd hk h14 ⟨fun _ => h, fun z => absurd rfl z⟩⟩, fun z => absurd rfl z⟩⟩
theorem t_pair0 {d : Nat} (hd : 2 ≤ d) {B : pM} {J : pIm} {r : Nat} {v : Int32} {Q : pR → pM → Prop} (hk : pK B r = (1, 13)) (h14 : ¬ J r 14 = -1) (h : Q (.inl (some (.int v))) (pset B J)) : Go d mX13_pair Q 5 ([some (.ref r), some (.int v)], [], 0, 0) (pset B J) := bX13_pair_5 ⟨hk, c_mis0 hd hk h14 ⟨fun _ => h, fun z => absurd rfl z⟩⟩
theorem t_test0 {d : Nat} (hd : 2 ≤ d) {B : pM} {J : pIm} {r : Nat} {v : Int32} {Q : pR → pM → Prop} (hk : pK B r = (1, 13)) (h14 : ¬ J r 14 = -1) (h : Q (.inl (some (.int v))) (pset B J)) : Go d mX13_test Q 5 ([some (.ref r), some (.int v)], [], 0, 0) (pset B J) := bX13_test_5 ⟨hk, c_mis0 hd hk h14 ⟨fun _ => h, fun z => absurd rfl z⟩⟩
theorem c_mprod0 {d : Nat} (hd : 3 ≤ d) {B : pM} {J : pIm} {r : Nat} {K : Int32 → pM → Prop} (hk : pK B r = (1, 13)) (h14 : ¬ J r 14 = -1) (h : K 0 (pset B J)) : pCall_i d mX13_product (0, 0) [.ref r] (pset B J) K := by
  refine CP_go (by omega) okX13_product (Nat.le_of_ble_eq_true rfl) ?_
  exact bX13_product_0 ⟨hk, c_mone0 (by omega) hk h14 (t_prod0 (by omega) hk h14 ⟨_, rfl, h⟩)⟩
theorem c_msum0 {d : Nat} (hd : 4 ≤ d) {B : pM} {J : pIm} {r : Nat} {K : Int32 → pM → Prop} (hk : pK B r = (1, 13)) (h14 : ¬ J r 14 = -1) (h : K 0 (pset B J)) : pCall_i d mX13_sum (0, 0) [.ref r] (pset B J) K := by
  refine CP_go (by omega) okX13_sum (Nat.le_of_ble_eq_true rfl) ?_
  exact bX13_sum_0 ⟨hk, c_mprod0 (by omega) hk h14 (t_sum0 (by omega) hk h14 ⟨_, rfl, h⟩)⟩
theorem c_msingle0 {d : Nat} (hd : 5 ≤ d) {B : pM} {J : pIm} {r : Nat} {K : Int32 → pM → Prop} (hk : pK B r = (1, 13)) (h14 : ¬ J r 14 = -1) (h : K 0 (pset B J)) : pCall_i d mX13_single (0, 0) [.ref r] (pset B J) K := by
  refine CP_go (by omega) okX13_single (Nat.le_of_ble_eq_true rfl) ?_
  have d2 : 2 ≤ d - 1 := by omega
  have x : ∀ {K2 : Int32 → pM → Prop} {p q : Int32}, K2 0 (pset B J) → pCall_i (d - 1) mX13_is (0, 0) [.ref r, .int p, .int q] (pset B J) K2 := fun hK => c_mis0 d2 hk h14 hK
  refine bX13_single_0 ⟨hk, x ⟨fun _ => ⟨hk, x ⟨fun _ => ⟨hk, x ⟨fun _ => ⟨hk, x ⟨fun _ => ⟨hk, c_msum0 (by omega) hk h14 ⟨hk, x ⟨fun _ => ⟨hk, x ⟨fun _ => ⟨hk, x ⟨fun _ => ⟨hk, x ⟨fun _ => ⟨hk, x ⟨fun _ => ⟨hk, c_mfail0 (by omega) hk h14 ⟨_, rfl, h⟩⟩, fun z => absurd rfl z⟩⟩, fun z => absurd rfl z⟩⟩, fun z => absurd rfl z⟩⟩, fun z => absurd rfl z⟩⟩, fun z => absurd rfl z⟩⟩⟩, fun z => absurd rfl z⟩⟩, fun z => absurd rfl z⟩⟩, fun z => absurd rfl z⟩⟩, fun z => absurd rfl z⟩⟩
theorem c_mpair0 {d : Nat} (hd : 6 ≤ d) {B : pM} {J : pIm} {r : Nat} {K : Int32 → pM → Prop} (hk : pK B r = (1, 13)) (h14 : ¬ J r 14 = -1) (h : K 0 (pset B J)) : pCall_i d mX13_pair (0, 0) [.ref r] (pset B J) K := by
  refine CP_go (by omega) okX13_pair (Nat.le_of_ble_eq_true rfl) ?_
  exact bX13_pair_0 ⟨hk, c_msingle0 (by omega) hk h14 (t_pair0 (by omega) hk h14 ⟨_, rfl, h⟩)⟩
theorem c_mtest0 {d : Nat} (hd : 7 ≤ d) {B : pM} {J : pIm} {r : Nat} {K : Int32 → pM → Prop} (hk : pK B r = (1, 13)) (h14 : ¬ J r 14 = -1) (h : K 0 (pset B J)) : pCall_i d mX13_test (0, 0) [.ref r] (pset B J) K := by
  refine CP_go (by omega) okX13_test (Nat.le_of_ble_eq_true rfl) ?_
  exact bX13_test_0 ⟨hk, c_mpair0 (by omega) hk h14 (t_test0 (by omega) hk h14 ⟨_, rfl, h⟩)⟩
/-- a node more -/
theorem c_mnode {d : Nat} (hd : 1 ≤ d) {B : pM} {J : pIm} {q nn : Nat} {x y z : Int32} {K : Int32 → pM → Prop} (hq : mbS B q) (h10 : J q 10 = nI nn) (hn : nn ≤ 400) (h : K (nI nn) (pset B (u2 (u2 (u2 (u2 J (q + 7) nn x) (q + 8) nn y) (q + 9) nn z) q 10 (nI (nn + 1))))) : pCall_i d mX12_node (0, 0) [.ref q, .int x, .int y, .int z] (pset B J) K := by
  refine CP_go hd okX12_node (Nat.le_of_ble_eq_true rfl) ?_
  have vn : vp_in (nI nn) 401 := vp_inN (by omega) (by omega)
  have cn : (nI nn).toNatClampNeg = nn := nI_clamp (by omega)
  have e0 : pI (pset B J) q 10 = nI nn := h10
  have e1 : pI (psI (pset B J) (q + 7) nn x) q 10 = nI nn := by
    show u2 J (q + 7) nn x q 10 = _
    rw [u2_a (by omega)]; exact h10
  have e2 : pI (psI (psI (pset B J) (q + 7) nn x) (q + 8) nn y) q 10 = nI nn := by
    show u2 (u2 J (q + 7) nn x) (q + 8) nn y q 10 = _
    rw [u2_a (by omega), u2_a (by omega)]; exact h10
  have e3 : pI (psI (psI (psI (pset B J) (q + 7) nn x) (q + 8) nn y) (q + 9) nn z) q 10 = nI nn := by
    show u2 (u2 (u2 J (q + 7) nn x) (q + 8) nn y) (q + 9) nn z q 10 = _
    rw [u2_a (by omega), u2_a (by omega), u2_a (by omega)]; exact h10
  have K7 := hq.2.2.2.2.2.2.2.2.1
  have K8 := hq.2.2.2.2.2.2.2.2.2.1
  have K9 := hq.2.2.2.2.2.2.2.2.2.2.1
  refine bX12_node_0 ⟨hq.1, q + 7, hq.2.1.2.2.2.2.2.2.1, hq.1, 401, K7, by rw [e0]; exact vn, ?_⟩
  rw [e0, cn]
  refine ⟨hq.1, q + 8, hq.2.1.2.2.2.2.2.2.2.1, hq.1, 401, K8, by rw [e1]; exact vn, ?_⟩
  rw [e1, cn]
  refine ⟨hq.1, q + 9, hq.2.1.2.2.2.2.2.2.2.2.1, hq.1, 401, K9, by rw [e2]; exact vn, ?_⟩
  rw [e2, cn]
  refine ⟨hq.1, hq.1, hq.1, ?_⟩
  rw [e3, nI_1, psI_set, psI_set, psI_set, psI_set]
  have e4 : pI (pset B (u2 (u2 (u2 (u2 J (q + 7) nn x) (q + 8) nn y) (q + 9) nn z) q 10 (nI (nn + 1)))) q 10 = nI (nn + 1) := u2_same
  rw [e4, nI_pred]
  exact ⟨_, rfl, h⟩
