/-! THE LAW: its loop, and its run -/
theorem law_step {d : Nat} (hd : 411 ≤ d) {Q : pR → pM → Prop} {B : pM} {I : pIm} {p r q n : Nat} {sc : Nat → Int32} {s : wS} {j c t : Nat} (hc : 1 ≤ c) (ht : 6 ≤ t) (hI : lawI B I p r q n sc s) (hb : pN B < pBIG) (hj : 6 * j + 6 ≤ n) (hn : n ≤ 3072) (hG : lwN d Q B p r q n sc (nI (6 * j)) c t) : Go d mL_law Q 23 ([some (.ref pSCR), some (.ref p), some (.ref r), some (.ref q), some (.int (nI (6 * j))), none, none, none, none], [], c, t) (pset B I) := by
  have h4 : pK (pset B I) pSCR = (5, n) := hI.2.2.2.1
  have v : ∀ m : Nat, m < 6 → vp_in (nI (6 * j) + nI m) n := fun m hm => by rw [nI_add]; exact vp_inN (by omega) (by omega)
  have v0 : vp_in (nI (6 * j)) n := vp_inN (by omega) (by omega)
  have hv : vp_in (nI (6 * j) + 1) n ∧ vp_in (nI (6 * j) + 2) n ∧ vp_in (nI (6 * j) + 3) n ∧ vp_in (nI (6 * j) + 4) n ∧ vp_in (nI (6 * j) + 5) n := ⟨v 1 (by decide), v 2 (by decide), v 3 (by decide), v 4 (by decide), v 5 (by decide)⟩
  have hlt : ¬ (Int32.ofNat n - 6 < nI (6 * j)) := fun g => by
    have g' : nI n - nI 6 < nI (6 * j) := g
    rw [nI_sub (by omega)] at g'
    have := (nI_ltI (by omega) (by omega)).mp g'
    omega
  exact kL_law_23 ⟨n, h4, fun g => absurd g hlt, fun _ => ⟨n, h4, v0, ⟨fun _ => br_feed hd hc ht hI hb hv hG, fun _ => ⟨fun _ => br_trim hd hc ht hI hb hv hG, fun _ => ⟨fun _ => br_teach hd hc ht hI hb hv hG, fun _ => ⟨fun _ => br_errorAt hd hc ht hI hb hv hG, fun _ => ⟨fun _ => br_count hd hc ht hI hb hv hG, fun _ => ⟨fun _ => br_type hd hc ht hI hb hv hG, fun _ => ⟨fun _ => br_back hd hc ht hI hb hv hG, fun _ => ⟨fun _ => br_take hd hc ht hI hb hv hG, fun _ => ⟨fun _ => br_say hd hc ht hI hb hv hG, fun _ => ⟨fun _ => br_setLimit hd hc ht hI hb hv hG, fun _ => ⟨fun _ => br_offer hd hc ht hI hb hv hG, fun _ => ⟨fun _ => br_word hd hc ht hI hb hv hG, fun _ => ⟨fun _ => br_letter hd hc ht hI hb hv hG, fun _ => ⟨fun _ => br_near hd hc ht hI hb hv hG, fun _ => ⟨fun _ => br_best hd hc ht hI hb hv hG, fun _ => ⟨fun _ => br_strokes hd hc ht hI hb hv hG, fun _ => ⟨fun _ => br_needs hd hc ht hI hb hv hG, fun _ => ⟨fun _ => br_closest hd hc ht hI hb hv hG, fun _ => ⟨fun _ => br_mean hd hc ht hI hb hv hG, fun _ => ⟨fun _ => br_digest hd hc ht hI hb hv hG, fun _ => hG B I s c t hI (Nat.le_succ _) (Nat.le_succ _) (Nat.le_add_right _ _)⟩⟩⟩⟩⟩⟩⟩⟩⟩⟩⟩⟩⟩⟩⟩⟩⟩⟩⟩⟩⟩⟩
theorem law_end {n j : Nat} (h : n < 6 * j + 6) (h2 : 6 * j ≤ n) (hn : n ≤ 3072) : Int32.ofNat n - 6 < nI (6 * j) := by
  by_cases c : 6 ≤ n
  · show nI n - nI 6 < nI (6 * j)
    rw [nI_sub c]
    exact (nI_ltI (by omega) (by omega)).mpr (by omega)
  · obtain rfl : j = 0 := by omega
    have e : ∀ k : Fin 6, Int32.ofNat k.val - 6 < nI (6 * 0) := by decide +kernel
    exact e ⟨n, by omega⟩
theorem law_loop {d : Nat} (hd : 411 ≤ d) {Q : pR → pM → Prop} (hQ : ∀ M, Q (.inl (some (.int 1))) M) {p r q n : Nat} {sc : Nat → Int32} (hn : n ≤ 3072) : ∀ (m j : Nat) (B : pM) (I : pIm) (s : wS) (c t : Nat), n < 6 * j + 6 + 6 * m → 6 * j ≤ n → m ≤ c → 6 * m ≤ t → pN B + m ≤ pBIG → lawI B I p r q n sc s → Go d mL_law Q 23 ([some (.ref pSCR), some (.ref p), some (.ref r), some (.ref q), some (.int (nI (6 * j))), none, none, none, none], [], c, t) (pset B I) := by
  intro m
  induction m with
  | zero =>
    intro j B I s c t h1 h2 h3 h4 h5 hI
    exact kL_law_23 ⟨n, hI.2.2.2.1, fun _ => hQ _, fun g => absurd (law_end (by omega) h2 hn) g⟩
  | succ m ih =>
    intro j B I s c t h1 h2 h3 h4 h5 hI
    by_cases g : 6 * j + 6 ≤ n
    · refine law_step hd (by omega) (by omega) hI (by omega) g hn (fun C J s' c' t' l k1 k2 k3 => kL_law_1099 ?_)
      rw [show nI (6 * j) + 6 = nI (6 * (j + 1)) from nI_add _ 6]
      exact ih (j + 1) C J s' c' t' (by omega) (by omega) (by omega) (by omega) (by omega) l
    · exact kL_law_23 ⟨n, hI.2.2.2.1, fun _ => hQ _, fun g2 => absurd (law_end (by omega) h2 hn) g2⟩
theorem Rk.lo {I J : pIm} {q m : Nat} {r : rK} (h : Rk I q r) (f : ∀ x, x < m → J x = I x) (hq : q + 9 ≤ m) : Rk J q r := by
  obtain ⟨h1, h2, h3, h4, h5, h6⟩ := h
  exact ⟨h1.lo f (by omega), h2.lo f (by omega), h3.lo f (by omega), h4.lo f (by omega), by rw [f q (by omega)]; exact h5, h6⟩
theorem padD.lo {I J : pIm} {p td dr m : Nat} {s : wS} (h : padD I p td dr s) (hlay : (td = p + 57 ∧ dr = p + 584) ∨ (td = p + 584 ∧ dr = p + 57)) (f : ∀ x, x < m → J x = I x) (hq : p + 1145 ≤ m) : padD J p td dr s := by
  obtain ⟨h1, h2, h3, h4, h5, ⟨b2, h6⟩, h7, h8, h9⟩ := h
  have e : J p = I p := f p (by omega)
  exact ⟨h1.lo f (by omega), h2, h3, by rw [e]; exact h4, h5.lo f (by omega), ⟨b2, h6.lo f (by omega)⟩, h7.lo f (by omega), h8.lo2 f (by omega), h9.elim (fun z => Or.inl (by rw [e]; exact z)) (fun z => Or.inr ⟨by rw [e]; exact z.1, z.2.lo f (by omega)⟩)⟩
def lwB (n : Nat) : pM := (fun x => if x = pSCR then (5, n) else (0, 0), fun _ _ => 0, fun _ _ => 0, fun _ _ => 0, 0)
def lwJ (sc : Nat → Int32) : pIm := fun x y => if x = pSCR then sc y else 0
/-- behind the reference's making -/
theorem law_run3 {d : Nat} (hd : 411 ≤ d) {Q : pR → pM → Prop} (hQ : ∀ M, Q (.inl (some (.int 1))) M) {n : Nat} {sc : Nat → Int32} (hn : n ≤ 3072) {c t : Nat} (hc : 513 ≤ c) (ht : 3078 ≤ t) {B : pM} {I : pIm} (b1 : pN B = 1181) (b2 : pK B pSCR = (5, n)) (b3 : ∀ j, I pSCR j = sc j) (b4 : padS B 0 57 584) (b5 : padD I 0 57 584 ([], -1, bK0, [], 0, -1, 4)) (b6 : mdS B 1145 1151 1162) (b7 : modD I 1145 1151 ([], -1, bK0, [], 0, -1, 4)) :
    Go d mL_law Q 23 ([some (.ref pSCR), some (.ref 0), some (.ref 1145), some (.ref (pN (pset B I))), some (.int 0), none, none, none, none], [], c, t) (pnew (pset B I) (3, (Int32.toNatClampNeg (1 : Int32)))) := by
  have e1 : Int32.toNatClampNeg (1 : Int32) = 1 := by decide
  rw [e1, pnew_pset, show pN (pset B I) = 1181 from b1]
  have hBIG : pBIG = 1073741824 := rfl
  have hk : ∀ a, a ≠ 1181 → pK (pnew B (3, 1)) a = pK B a := fun a ha => if_neg (by rw [show B.2.2.2.2 = 1181 from b1]; exact ha)
  have hJ : ∀ a, a ≠ 1181 → (fun x y => if x = pN B then 0 else I x y : pIm) a = I a := fun a ha => funext fun y => if_neg (by rw [b1]; exact ha)
  have hp : ∀ a, a ≠ 1181 → pP (pnew B (3, 1)) a = pP B a := fun a ha => funext fun y => if_neg (by rw [show B.2.2.2.2 = 1181 from b1]; exact ha)
  have hs : pSCR ≠ 1181 := by decide
  have nB : pN (pnew B (3, 1)) = 1182 := by show pN B + 1 = 1182; rw [b1]
  refine law_loop (sc := sc) hd hQ hn 512 0 _ _ ([], -1, bK0, [], 0, -1, 4) c t (by omega) (by omega) (by omega) (by omega) (by omega) ⟨⟨57, 584, b4.ex Ex.new, b5.lo b4.lay (m := 1145) (fun x hx => hJ x (by omega)) (by omega)⟩, ⟨1151, 1162, b6.k (fun a ha => hk a (by omega)) (fun a _ ha => hp a (by omega)) (by rw [nB]; omega), b7.k (by omega) (fun x _ hx => hJ x (by omega))⟩, ?_, ?_, ?_, by omega, by omega, by rw [nB]; omega, by rw [nB]; omega⟩
  · exact if_pos b1.symm
  · rw [hk _ hs]; exact b2
  · intro j
    rw [hJ _ hs]; exact b3 j
/-- behind the pad's making -/
theorem law_run2 {d : Nat} (hd : 411 ≤ d) {Q : pR → pM → Prop} (hQ : ∀ M, Q (.inl (some (.int 1))) M) {n : Nat} {sc : Nat → Int32} (hn : n ≤ 3072) {c t : Nat} (hc : 2000 ≤ c) (ht : 30000 ≤ t) {B : pM} {I : pIm} (b1 : pN B = 1145) (b2 : pK B pSCR = (5, n)) (b3 : ∀ j, I pSCR j = sc j) (b4 : padS B 0 57 584) (b5 : padD I 0 57 584 ([], -1, bK0, [], 0, -1, 4)) :
    pCall_v d mX13_init (35, 11631) [.ref (pN (pset B I))] (pnew (pset B I) (1, 13)) (fun M2 => ¬ (1 : Int32) < 0 ∧ (Int32.toNatClampNeg (1 : Int32)) ≤ 1000000 ∧ 1 ≤ ((((c - 1) - 1144) - 1) - 35) ∧ (Int32.toNatClampNeg (1 : Int32)) ≤ ((((t - 10) - 13916) - 28) - 11631) ∧ pN (keepM (pnew (pset B I) (1, 13)) M2) < pBIG ∧ Go d mL_law Q 23 ([some (.ref pSCR), some (.ref 0), some (.ref (pN (pset B I))), some (.ref (pN (keepM (pnew (pset B I) (1, 13)) M2))), some (.int 0), none, none, none, none], [], (((((c - 1) - 1144) - 1) - 35) - 1), (((((t - 10) - 13916) - 28) - 11631) - (Int32.toNatClampNeg (1 : Int32)))) (pnew (keepM (pnew (pset B I) (1, 13)) M2) (3, (Int32.toNatClampNeg (1 : Int32))))) := by
  have e1 : Int32.toNatClampNeg (1 : Int32) = 1 := by decide
  have hBIG : pBIG = 1073741824 := rfl
  have hs : pSCR ≠ 1145 := by decide
  rw [pnew_pset, show pN (pset B I) = 1145 from b1]
  have hk : ∀ a, a ≠ 1145 → pK (pnew B (1, 13)) a = pK B a := fun a ha => if_neg (by rw [show B.2.2.2.2 = 1145 from b1]; exact ha)
  have hJ : ∀ a, a ≠ 1145 → (fun x y => if x = pN B then 0 else I x y : pIm) a = I a := fun a ha => funext fun y => if_neg (by rw [b1]; exact ha)
  have h5 : (pK (pnew B (1, 13)) pSCR).1 = 5 := by rw [hk _ hs, b2]
  refine c_mInit (q := 1145) (by omega) (if_pos b1.symm) (by show pN B + 1 = _; rw [b1]) (by omega) (fun f => if_pos b1.symm) (fun C J a1 a2 a3 a4 a5 a6 => ?_)
  rw [keep_pset h5]
  have hCB : pN C ≤ pBIG := by omega
  have nk : pN (kpB (pnew B (1, 13)) C) = 1181 := a2
  have sB : Ex B C := ⟨by omega, fun a ha => ⟨(a1 a (by omega)).1.trans (hk a (by omega)), (a1 a (by omega)).2.1.trans (funext fun y => if_neg (by rw [show B.2.2.2.2 = 1145 from b1]; omega)), (a1 a (by omega)).2.2.trans (funext fun y => if_neg (by rw [show B.2.2.2.2 = 1145 from b1]; omega))⟩⟩
  have lJ : ∀ x, x < 1145 → kpI (fun x y => if x = pN B then 0 else I x y : pIm) J x = I x := fun x hx => by
    rw [kpI_o (lt_scr (by omega)), a6 x hx]
    exact hJ x (by omega)
  refine ⟨by decide, by rw [e1]; decide, by omega, by rw [e1]; omega, by show pN (kpB (pnew B (1, 13)) C) < pBIG; rw [nk]; omega, ?_⟩
  refine law_run3 (sc := sc) hd hQ hn (by omega) (by rw [e1]; omega) nk ?_ ?_ ((b4.ex sB).ex (kpB_ex hCB)) (b5.lo b4.lay lJ (by omega)) ?_ ?_
  · rw [kpB_s, hk _ hs]; exact b2
  · intro j
    rw [kpI_s, if_neg (by rw [b1]; exact hs)]; exact b3 j
  · exact a3.k (fun a ha => kpB_k (lt_scr (by omega))) (fun _ _ _ => kpB_p) (by rw [nk]; omega)
  · exact a4.k (by omega) (fun x _ hx => kpI_o (lt_scr (by omega)))
theorem law_run {d : Nat} (hd : 411 ≤ d) {Q : pR → pM → Prop} (hQ : ∀ M, Q (.inl (some (.int 1))) M) {n : Nat} {sc : Nat → Int32} (hn : n ≤ 3072) {c t : Nat} (hc : 3000 ≤ c) (ht : 50000 ≤ t) : Go d mL_law Q 0 ([some (.ref pSCR), none, none, none, none, none, none, none, none], [], c, t) (pset (lwB n) (lwJ sc)) := by
  have hBIG : pBIG = 1073741824 := rfl
  have hs : pSCR ≠ 0 := by decide
  refine kL_law_0 ⟨by omega, by omega, by show 0 < pBIG; decide, (1144, 13916), by show 1144 ≤ c - 1; omega, by show 13916 ≤ t - 10; omega, ?_⟩
  rw [pnew_pset]
  have h5 : pK (pnew (lwB n) (1, 11)) pSCR = (5, n) := by
    show (if pSCR = 0 then ((1, 11) : Nat × Nat) else (if pSCR = pSCR then (5, n) else (0, 0))) = (5, n)
    rw [if_neg hs, if_pos rfl]
  have h0 : pK (pnew (lwB n) (1, 11)) 0 = (1, 11) := by
    show (if 0 = 0 then ((1, 11) : Nat × Nat) else (if 0 = pSCR then (5, n) else (0, 0))) = (1, 11)
    rw [if_pos rfl]
  refine c_padInit (q := 0) (by omega) h0 rfl (by omega) (fun C J a1 a2 a3 a4 a5 => ?_)
  rw [keep_pset (by rw [h5])]
  have hCB : pN C ≤ pBIG := by omega
  have nk : pN (kpB (pnew (lwB n) (1, 11)) C) = 1145 := a2
  refine ⟨by show 1 ≤ (c - 1) - 1144; omega, by show 28 ≤ (t - 10) - 13916; omega, by show pN (kpB (pnew (lwB n) (1, 11)) C) < pBIG; rw [nk]; omega, (35, 11631), by show 35 ≤ ((c - 1) - 1144) - 1; omega, by show 11631 ≤ ((t - 10) - 13916) - 28; omega, ?_⟩
  refine law_run2 (sc := sc) hd hQ hn (c := c) (t := t) (by omega) (by omega) nk ?_ ?_ (a3.ex (kpB_ex hCB)) (a4.f a3.lay (lo := pSCR) (hi := pSCR + 1) kpI_fr (Or.inr ?_))
  · rw [kpB_s]; exact h5
  · intro j
    rw [kpI_s]
    show (if pSCR = 0 then (0 : Int32) else (if pSCR = pSCR then sc j else 0)) = sc j
    rw [if_neg hs, if_pos rfl]
  · decide
