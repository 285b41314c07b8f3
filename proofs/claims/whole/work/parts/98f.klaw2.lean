/-! THE LAW: what stands behind a call -/
def kpB (B C : pM) : pM := (fun x => if x = pSCR then B.1 x else C.1 x, C.2)
def kpI (I J : pIm) : pIm := fun x y => if x = pSCR then I x y else J x y
theorem keep_pset {B C : pM} {I J : pIm} (h : (pK B pSCR).1 = 5) : keepM (pset B I) (pset C J) = pset (kpB B C) (kpI I J) := keep_yes (M := pset B I) (M1 := pset C J) h
theorem kpB_k {B C : pM} {a : Nat} (h : a ≠ pSCR) : pK (kpB B C) a = pK C a := if_neg h
theorem kpB_s {B C : pM} : pK (kpB B C) pSCR = pK B pSCR := by
  show (if pSCR = pSCR then B.1 pSCR else C.1 pSCR) = B.1 pSCR
  rw [if_pos rfl]
theorem kpB_n {B C : pM} : pN (kpB B C) = pN C := rfl
theorem kpB_p {B C : pM} {a : Nat} : pP (kpB B C) a = pP C a := rfl
theorem kpI_o {I J : pIm} {a : Nat} (h : a ≠ pSCR) : kpI I J a = J a := funext (fun _ => if_neg h)
theorem kpI_s {I J : pIm} : kpI I J pSCR = I pSCR := funext (fun _ => if_pos rfl)
theorem lt_scr {a : Nat} (h : a < pBIG) : a ≠ pSCR := fun z => absurd (z ▸ h) (by decide)
theorem kpB_ex {B C : pM} (h : pN C ≤ pBIG) : Ex C (kpB B C) := ⟨Nat.le_refl _, fun a ha => ⟨kpB_k (lt_scr (Nat.lt_of_lt_of_le ha h)), rfl, rfl⟩⟩
theorem kpI_fr {I J : pIm} : Fr pSCR (pSCR + 1) J (kpI I J) := fun x hx => kpI_o (by omega)
theorem mdS.k {C D : pM} {r td dr : Nat} (h : mdS C r td dr) (hk : ∀ a, a < r + 36 → pK D a = pK C a) (hP : ∀ a, r ≤ a → a < r + 36 → pP D a = pP C a) (hn : r + 36 ≤ pN D) : mdS D r td dr := by
  have hy := h.lay
  have ntd : td + 10 < r + 36 ∧ r ≤ td := by clear h hk hP hn; omega
  have ndr : dr + 10 < r + 36 ∧ r ≤ dr := by clear h hk hP hn; omega
  have mb : ∀ q, q + 10 < r + 36 ∧ r ≤ q → mbS C q → mbS D q := fun q hq hm => by
    have K : ∀ i, i < 11 → pK D (q + i) = pK C (q + i) := fun i hi => hk (q + i) (by omega)
    unfold mbS
    rw [show pK D q = pK C q from K 0 (by omega), K 1 (by omega), K 2 (by omega), K 3 (by omega), K 4 (by omega), K 5 (by omega), K 6 (by omega), K 7 (by omega), K 8 (by omega), K 9 (by omega), K 10 (by omega), hP q hq.2 (by omega)]
    exact hm
  have K : ∀ i, i < 36 → pK D (r + i) = pK C (r + i) := fun i hi => hk (r + i) (by omega)
  obtain ⟨k, ps, ss, ks, mt, md, ly, hN⟩ := h
  have mt' := mb td ntd mt
  have md' := mb dr ndr md
  unfold mdS
  rw [show pK D r = pK C r from K 0 (by decide), hP r (Nat.le_refl _) (by clear hk hP mb K; omega), K 1 (by decide), K 2 (by decide), K 3 (by decide), K 4 (by decide), K 5 (by decide), K 28 (by decide), K 29 (by decide), K 30 (by decide), K 31 (by decide), K 32 (by decide), K 33 (by decide), K 34 (by decide), K 35 (by decide)]
  exact ⟨k, ps, ss, ks, mt', md', ly, hn⟩
theorem modD.k {I J : pIm} {r td : Nat} {s : wS} (h : modD I r td s) (ht : td + 11 ≤ r + 36 ∧ r ≤ td) (f : ∀ x, r ≤ x → x < r + 36 → J x = I x) : modD J r td s := by
  obtain ⟨h1, h2, h3, h4⟩ := h
  exact ⟨h1.cg (by rw [f r (by omega) (by omega)]) (f _ (by omega) (by omega)), by rw [f r (by omega) (by omega)]; exact h2, h3.cg (fun x _ hx => f x (by omega) (by omega)), h4.cg (fun _ _ => by rw [f r (by omega) (by omega)]) (f _ (by omega) (by omega))⟩
/-- pad at p, reference at r, the place for an answer at q, and the script -/
def lawI (B : pM) (I : pIm) (p r q n : Nat) (sc : Nat → Int32) (s : wS) : Prop := (∃ td dr, padS B p td dr ∧ padD I p td dr s) ∧ (∃ td dr, mdS B r td dr ∧ modD I r td s) ∧ pK B q = (3, 1) ∧ pK B pSCR = (5, n) ∧ (∀ j, I pSCR j = sc j) ∧ (p + 1145 ≤ r ∧ r + 36 ≤ q ∧ q < pN B ∧ pN B ≤ pBIG)
/-- behind a call of the pad: the reference, the place and the script stand -/
theorem lawI.pad {B C : pM} {I J : pIm} {p r q n td dr : Nat} {sc : Nat → Int32} {s s' : wS} (h : lawI B I p r q n sc s) (hx : ExP p B C) (hn : pN C ≤ pN B + 1) (hb : pN C ≤ pBIG) (hs : padS C p td dr) (hd : padD J p td dr s') (hf : ∀ x, (x < p ∨ p + 1145 ≤ x) → x < pN B → J x = I x) : (padS (kpB B C) p td dr ∧ padD (kpI I J) p td dr s') ∧ (∃ td dr, mdS (kpB B C) r td dr ∧ modD (kpI I J) r td s) ∧ pK (kpB B C) q = (3, 1) ∧ pK (kpB B C) pSCR = (5, n) ∧ (∀ j, kpI I J pSCR j = sc j) ∧ (p + 1145 ≤ r ∧ r + 36 ≤ q ∧ q < pN (kpB B C) ∧ pN (kpB B C) ≤ pBIG) := by
  obtain ⟨-, ⟨td2, dr2, h1, h2⟩, h3, h4, h5, h6, h7, h8, h9⟩ := h
  have hle := hx.1
  have low : ∀ a, a < pN B → a ≠ pSCR := fun a ha => lt_scr (by omega)
  have nB : pN (kpB B C) = pN C := kpB_n
  have lay := h1.lay
  have ht : td2 + 11 ≤ r + 36 ∧ r ≤ td2 := by clear h1 h2 h3 h4; omega
  have i6 : ∀ x, r ≤ x → x < r + 36 → kpI I J x = I x := fun x hx1 hx2 => by rw [kpI_o (low x (by clear h1 h2 h3 h4; omega))]; exact hf x (Or.inr (by clear h1 h2 h3 h4; omega)) (by clear h1 h2 h3 h4; omega)
  have hp : p + 1145 ≤ pSCR := by
    have e : pBIG + 1000 = pSCR := by decide
    clear h1 h2 h3 h4
    omega
  have inB : ∀ a, a < r + 36 → a < pN B := fun a ha => by clear h1 h2 h3 h4; omega
  have nep : ∀ a, r ≤ a → a ≠ p := fun a ha => by clear h1 h2 h3 h4; omega
  have hq2 : q < pN C := by clear h1 h2 h3 h4; omega
  refine ⟨⟨hs.ex (kpB_ex hb), hd.f hs.2.2.2.2.2.2.2.2.2.1 kpI_fr (Or.inr hp)⟩, ⟨td2, dr2, mdS.k h1 (fun a ha => (kpB_k (low a (inB a ha))).trans (hx.2 a (inB a ha)).1) (fun a ha hb2 => kpB_p.trans ((hx.2 a (inB a hb2)).2.2 (nep a ha))) ?_, modD.k h2 ht i6⟩, ?_, ?_, ?_, h6, h7, hq2, hb⟩
  · show r + 36 ≤ pN C
    clear h1 h2 h3 h4
    omega
  · rw [kpB_k (low q h8), (hx.2 q h8).1]; exact h3
  · rw [kpB_s]; exact h4
  · intro j; rw [kpI_s]; exact h5 j
