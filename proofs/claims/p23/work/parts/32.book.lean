/-! BOOSTS AND BOOK -/
theorem c_removeLast2 {d : Nat} (hd : 1 ≤ d) {B : pM} {I : pIm} {q n : Nat} {l : List Int32} {K : Int32 → pM → Prop} (hq : rowS B q n) (hn : l.length ≤ n) (hl : Rw I q l) (h : ∀ J : pIm, Rw J q l.dropLast → Fr q (q + 1) I J → K (l.getLastD 0) (pset B J)) : pCall_i d mX9_removeLast (0, 0) [.ref q] (pset B I) K := by
  rcases List.eq_nil_or_concat l with e | ⟨l0, x, e⟩
  · subst e
    refine CP_go hd okX9_removeLast (Nat.le_of_ble_eq_true rfl) ?_
    have e1 : pI (pset B I) q 1 = 0 := by
      have h1 : pI (pset B I) q 1 = nI 0 := hl.1
      rw [h1]; exact nI_0
    refine bX9_removeLast_0 ⟨hq.1, fun g => ⟨_, rfl, h I hl Fr.rf⟩, fun g => absurd e1 g⟩
  · subst e
    rw [List.concat_eq_append] at *
    refine c_removeLast hd hq (by simp at hn; omega) hl (fun J h1 h2 => ?_)
    have := h J (by rw [List.dropLast_concat]; exact h1) h2
    rw [List.getLastD_concat] at this
    exact this
/-- boosts: tags, where sums begin, where tests begin, where they end, kinds, values, names behind begins -/
abbrev bB : Type := List Int32 × List Int32 × List Int32 × List Int32 × List Int32 × List Int32 × List (List Int32)
def boostsS (B : pM) (q : Nat) : Prop := pK B q = (1, 1) ∧ (pP B q 0 = (q + 1) + 1 ∧ pP B q 1 = (q + 3) + 1 ∧ pP B q 2 = (q + 5) + 1 ∧ pP B q 3 = (q + 7) + 1 ∧ pP B q 4 = (q + 9) + 1 ∧ pP B q 5 = (q + 11) + 1 ∧ pP B q 6 = (q + 13) + 1) ∧ rowS B (q + 1) 12 ∧ rowS B (q + 3) 12 ∧ rowS B (q + 5) 12 ∧ rowS B (q + 7) 12 ∧ rowS B (q + 9) 400 ∧ rowS B (q + 11) 400 ∧ namesS B (q + 13) 200
def Bo (I : pIm) (q : Nat) (b : bB) : Prop := Rw I (q + 1) b.1 ∧ Rw I (q + 3) b.2.1 ∧ Rw I (q + 5) b.2.2.1 ∧ Rw I (q + 7) b.2.2.2.1 ∧ Rw I (q + 9) b.2.2.2.2.1 ∧ Rw I (q + 11) b.2.2.2.2.2.1 ∧ Nm I (q + 13) 200 b.2.2.2.2.2.2 ∧ (b.1.length ≤ 12 ∧ b.2.1.length ≤ 12 ∧ b.2.2.1.length ≤ 12 ∧ b.2.2.2.1.length ≤ 12 ∧ b.2.2.2.2.1.length ≤ 400 ∧ b.2.2.2.2.2.1.length ≤ 400)
theorem Bo.f {I J : pIm} {q lo hi : Nat} {b : bB} (h : Bo I q b) (hf : Fr lo hi I J) (hq : hi ≤ q ∨ q + 417 ≤ lo) : Bo J q b := by
  obtain ⟨h1, h2, h3, h4, h5, h6, h7, h8⟩ := h
  exact ⟨h1.f hf (by omega), h2.f hf (by omega), h3.f hf (by omega), h4.f hf (by omega), h5.f hf (by omega), h6.f hf (by omega), h7.f hf (by omega), h8⟩
theorem c_bclear {d : Nat} (hd : 2 ≤ d) {B : pM} {I : pIm} {q : Nat} {b : bB} {K : pM → Prop} (hq : boostsS B q) (hl : Bo I q b) (h : ∀ J : pIm, Bo J q ([], [], [], [], [], [], []) → Fr q (q + 417) I J → K (pset B J)) : pCall_v d mX1_clear (0, 0) [.ref q] (pset B I) K := by
  refine CP_go (by omega) okX1_clear (Nat.le_of_ble_eq_true rfl) ?_
  obtain ⟨q0, ⟨p0, p1, p2, p3, p4, p5, p6⟩, r1, r2, r3, r4, r5, r6, r7⟩ := hq
  obtain ⟨l1, l2, l3, l4, l5, l6, l7, l8⟩ := hl
  refine bX1_clear_0 ⟨q0, q + 1, p0, r1.1, c_clear (by omega) r1 (fun J1 h1 f1 => ⟨q0, q + 3, p1, r2.1, c_clear (by omega) r2 (fun J2 h2 f2 => ⟨q0, q + 5, p2, r3.1, c_clear (by omega) r3 (fun J3 h3 f3 => ⟨q0, q + 7, p3, r4.1, c_clear (by omega) r4 (fun J4 h4 f4 => ⟨q0, q + 9, p4, r5.1, c_clear (by omega) r5 (fun J5 h5 f5 => ⟨q0, q + 11, p5, r6.1, c_clear (by omega) r6 (fun J6 h6 f6 => ⟨q0, q + 13, p6, r7.1, ?_⟩)⟩)⟩)⟩)⟩)⟩)⟩
  have F : Fr q (q + 13) I J6 := (((((f1.mono (by omega) (by omega)).tr (f2.mono (by omega) (by omega))).tr (f3.mono (by omega) (by omega))).tr (f4.mono (by omega) (by omega))).tr (f5.mono (by omega) (by omega))).tr (f6.mono (by omega) (by omega))
  refine c_nclear (by omega) r7 (l7.2.2.1.f F (by omega)) (fun J7 h7 f7 => ⟨rfl, ?_⟩)
  refine h J7 ⟨((((((h1.f f2 (by omega)).f f3 (by omega)).f f4 (by omega)).f f5 (by omega)).f f6 (by omega)).f f7 (by omega)), (((((h2.f f3 (by omega)).f f4 (by omega)).f f5 (by omega)).f f6 (by omega)).f f7 (by omega)), ((((h3.f f4 (by omega)).f f5 (by omega)).f f6 (by omega)).f f7 (by omega)), (((h4.f f5 (by omega)).f f6 (by omega)).f f7 (by omega)), ((h5.f f6 (by omega)).f f7 (by omega)), (h6.f f7 (by omega)), h7, by simp⟩ ((F.mono (by omega) (by omega)).tr (f7.mono (by omega) (by omega)))
theorem c_bsize {d : Nat} (hd : 2 ≤ d) {B : pM} {I : pIm} {q : Nat} {b : bB} {K : Int32 → pM → Prop} (hq : boostsS B q) (hl : Bo I q b) (h : K (nI b.1.length) (pset B I)) : pCall_i d mX1_size (0, 0) [.ref q] (pset B I) K := by
  refine CP_go (by omega) okX1_size (Nat.le_of_ble_eq_true rfl) ?_
  obtain ⟨q0, ⟨p0, -⟩, r1, -⟩ := hq
  exact bX1_size_0 ⟨q0, q + 1, p0, r1.1, c_size (by omega) r1 hl.1 ⟨_, rfl, h⟩⟩
def pushL (n : Nat) (l : List Int32) (v : Int32) : List Int32 := if l.length < n then l ++ [v] else l
theorem pushL_len {n : Nat} {l : List Int32} {v : Int32} (h : l.length ≤ n) : (pushL n l v).length ≤ n := by
  unfold pushL
  split
  · simp; omega
  · exact h
theorem c_startSum {d : Nat} (hd : 2 ≤ d) {B : pM} {I : pIm} {q : Nat} {b : bB} {K : pM → Prop} (hq : boostsS B q) (hl : Bo I q b) (h : ∀ J : pIm, Bo J q (b.1, pushL 12 b.2.1 (nI b.2.2.2.2.1.length), b.2.2) → Fr q (q + 417) I J → K (pset B J)) : pCall_v d mX1_startSum (0, 0) [.ref q] (pset B I) K := by
  refine CP_go (by omega) okX1_startSum (Nat.le_of_ble_eq_true rfl) ?_
  obtain ⟨q0, ⟨p0, p1, p2, p3, p4, p5, p6⟩, r1, r2, r3, r4, r5, r6, r7⟩ := hq
  obtain ⟨l1, l2, l3, l4, l5, l6, l7, l8⟩ := hl
  refine bX1_startSum_0 ⟨q0, q + 3, p1, q0, q + 9, p4, r5.1, c_size (by omega) r5 l5 ⟨r2.1, c_add (by omega) r2 (by omega) l2 (fun J h1 f1 => ⟨rfl, ?_⟩)⟩⟩
  exact h J ⟨l1.f f1 (by omega), h1, l3.f f1 (by omega), l4.f f1 (by omega), l5.f f1 (by omega), l6.f f1 (by omega), l7.f f1 (by omega), ⟨l8.1, pushL_len l8.2.1, l8.2.2⟩⟩ (f1.mono (by omega) (by omega))
theorem c_startTest {d : Nat} (hd : 2 ≤ d) {B : pM} {I : pIm} {q : Nat} {b : bB} {K : pM → Prop} (hq : boostsS B q) (hl : Bo I q b) (h : ∀ J : pIm, Bo J q (b.1, b.2.1, pushL 12 b.2.2.1 (nI b.2.2.2.2.1.length), b.2.2.2) → Fr q (q + 417) I J → K (pset B J)) : pCall_v d mX1_startTest (0, 0) [.ref q] (pset B I) K := by
  refine CP_go (by omega) okX1_startTest (Nat.le_of_ble_eq_true rfl) ?_
  obtain ⟨q0, ⟨p0, p1, p2, p3, p4, p5, p6⟩, r1, r2, r3, r4, r5, r6, r7⟩ := hq
  obtain ⟨l1, l2, l3, l4, l5, l6, l7, l8⟩ := hl
  refine bX1_startTest_0 ⟨q0, q + 5, p2, q0, q + 9, p4, r5.1, c_size (by omega) r5 l5 ⟨r3.1, c_add (by omega) r3 (by omega) l3 (fun J h1 f1 => ⟨rfl, ?_⟩)⟩⟩
  exact h J ⟨l1.f f1 (by omega), l2.f f1 (by omega), h1, l4.f f1 (by omega), l5.f f1 (by omega), l6.f f1 (by omega), l7.f f1 (by omega), ⟨l8.1, l8.2.1, pushL_len l8.2.2.1, l8.2.2.2⟩⟩ (f1.mono (by omega) (by omega))
theorem c_bend {d : Nat} (hd : 2 ≤ d) {B : pM} {I : pIm} {q : Nat} {b : bB} {K : pM → Prop} (hq : boostsS B q) (hl : Bo I q b) (h : ∀ J : pIm, Bo J q (b.1, b.2.1, b.2.2.1, pushL 12 b.2.2.2.1 (nI b.2.2.2.2.1.length), b.2.2.2.2) → Fr q (q + 417) I J → K (pset B J)) : pCall_v d mX1_end (0, 0) [.ref q] (pset B I) K := by
  refine CP_go (by omega) okX1_end (Nat.le_of_ble_eq_true rfl) ?_
  obtain ⟨q0, ⟨p0, p1, p2, p3, p4, p5, p6⟩, r1, r2, r3, r4, r5, r6, r7⟩ := hq
  obtain ⟨l1, l2, l3, l4, l5, l6, l7, l8⟩ := hl
  refine bX1_end_0 ⟨q0, q + 7, p3, q0, q + 9, p4, r5.1, c_size (by omega) r5 l5 ⟨r4.1, c_add (by omega) r4 (by omega) l4 (fun J h1 f1 => ⟨rfl, ?_⟩)⟩⟩
  exact h J ⟨l1.f f1 (by omega), l2.f f1 (by omega), l3.f f1 (by omega), h1, l5.f f1 (by omega), l6.f f1 (by omega), l7.f f1 (by omega), ⟨l8.1, l8.2.1, l8.2.2.1, pushL_len l8.2.2.2.1, l8.2.2.2.2⟩⟩ (f1.mono (by omega) (by omega))
theorem c_addStep {d : Nat} (hd : 2 ≤ d) {B : pM} {I : pIm} {q : Nat} {b : bB} {k v : Int32} {K : pM → Prop} (hq : boostsS B q) (hl : Bo I q b) (h : ∀ J : pIm, Bo J q (b.1, b.2.1, b.2.2.1, b.2.2.2.1, pushL 400 b.2.2.2.2.1 k, pushL 400 b.2.2.2.2.2.1 v, b.2.2.2.2.2.2) → Fr q (q + 417) I J → K (pset B J)) : pCall_v d mX1_addStep (0, 0) [.ref q, .int k, .int v] (pset B I) K := by
  refine CP_go (by omega) okX1_addStep (Nat.le_of_ble_eq_true rfl) ?_
  obtain ⟨q0, ⟨p0, p1, p2, p3, p4, p5, p6⟩, r1, r2, r3, r4, r5, r6, r7⟩ := hq
  obtain ⟨l1, l2, l3, l4, l5, l6, l7, l8⟩ := hl
  refine bX1_addStep_0 ⟨q0, q + 9, p4, r5.1, c_add (by omega) r5 (by omega) l5 (fun J h1 f1 => ⟨q0, q + 11, p5, r6.1, c_add (by omega) r6 (by omega) (l6.f f1 (by omega)) (fun J2 h2 f2 => ⟨rfl, ?_⟩)⟩)⟩
  have F := (f1.mono (show q + 9 ≤ q + 9 by omega) (show q + 9 + 2 ≤ q + 13 by omega)).tr (f2.mono (by omega) (by omega))
  exact h J2 ⟨l1.f F (by omega), l2.f F (by omega), l3.f F (by omega), l4.f F (by omega), h1.f f2 (by omega), h2, l7.f F (by omega), ⟨l8.1, l8.2.1, l8.2.2.1, l8.2.2.2.1, pushL_len l8.2.2.2.2.1, pushL_len l8.2.2.2.2.2⟩⟩ (F.mono (by omega) (by omega))
/-- what a step's value becomes behind link -/
def lnk (me : List Int32) (k v : Int32) : Int32 := if k = 2 ∨ k = 12 ∨ k = 13 then rat me v else v
def lnkL (me ki : List Int32) (va : List Int32) : Nat → List Int32
  | 0 => va
  | k + 1 => if rat ki (nI k) = 2 ∨ rat ki (nI k) = 12 ∨ rat ki (nI k) = 13 then rput (lnkL me ki va k) (nI k) (rat me (rat (lnkL me ki va k) (nI k))) else lnkL me ki va k
theorem lnkL_len {me ki va : List Int32} {k : Nat} : (lnkL me ki va k).length = va.length := by
  induction k with
  | zero => rfl
  | succ k ih => unfold lnkL; split
                 · rw [rput_len, ih]
                 · exact ih
theorem c_link {d : Nat} (hd : 2 ≤ d) {B : pM} {I : pIm} {q q' n' : Nat} {b : bB} {me : List Int32} {K : pM → Prop} (hq : boostsS B q) (hl : Bo I q b) (hq' : rowS B q' n') (hn' : me.length ≤ n') (hne : q' + 1 < q ∨ q + 417 ≤ q') (hl' : Rw I q' me)
    (h : ∀ J : pIm, Bo J q (b.1, b.2.1, b.2.2.1, b.2.2.2.1, b.2.2.2.2.1, lnkL me b.2.2.2.2.1 b.2.2.2.2.2.1 b.2.2.2.2.1.length, b.2.2.2.2.2.2) → Fr q (q + 417) I J → K (pset B J)) : pCall_v d mX1_link (0, 0) [.ref q, .ref q'] (pset B I) K := by
  refine CP_go (by omega) okX1_link (Nat.le_of_ble_eq_true rfl) ?_
  obtain ⟨q0, ⟨p0, p1, p2, p3, p4, p5, p6⟩, r1, r2, r3, r4, r5, r6, r7⟩ := hq
  have key : ∀ (m k : Nat) (J : pIm), b.2.2.2.2.1.length - k = m → k ≤ b.2.2.2.2.1.length → Bo J q (b.1, b.2.1, b.2.2.1, b.2.2.2.1, b.2.2.2.2.1, lnkL me b.2.2.2.2.1 b.2.2.2.2.2.1 k, b.2.2.2.2.2.2) → Fr q (q + 417) I J → Go (d - 1) mX1_link (fun r M1 => r = .inl none ∧ K M1) 2 ([some (.ref q), some (.ref q'), some (.int (nI k)), none], [], 0, 0) (pset B J) := by
    intro m
    induction m with
    | zero =>
      intro k J hm hk hJ hf
      obtain ⟨l1, l2, l3, l4, l5, l6, l7, l8⟩ := id hJ
      refine bX1_link_2 ⟨q0, q + 9, p4, r5.1, c_size (by omega) r5 l5 ⟨fun g => ⟨rfl, ?_⟩, fun g => absurd (nI_le (show b.2.2.2.2.1.length ≤ k by omega) (by have hb : b.2.2.2.2.1.length ≤ 400 := l8.2.2.2.2.1; omega)) g⟩⟩
      have e : k = b.2.2.2.2.1.length := by omega
      subst e
      exact h J hJ hf
    | succ m ih =>
      intro k J hm hk hJ hf
      obtain ⟨l1, l2, l3, l4, l5, l6, l7, l8⟩ := id hJ
      have hb : b.2.2.2.2.1.length ≤ 400 := l8.2.2.2.2.1
      have hlt : k < b.2.2.2.2.1.length := by omega
      have next : ∀ J2, Bo J2 q (b.1, b.2.1, b.2.2.1, b.2.2.2.1, b.2.2.2.2.1, lnkL me b.2.2.2.2.1 b.2.2.2.2.2.1 (k + 1), b.2.2.2.2.2.2) → Fr q (q + 417) I J2 → Go (d - 1) mX1_link (fun r M1 => r = .inl none ∧ K M1) 59 ([some (.ref q), some (.ref q'), some (.int (nI k)), none], [], 0, 0) (pset B J2) := by
        intro J2 h2 f2
        refine bX1_link_59 ?_
        rw [nI_1]
        exact ih (k + 1) J2 (by omega) (by omega) h2 f2
      have put : (rat b.2.2.2.2.1 (nI k) = 2 ∨ rat b.2.2.2.2.1 (nI k) = 12 ∨ rat b.2.2.2.2.1 (nI k) = 13) → Go (d - 1) mX1_link (fun r M1 => r = .inl none ∧ K M1) 39 ([some (.ref q), some (.ref q'), some (.int (nI k)), none], [], 0, 0) (pset B J) := by
        intro hc
        have h8 := l8.2.2.2.2.2
        dsimp only at h8
        refine bX1_link_39 ⟨q0, q + 11, p5, q0, q + 11, p5, r6.1, c_at (by omega) r6 h8 l6 ⟨hq'.1, c_at (by omega) hq' hn' (hl'.f hf (by omega)) ⟨r6.1, c_put (by omega) r6 h8 l6 (fun J2 h2 f2 => ?_)⟩⟩⟩
        refine next J2 ⟨l1.f f2 (by omega), l2.f f2 (by omega), l3.f f2 (by omega), l4.f f2 (by omega), l5.f f2 (by omega), ?_, l7.f f2 (by omega), l8.1, l8.2.1, l8.2.2.1, l8.2.2.2.1, l8.2.2.2.2.1, ?_⟩ (hf.tr (f2.mono (by omega) (by omega)))
        · show Rw J2 (q + 11) (lnkL me b.2.2.2.2.1 b.2.2.2.2.2.1 (k + 1))
          rw [lnkL, if_pos hc]
          exact h2
        · show (lnkL me b.2.2.2.2.1 b.2.2.2.2.2.1 (k + 1)).length ≤ 400
          rw [lnkL_len]; rw [lnkL_len] at h8; exact h8
      refine bX1_link_2 ⟨q0, q + 9, p4, r5.1, c_size (by omega) r5 l5 ⟨fun g => absurd ((nI_leI (by omega) (by omega)).mp (show nI b.2.2.2.2.1.length ≤ nI k from g)) (by omega), fun g => ⟨q0, q + 9, p4, r5.1, c_at (by omega) r5 hb l5 ⟨fun g2 => put (Or.inl g2), fun g2 => ⟨fun g3 => put (Or.inr (Or.inl g3)), fun g3 => ⟨fun g4 => put (Or.inr (Or.inr g4)), fun g4 => ?_⟩⟩⟩⟩⟩⟩
      refine next J ?_ hf
      rw [lnkL, if_neg (fun z => z.elim g2 (fun z => z.elim g3 g4))]
      exact hJ
  refine bX1_link_0 ?_
  exact key _ 0 I rfl (by omega) hl Fr.rf
/-- a book: tags, words, weights, tag of each word, keys, boosts -/
abbrev bK : Type := List (List Int32) × List (List Int32) × List Int32 × List Int32 × (List Int32 × List Int32 × Int32) × bB
def bookS (B : pM) (q : Nat) : Prop := pK B q = (1, 0) ∧ (pP B q 0 = (q + 1) + 1 ∧ pP B q 1 = (q + 17) + 1 ∧ pP B q 2 = (q + 101) + 1 ∧ pP B q 3 = (q + 103) + 1 ∧ pP B q 4 = (q + 105) + 1 ∧ pP B q 5 = (q + 110) + 1) ∧ namesS B (q + 1) 6 ∧ namesS B (q + 17) 40 ∧ rowS B (q + 101) 40 ∧ rowS B (q + 103) 40 ∧ keysS B (q + 105) ∧ boostsS B (q + 110)
def Bk (I : pIm) (q : Nat) (b : bK) : Prop := Nm I (q + 1) 6 b.1 ∧ Nm I (q + 17) 40 b.2.1 ∧ Rw I (q + 101) b.2.2.1 ∧ Rw I (q + 103) b.2.2.2.1 ∧ Kv I (q + 105) b.2.2.2.2.1.1 b.2.2.2.2.1.2.1 b.2.2.2.2.1.2.2 ∧ Bo I (q + 110) b.2.2.2.2.2 ∧ b.2.2.1.length ≤ 40 ∧ b.2.2.2.1.length ≤ 40
theorem Bk.f {I J : pIm} {q lo hi : Nat} {b : bK} (h : Bk I q b) (hf : Fr lo hi I J) (hq : hi ≤ q ∨ q + 527 ≤ lo) : Bk J q b := by
  obtain ⟨h1, h2, h3, h4, h5, h6, h7, h8⟩ := h
  exact ⟨h1.f hf (by omega), h2.f hf (by omega), h3.f hf (by omega), h4.f hf (by omega), h5.f hf (by omega), h6.f hf (by omega), h7, h8⟩
def bK0 : bK := ([], [], [], [], (List.replicate 128 (-1), List.replicate 128 (-1), 0), ([], [], [], [], [], [], []))
theorem c_kclr {d : Nat} (hd : 4 ≤ d) {B : pM} {I : pIm} {q : Nat} {b : bK} {K : pM → Prop} (hq : bookS B q) (hl : Bk I q b) (h : ∀ J : pIm, Bk J q bK0 → Fr q (q + 527) I J → K (pset B J)) : pCall_v d mX0_clear (0, 0) [.ref q] (pset B I) K := by
  refine CP_go (by omega) okX0_clear (Nat.le_of_ble_eq_true rfl) ?_
  obtain ⟨q0, ⟨p0, p1, p2, p3, p4, p5⟩, r1, r2, r3, r4, r5, r6⟩ := hq
  obtain ⟨l1, l2, l3, l4, l5, l6, l7, l8⟩ := hl
  refine bX0_clear_0 ⟨q0, q + 1, p0, r1.1, c_nclear (by omega) r1 l1.2.2.1 (fun J1 h1 f1 => ⟨q0, q + 17, p1, r2.1, c_nclear (by omega) r2 (l2.2.2.1.f f1 (by omega)) (fun J2 h2 f2 => ⟨q0, q + 101, p2, r3.1, c_clear (by omega) r3 (fun J3 h3 f3 => ⟨q0, q + 103, p3, r4.1, c_clear (by omega) r4 (fun J4 h4 f4 => ⟨q0, q + 105, p4, r5.1, c_kclear (by omega) r5 (fun J5 h5 f5 => ⟨q0, q + 110, p5, r6.1, ?_⟩)⟩)⟩)⟩)⟩)⟩
  have F : Fr q (q + 110) I J5 := ((((f1.mono (by omega) (by omega)).tr (f2.mono (by omega) (by omega))).tr (f3.mono (by omega) (by omega))).tr (f4.mono (by omega) (by omega))).tr (f5.mono (by omega) (by omega))
  refine c_bclear (by omega) r6 (l6.f F (by omega)) (fun J6 h6 f6 => ⟨rfl, ?_⟩)
  exact h J6 ⟨((((h1.f f2 (by omega)).f f3 (by omega)).f f4 (by omega)).f f5 (by omega)).f f6 (by omega), (((h2.f f3 (by omega)).f f4 (by omega)).f f5 (by omega)).f f6 (by omega), ((h3.f f4 (by omega)).f f5 (by omega)).f f6 (by omega), (h4.f f5 (by omega)).f f6 (by omega), h5.f f6 (by omega), h6, by simp [bK0], by simp [bK0]⟩ ((F.mono (by omega) (by omega)).tr (f6.mono (by omega) (by omega)))
def inW (n : Nat) (w : Int32) : Int32 := if w < 0 then 0 else if nI n ≤ w then 0 else 1
theorem c_hasWord {d : Nat} (hd : 2 ≤ d) {B : pM} {I : pIm} {q : Nat} {b : bK} {w : Int32} {K : Int32 → pM → Prop} (hq : bookS B q) (hl : Bk I q b) (h : K (inW b.2.1.length w) (pset B I)) : pCall_i d mX0_hasWord (0, 0) [.ref q, .int w] (pset B I) K := by
  refine CP_go (by omega) okX0_hasWord (Nat.le_of_ble_eq_true rfl) ?_
  obtain ⟨q0, ⟨p0, p1, p2, p3, p4, p5⟩, r1, r2, r3, r4, r5, r6⟩ := hq
  unfold inW at h
  refine bX0_hasWord_0 ⟨fun g => ⟨_, rfl, by rw [if_pos g] at h; exact h⟩, fun g => ⟨q0, q + 17, p1, r2.1, c_nsize (by omega) r2 hl.2.1 ?_⟩⟩
  rw [if_neg g] at h
  exact ⟨fun g2 => ⟨_, rfl, by rw [if_pos g2] at h; exact h⟩, fun g2 => ⟨_, rfl, by rw [if_neg g2] at h; exact h⟩⟩
/-- addWord(name) -/
theorem c_addWord {d : Nat} (hd : 4 ≤ d) {B : pM} {I : pIm} {q q' n' : Nat} {b : bK} {l : List Int32} {K : Int32 → pM → Prop} (hq : bookS B q) (hl : Bk I q b) (hq' : rowS B q' n') (hn' : l.length ≤ n') (h10 : l.length ≤ 10) (hne : q' + 1 < q ∨ q + 527 ≤ q') (hl' : Rw I q' l)
    (h1 : b.2.1.length < 40 → ∀ J, Bk J q (b.1, b.2.1 ++ [l], pushL 40 b.2.2.1 0, pushL 40 b.2.2.2.1 (-1), b.2.2.2.2) → Fr q (q + 527) I J → K (nI b.2.1.length) (pset B J)) (h2 : b.2.1.length = 40 → ∀ J b2, Bk J q b2 → Fr q (q + 527) I J → K (-1) (pset B J)) : pCall_i d mX0_addWord (0, 0) [.ref q, .ref q'] (pset B I) K := by
  refine CP_go (by omega) okX0_addWord (Nat.le_of_ble_eq_true rfl) ?_
  obtain ⟨q0, ⟨p0, p1, p2, p3, p4, p5⟩, r1, r2, r3, r4, r5, r6⟩ := hq
  obtain ⟨l1, l2, l3, l4, l5, l6, l7, l8⟩ := hl
  refine bX0_addWord_0 ⟨q0, q + 101, p2, r3.1, c_add (by omega) r3 l7 l3 (fun J1 k1 f1 => ⟨q0, q + 103, p3, r4.1, c_add (by omega) r4 l8 (l4.f f1 (by omega)) (fun J2 k2 f2 => ⟨q0, q + 17, p1, r2.1, ?_⟩)⟩)⟩
  have F : Fr (q + 101) (q + 105) I J2 := (f1.mono (by omega) (by omega)).tr (f2.mono (by omega) (by omega))
  refine c_nadd (by omega) r2 (l2.f F (by omega)) hq' hn' h10 (by omega) (hl'.f F (by omega)) (fun hlt J3 k3 f3 => ⟨_, rfl, ?_⟩) (fun heq => ⟨_, rfl, ?_⟩)
  · exact h1 hlt J3 ⟨(l1.f F (by omega)).f f3 (by omega), k3, (k1.f f2 (by omega)).f f3 (by omega), k2.f f3 (by omega), (l5.f F (by omega)).f f3 (by omega), (l6.f F (by omega)).f f3 (by omega), pushL_len l7, pushL_len l8⟩ ((F.mono (by omega) (by omega)).tr (f3.mono (by omega) (by omega)))
  · exact h2 heq J2 (b.1, b.2.1, pushL 40 b.2.2.1 0, pushL 40 b.2.2.2.1 (-1), b.2.2.2.2) ⟨l1.f F (by omega), l2.f F (by omega), k1.f f2 (by omega), k2, l5.f F (by omega), l6.f F (by omega), pushL_len l7, pushL_len l8⟩ (F.mono (by omega) (by omega))
def sumI (l : List Int32) : Int32 := l.foldl (fun a x => a + x) 0
theorem c_allWeights {d : Nat} (hd : 2 ≤ d) {B : pM} {I : pIm} {q : Nat} {b : bK} {K : Int32 → pM → Prop} (hq : bookS B q) (hl : Bk I q b) (h : K (sumI b.2.2.1) (pset B I)) : pCall_i d mX0_allWeights (0, 0) [.ref q] (pset B I) K := by
  refine CP_go (by omega) okX0_allWeights (Nat.le_of_ble_eq_true rfl) ?_
  obtain ⟨q0, ⟨p0, p1, p2, p3, p4, p5⟩, r1, r2, r3, r4, r5, r6⟩ := hq
  obtain ⟨l1, l2, l3, l4, l5, l6, l7, l8⟩ := hl
  have key : ∀ (m k : Nat) (a : Int32), b.2.2.1.length - k = m → k ≤ b.2.2.1.length → sumI b.2.2.1 = (b.2.2.1.drop k).foldl (fun a x => a + x) a → Go (d - 1) mX0_allWeights (fun r M1 => ∃ v, r = .inl (some (.int v)) ∧ K v M1) 4 ([some (.ref q), some (.int a), some (.int (nI k))], [], 0, 0) (pset B I) := by
    intro m
    induction m with
    | zero =>
      intro k a hm hk he
      refine bX0_allWeights_4 ⟨q0, q + 101, p2, r3.1, c_size (by omega) r3 l3 ⟨fun g => ⟨_, rfl, ?_⟩, fun g => absurd (nI_le (show b.2.2.1.length ≤ k by omega) (by omega)) g⟩⟩
      rw [List.drop_of_length_le (by omega)] at he
      rw [he] at h; exact h
    | succ m ih =>
      intro k a hm hk he
      have hlt : k < b.2.2.1.length := by omega
      refine bX0_allWeights_4 ⟨q0, q + 101, p2, r3.1, c_size (by omega) r3 l3 ⟨fun g => absurd ((nI_leI (by omega) (by omega)).mp g) (by omega), fun g => ⟨q0, q + 101, p2, r3.1, c_at (by omega) r3 l7 l3 ?_⟩⟩⟩
      rw [rat_in (List.getElem?_eq_getElem hlt) (by omega), nI_1]
      rw [List.drop_eq_getElem_cons hlt] at he
      exact ih (k + 1) _ (by omega) (by omega) he
  exact bX0_allWeights_0 (key _ 0 0 rfl (by omega) (by simp [sumI]))
def fadeL (l : List Int32) : List Int32 := l.map (fun w => w - w / 8)
theorem c_fade {d : Nat} (hd : 2 ≤ d) {B : pM} {I : pIm} {q : Nat} {b : bK} {K : pM → Prop} (hq : bookS B q) (hl : Bk I q b) (h : ∀ J, Bk J q (b.1, b.2.1, fadeL b.2.2.1, b.2.2.2) → Fr q (q + 527) I J → K (pset B J)) : pCall_v d mX0_fade (0, 0) [.ref q] (pset B I) K := by
  refine CP_go (by omega) okX0_fade (Nat.le_of_ble_eq_true rfl) ?_
  obtain ⟨q0, ⟨p0, p1, p2, p3, p4, p5⟩, r1, r2, r3, r4, r5, r6⟩ := hq
  obtain ⟨l1, l2, l3, l4, l5, l6, l7, l8⟩ := hl
  have key : ∀ (m k : Nat) (J : pIm), b.2.2.1.length - k = m → k ≤ b.2.2.1.length → Rw J (q + 101) (fadeL (b.2.2.1.take k) ++ b.2.2.1.drop k) → Fr (q + 101) (q + 103) I J → Go (d - 1) mX0_fade (fun r M1 => r = .inl none ∧ K M1) 2 ([some (.ref q), some (.int (nI k)), none], [], 0, 0) (pset B J) := by
    intro m
    induction m with
    | zero =>
      intro k J hm hk hJ hf
      have hlen : (fadeL (b.2.2.1.take k) ++ b.2.2.1.drop k).length = b.2.2.1.length := by simp [fadeL]; omega
      refine bX0_fade_2 ⟨q0, q + 101, p2, r3.1, c_size (by omega) r3 hJ ⟨fun g => ⟨rfl, ?_⟩, fun g => absurd (nI_le (show _ ≤ k by rw [hlen]; omega) (by omega)) g⟩⟩
      rw [List.take_of_length_le (by omega), List.drop_of_length_le (by omega), List.append_nil] at hJ
      exact h J ⟨l1.f hf (by omega), l2.f hf (by omega), hJ, l4.f hf (by omega), l5.f hf (by omega), l6.f hf (by omega), by simp [fadeL]; exact l7, l8⟩ (hf.mono (by omega) (by omega))
    | succ m ih =>
      intro k J hm hk hJ hf
      have hlen : (fadeL (b.2.2.1.take k) ++ b.2.2.1.drop k).length = b.2.2.1.length := by simp [fadeL]; omega
      have hlt : k < b.2.2.1.length := by omega
      have hk9 : (fadeL (b.2.2.1.take k)).length = k := by simp [fadeL]; omega
      have hget : (fadeL (b.2.2.1.take k) ++ b.2.2.1.drop k)[k]? = some b.2.2.1[k] := by
        rw [List.getElem?_append_right (by omega), hk9, Nat.sub_self, List.getElem?_drop, Nat.add_zero, List.getElem?_eq_getElem hlt]
      refine bX0_fade_2 ⟨q0, q + 101, p2, r3.1, c_size (by omega) r3 hJ ⟨fun g => absurd ((nI_leI (by omega) (by omega)).mp g) (by omega), fun g => ⟨q0, q + 101, p2, r3.1, c_at (by omega) r3 (by omega) hJ ?_⟩⟩⟩
      rw [rat_in hget (by omega)]
      refine ⟨q0, q + 101, p2, r3.1, c_put (by omega) r3 (by omega) hJ (fun J2 h2 f2 => ?_)⟩
      rw [nI_1]
      refine ih (k + 1) J2 (by omega) (by omega) ?_ (hf.tr (f2.mono (by omega) (by omega)))
      have e : rput (fadeL (b.2.2.1.take k) ++ b.2.2.1.drop k) (nI k) (b.2.2.1[k] - b.2.2.1[k] / 8) = fadeL (b.2.2.1.take (k + 1)) ++ b.2.2.1.drop (k + 1) := by
        rw [rput_nI (by omega), List.set_append_right _ _ (by omega), hk9, Nat.sub_self, List.drop_eq_getElem_cons hlt, List.set_cons_zero, List.take_succ_eq_append_getElem hlt]
        simp only [fadeL, List.map_append, List.map_cons, List.map_nil, List.append_assoc, List.cons_append, List.nil_append]
      rw [← e]
      exact h2
  exact bX0_fade_0 (key _ 0 I rfl (by omega) (by simpa [fadeL] using l3) Fr.rf)
def begN (ty : List Int32) : List (List Int32) → Nat
  | [] => 0
  | w :: r => (if ty <+: w then 1 else 0) + begN ty r
theorem begN_le {ty : List Int32} {ws : List (List Int32)} : begN ty ws ≤ ws.length := by
  induction ws with
  | nil => simp [begN]
  | cons w r ih => unfold begN; split <;> simp <;> omega
theorem c_wordsThatBegin {d : Nat} (hd : 4 ≤ d) {B : pM} {I : pIm} {q q' n' : Nat} {b : bK} {ty : List Int32} {K : Int32 → pM → Prop} (hq : bookS B q) (hl : Bk I q b) (hq' : rowS B q' n') (hn' : ty.length ≤ n') (hl' : Rw I q' ty) (h : K (nI (begN ty b.2.1)) (pset B I)) : pCall_i d mX0_wordsThatBegin (0, 0) [.ref q, .ref q'] (pset B I) K := by
  refine CP_go (by omega) okX0_wordsThatBegin (Nat.le_of_ble_eq_true rfl) ?_
  obtain ⟨q0, ⟨p0, p1, p2, p3, p4, p5⟩, r1, r2, r3, r4, r5, r6⟩ := hq
  obtain ⟨l1, l2, l3, l4, l5, l6, l7, l8⟩ := hl
  have h40 := l2.2.1
  have key : ∀ (m k a : Nat), b.2.1.length - k = m → k ≤ b.2.1.length → begN ty b.2.1 = a + begN ty (b.2.1.drop k) → Go (d - 1) mX0_wordsThatBegin (fun r M1 => ∃ v, r = .inl (some (.int v)) ∧ K v M1) 4 ([some (.ref q), some (.ref q'), some (.int (nI a)), some (.int (nI k))], [], 0, 0) (pset B I) := by
    intro m
    induction m with
    | zero =>
      intro k a hm hk he
      refine bX0_wordsThatBegin_4 ⟨q0, q + 17, p1, r2.1, c_nsize (by omega) r2 l2 ⟨fun g => ⟨_, rfl, ?_⟩, fun g => absurd (nI_le (show b.2.1.length ≤ k by omega) (by omega)) g⟩⟩
      rw [List.drop_of_length_le (by omega)] at he
      rw [he] at h; exact h
    | succ m ih =>
      intro k a hm hk he
      have hlt : k < b.2.1.length := by omega
      refine bX0_wordsThatBegin_4 ⟨q0, q + 17, p1, r2.1, c_nsize (by omega) r2 l2 ⟨fun g => absurd ((nI_leI (by omega) (by omega)).mp g) (by omega), fun g => ⟨q0, q + 17, p1, r2.1, c_nat (by omega) r2 l2 (fun a1 m1 s1 s2 s3 _ _ => ⟨s1.1, c_beginsWith (by omega) s1 hq' s2 hn' s3 hl' ?_⟩)⟩⟩⟩
      rw [lat_in (List.getElem?_eq_getElem hlt) (by omega)]
      rw [List.drop_eq_getElem_cons hlt, begN] at he
      refine ⟨fun g2 => bX0_wordsThatBegin_33 ?_, fun g2 => bX0_wordsThatBegin_33 ?_⟩
      · rw [bI_eq0] at g2
        rw [if_neg g2] at he
        rw [nI_1]
        exact ih (k + 1) a (by omega) (by omega) (by omega)
      · rw [bI_eq0] at g2
        rw [if_pos (Classical.not_not.mp g2)] at he
        rw [nI_1, nI_1]
        exact ih (k + 1) (a + 1) (by omega) (by omega) (by omega)
  exact bX0_wordsThatBegin_0 (key _ 0 0 rfl (by omega) (by simp))
/-- the weights of the words that begin so and go on with a letter -/
def wbh (ty : List Int32) (le : Int32) (wt : List Int32) : List (List Int32) → Nat → Int32 → Int32
  | [], _, a => a
  | w :: r, k, a => wbh ty le wt r (k + 1) (if rat w (nI ty.length) = le then (if ty <+: w then (if 0 < a then a else 0) + rat wt (nI k) else a) else a)
theorem c_weightBehind {d : Nat} (hd : 4 ≤ d) {B : pM} {I : pIm} {q q' n' : Nat} {b : bK} {ty : List Int32} {le : Int32} {K : Int32 → pM → Prop} (hq : bookS B q) (hl : Bk I q b) (hq' : rowS B q' n') (hn' : ty.length ≤ n') (hl' : Rw I q' ty) (h : K (wbh ty le b.2.2.1 b.2.1 0 (-1)) (pset B I)) : pCall_i d mX0_weightBehind (0, 0) [.ref q, .ref q', .int le] (pset B I) K := by
  refine CP_go (by omega) okX0_weightBehind (Nat.le_of_ble_eq_true rfl) ?_
  obtain ⟨q0, ⟨p0, p1, p2, p3, p4, p5⟩, r1, r2, r3, r4, r5, r6⟩ := hq
  obtain ⟨l1, l2, l3, l4, l5, l6, l7, l8⟩ := hl
  have h40 := l2.2.1
  have key : ∀ (m k : Nat) (a : Int32), b.2.1.length - k = m → k ≤ b.2.1.length → wbh ty le b.2.2.1 b.2.1 0 (-1) = wbh ty le b.2.2.1 (b.2.1.drop k) k a → Go (d - 1) mX0_weightBehind (fun r M1 => ∃ v, r = .inl (some (.int v)) ∧ K v M1) 5 ([some (.ref q), some (.ref q'), some (.int le), some (.int a), some (.int (nI k)), none], [], 0, 0) (pset B I) := by
    intro m
    induction m with
    | zero =>
      intro k a hm hk he
      refine bX0_weightBehind_5 ⟨q0, q + 17, p1, r2.1, c_nsize (by omega) r2 l2 ⟨fun g => ⟨_, rfl, ?_⟩, fun g => absurd (nI_le (show b.2.1.length ≤ k by omega) (by omega)) g⟩⟩
      rw [List.drop_of_length_le (by omega)] at he
      rw [he] at h; exact h
    | succ m ih =>
      intro k a hm hk he
      have hlt : k < b.2.1.length := by omega
      have next : ∀ a2 : Int32, wbh ty le b.2.2.1 b.2.1 0 (-1) = wbh ty le b.2.2.1 (b.2.1.drop (k + 1)) (k + 1) a2 → Go (d - 1) mX0_weightBehind (fun r M1 => ∃ v, r = .inl (some (.int v)) ∧ K v M1) 66 ([some (.ref q), some (.ref q'), some (.int le), some (.int a2), some (.int (nI k)), none], [], 0, 0) (pset B I) := by
        intro a2 h2
        refine bX0_weightBehind_66 ?_
        rw [nI_1]
        exact ih (k + 1) a2 (by omega) (by omega) h2
      rw [List.drop_eq_getElem_cons hlt, wbh] at he
      refine bX0_weightBehind_5 ⟨q0, q + 17, p1, r2.1, c_nsize (by omega) r2 l2 ⟨fun g => absurd ((nI_leI (by omega) (by omega)).mp g) (by omega), fun g => ⟨q0, q + 17, p1, r2.1, c_nat (by omega) r2 l2 (fun a1 m1 s1 s2 s3 _ _ => ⟨hq'.1, c_size (by omega) hq' hl' ⟨s1.1, c_at (by omega) s1 s2 s3 ?_⟩⟩)⟩⟩⟩
      rw [lat_in (List.getElem?_eq_getElem hlt) (by omega)] at s2 s3 ⊢
      refine ⟨fun g2 => ⟨s1.1, c_beginsWith (by omega) s1 hq' s2 hn' s3 hl' ⟨fun g3 => ?_, fun g3 => ⟨q0, q + 101, p2, r3.1, c_at (by omega) r3 l7 l3 ?_⟩⟩⟩, fun g2 => ?_⟩
      · rw [bI_eq0] at g3
        rw [if_pos g2, if_neg g3] at he
        exact next a he
      · rw [bI_eq0] at g3
        rw [if_pos g2, if_pos (Classical.not_not.mp g3)] at he
        exact next _ he
      · rw [if_neg g2] at he
        exact next a he
  exact bX0_weightBehind_0 (key _ 0 (-1) rfl (by omega) (by simp))
/-- how many first bytes a word shares with the words ahead of it -/
def shr (w : List Int32) : List (List Int32) → Nat
  | [] => 0
  | a :: r => max (cpl w a) (shr w r)
theorem shr_le {w : List Int32} {ws : List (List Int32)} : shr w ws ≤ w.length := by
  induction ws with
  | nil => simp [shr]
  | cons a r ih => unfold shr; have := (cpl_le (l := w) (m := a)).1; omega
theorem shr_app {w : List Int32} {ws : List (List Int32)} {a : List Int32} : shr w (ws ++ [a]) = max (shr w ws) (cpl w a) := by
  induction ws with
  | nil => simp [shr]
  | cons b r ih => rw [List.cons_append, shr, shr, ih]; omega
def triN (ws : List (List Int32)) : Nat → Int32
  | 0 => 1
  | k + 1 => triN ws k + (nI (ws.getD k []).length - nI (shr (ws.getD k []) (ws.take k)))
theorem c_trieNodes {d : Nat} (hd : 2 ≤ d) {B : pM} {I : pIm} {q : Nat} {b : bK} {K : Int32 → pM → Prop} (hq : bookS B q) (hl : Bk I q b) (h : K (triN b.2.1 b.2.1.length) (pset B I)) : pCall_i d mX0_trieNodes (0, 0) [.ref q] (pset B I) K := by
  refine CP_go (by omega) okX0_trieNodes (Nat.le_of_ble_eq_true rfl) ?_
  obtain ⟨q0, ⟨p0, p1, p2, p3, p4, p5⟩, r1, r2, r3, r4, r5, r6⟩ := hq
  obtain ⟨l1, l2, l3, l4, l5, l6, l7, l8⟩ := hl
  have h40 := l2.2.1
  have key : ∀ (m k : Nat), b.2.1.length - k = m → k ≤ b.2.1.length → Go (d - 1) mX0_trieNodes (fun r M1 => ∃ v, r = .inl (some (.int v)) ∧ K v M1) 4 ([some (.ref q), some (.int (triN b.2.1 k)), some (.int (nI k)), none, none], [], 0, 0) (pset B I) := by
    intro m
    induction m with
    | zero =>
      intro k hm hk
      refine bX0_trieNodes_4 ⟨q0, q + 17, p1, r2.1, c_nsize (by omega) r2 l2 ⟨fun g => ⟨_, rfl, ?_⟩, fun g => absurd (nI_le (show b.2.1.length ≤ k by omega) (by omega)) g⟩⟩
      have e : k = b.2.1.length := by omega
      rw [e]; exact h
    | succ m ih =>
      intro k hm hk
      have hlt : k < b.2.1.length := by omega
      have hw : lat b.2.1 (nI k) = b.2.1.getD k [] := lat_nI (by omega)
      have inner : ∀ (m2 j : Nat), k - j = m2 → j ≤ k → Go (d - 1) mX0_trieNodes (fun r M1 => ∃ v, r = .inl (some (.int v)) ∧ K v M1) 20 ([some (.ref q), some (.int (triN b.2.1 k)), some (.int (nI k)), some (.int (nI (shr (b.2.1.getD k []) (b.2.1.take j)))), some (.int (nI j))], [], 0, 0) (pset B I) := by
        intro m2
        induction m2 with
        | zero =>
          intro j hm2 hj
          refine bX0_trieNodes_20 ⟨fun g => ⟨q0, q + 17, p1, r2.1, c_nat (by omega) r2 l2 (fun a1 m1 s1 s2 s3 _ _ => ⟨s1.1, c_size (by omega) s1 s3 ?_⟩)⟩, fun g => absurd (nI_le (show k ≤ j by omega) (by omega)) g⟩
          rw [hw, nI_1]
          have e : j = k := by omega
          rw [e]
          exact ih (k + 1) (by omega) (by omega)
        | succ m2 ih2 =>
          intro j hm2 hj
          refine bX0_trieNodes_20 ⟨fun g => absurd ((nI_leI (by omega) (by omega)).mp g) (by omega), fun g => ⟨q0, q + 17, p1, r2.1, c_nat (by omega) r2 l2 (fun a1 m1 s1 s2 s3 _ _ => ⟨q0, q + 17, p1, r2.1, c_nat (by omega) r2 l2 (fun a2 m2 t1 t2 t3 _ _ => ⟨s1.1, c_sameAhead (by omega) s1 t1 s2 t2 s3 t3 ?_⟩)⟩)⟩⟩
          rw [hw, nI_1, lat_in (List.getElem?_eq_getElem (show j < b.2.1.length by omega)) (by omega)]
          have e : (if nI (shr (b.2.1.getD k []) (b.2.1.take j)) < nI (cpl (b.2.1.getD k []) b.2.1[j]) then nI (cpl (b.2.1.getD k []) b.2.1[j]) else nI (shr (b.2.1.getD k []) (b.2.1.take j))) = nI (shr (b.2.1.getD k []) (b.2.1.take (j + 1))) := by
            rw [List.take_succ_eq_append_getElem (by omega), shr_app]
            have hs := shr_le (w := b.2.1.getD k []) (ws := b.2.1.take j)
            have hc := (cpl_le (l := b.2.1.getD k []) (m := b.2.1[j])).1
            have h10 : (b.2.1.getD k []).length ≤ 10 := by
              rw [List.getD_eq_getElem?_getD, List.getElem?_eq_getElem hlt]
              exact l2.len _ (List.getElem_mem hlt)
            by_cases z : shr (b.2.1.getD k []) (b.2.1.take j) < cpl (b.2.1.getD k []) b.2.1[j]
            · rw [if_pos (nI_lt z (by omega)), Nat.max_eq_right (by omega)]
            · rw [if_neg (nI_nlt (by omega) (by omega)), Nat.max_eq_left (by omega)]
          rw [e]
          exact ih2 (j + 1) (by omega) (by omega)
      refine bX0_trieNodes_4 ⟨q0, q + 17, p1, r2.1, c_nsize (by omega) r2 l2 ⟨fun g => absurd ((nI_leI (by omega) (by omega)).mp g) (by omega), fun g => ?_⟩⟩
      exact inner k 0 rfl (by omega)
  exact bX0_trieNodes_0 (key _ 0 rfl (by omega))
