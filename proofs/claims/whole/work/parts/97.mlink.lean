/-! THE REFERENCE: what a text leaves -/
theorem stB_1 {s : List (Int32 × Int32)} : ∀ {b : bB}, (stB b s).1 = b.1 ∧ (stB b s).2.2.2.2.2.2 = b.2.2.2.2.2.2 := by
  induction s with
  | nil => intro b; exact ⟨rfl, rfl⟩
  | cons x s ih =>
    intro b
    rw [stB_one]
    exact ih
theorem bBs_1 {l : List (List (Int32 × Int32) × List (Int32 × Int32))} : ∀ {b : bB}, (bBs b l).1 = b.1 ∧ (bBs b l).2.2.2.2.2.2 = b.2.2.2.2.2.2 := by
  induction l with
  | nil => intro b; exact ⟨rfl, rfl⟩
  | cons x l ih =>
    intro b
    have e : bBs b (x :: l) = bBs (bSE (stB (bST (stB (bSS b) x.1)) x.2)) l := rfl
    have h1 : (bSE (stB (bST (stB (bSS b) x.1)) x.2)).1 = b.1 := (stB_1 (b := bST (stB (bSS b) x.1)) (s := x.2)).1.trans (stB_1 (b := bSS b) (s := x.1)).1
    have h2 : (bSE (stB (bST (stB (bSS b) x.1)) x.2)).2.2.2.2.2.2 = b.2.2.2.2.2.2 := (stB_1 (b := bST (stB (bSS b) x.1)) (s := x.2)).2.trans (stB_1 (b := bSS b) (s := x.1)).2
    rw [e]
    exact ⟨(ih (b := bSE (stB (bST (stB (bSS b) x.1)) x.2))).1.trans h1, (ih (b := bSE (stB (bST (stB (bSS b) x.1)) x.2))).2.trans h2⟩
theorem pay_eq {t : tK} {tp : List Int32} {b0 b : bK} {me : List Int32} {n0 : Nat} {s : List (Int32 × Int32)} (hst : stP (kfT t) 0 n0 s) (h400 : n0 ≤ 400) (hme : meT t tp b0 (n0 + 1) b me) {y : Int32 × Int32} (hy : y ∈ s) : payS (nsB b) (lnkF me y) = payG t tp b0 y := by
  obtain ⟨k, v⟩ := y
  unfold payS payG lnkF lnk
  dsimp only
  by_cases c13 : k = 13
  · obtain ⟨i, -, i2, i3, i4, i5⟩ := hst.2.2 _ hy (Or.inr (Or.inr c13))
    have i3' : v = nI (i + 1) := i3
    have i4' : kfT t i = k := i4
    obtain ⟨n, n1, n2, n3⟩ := (hme i (by omega) i5).2 (i4'.trans c13)
    rw [if_pos c13, if_pos c13, if_pos (Or.inr (Or.inr c13)), i3', n2, lat_in n3 (by omega)]
  · rw [if_neg c13, if_neg c13]
    by_cases c2 : k = 2 ∨ k = 12
    · obtain ⟨i, -, i2, i3, i4, i5⟩ := hst.2.2 _ hy (c2.elim Or.inl (fun z => Or.inr (Or.inl z)))
      have i3' : v = nI (i + 1) := i3
      have i4' : kfT t i = k := i4
      rw [if_pos c2, if_pos (c2.elim Or.inl (fun z => Or.inr (Or.inl z))), i3', (hme i (by omega) i5).1 (by rw [i4']; exact c2), nI_clamp (by omega)]
    · rw [if_neg c2, if_neg (fun z => z.elim (fun z => c2 (Or.inl z)) (fun z => z.elim (fun z => c2 (Or.inr z)) c13))]
theorem bMid_inj {b : bK} {x1 x2 x3 x4 x5 : List Int32} (h : bMid b = (x1, x2, x3, x4, x5)) : b.2.2.2.2.2.2.1 = x1 ∧ b.2.2.2.2.2.2.2.1 = x2 ∧ b.2.2.2.2.2.2.2.2.1 = x3 ∧ b.2.2.2.2.2.2.2.2.2.1 = x4 ∧ b.2.2.2.2.2.2.2.2.2.2.1 = x5 := by
  unfold bMid at h
  obtain ⟨h1, h⟩ := Prod.mk.inj h
  obtain ⟨h2, h⟩ := Prod.mk.inj h
  obtain ⟨h3, h⟩ := Prod.mk.inj h
  obtain ⟨h4, h5⟩ := Prod.mk.inj h
  exact ⟨h1, h2, h3, h4, h5⟩
theorem lSem.md {B : pM} {r td dr n0 nn tx : Nat} {tp : List Int32} {t : tK} {b0 b : bK} {J : pIm} {er et : Int32} {NT NW : List Nat} {nr nb : Nat} {L : List (List (Int32 × Int32) × List (Int32 × Int32))} {me : List Int32} (hv : lSx B r td dr tp t n0 b0 J n0 nn tx er et NT NW nr nb) (hS : lSem t tp b0 J dr b NT NW nr nb nn tx L) (hb : bMid b = bMid (bKs L)) (hst : stP (kfT t) 0 n0 (flatL L)) (hme : meT t tp b0 (n0 + 1) b me) : mbD J dr (lnkB b me) := by
  obtain ⟨hE, pt, et1, hT, hW, hR, hB⟩ := hv
  obtain ⟨t1, t2, t3, t4, t5, t6, t7, t8, t9, t10, t11⟩ := pt
  obtain ⟨⟨c1, c2, c3, c4⟩, ⟨d1, d2, d3, d4, d5⟩, ⟨f1, f2, f3⟩, c7⟩ := hS
  have h400 := hE.2.2.2.2.2.1
  have h2000 := hE.2.1.2.1
  have htl := hE.2.2.2.2.1
  obtain ⟨p, hg⟩ := hE.2.2.2.2.2.2.2
  have hsT : sT t n0 ≤ 2000 := by
    have := (hg.2.2.1 n0 (by omega)).2.1
    omega
  have lT' : b.1.length = NT.length := by rw [← c1, List.length_map]
  have lW' : b.2.1.length = NW.length := by rw [← c2, List.length_map]
  have h12 : L.length ≤ 12 := by rw [f3]; exact hB.2
  have hfl : (flatL L).length ≤ 400 := by have := hst.2.1; omega
  have hbB := bBs_eq h12 hfl L.length (Nat.le_refl _)
  rw [List.take_length] at hbB
  have eM : bMid (bKs L) = ((List.range L.length).map (fun j => nI (flatL (L.take j)).length), (List.range L.length).map (fun j => nI ((flatL (L.take j)).length + (L.getD j ([], [])).1.length)), (List.range L.length).map (fun j => nI ((flatL (L.take j)).length + (L.getD j ([], [])).1.length + (L.getD j ([], [])).2.length)), (flatL L).map Prod.fst, (flatL L).map Prod.snd) := by
    have e : (bKs L).2.2.2.2.2 = bBs ([], [], [], [], [], [], []) L := rfl
    unfold bMid
    rw [e, hbB]
  rw [eM] at hb
  obtain ⟨m1, m2, m3, m4, m5⟩ := bMid_inj hb
  have nms : ∀ l ∈ b.2.1, 1 ≤ l.length ∧ l.length ≤ 10 := fun l hl => by
    rw [← c2] at hl
    obtain ⟨x, hx, rfl⟩ := List.mem_map.mp hl
    obtain ⟨k, hk⟩ := List.mem_iff_getElem?.mp hx
    obtain ⟨-, -, h20⟩ := hW.2.2 k x hk
    obtain ⟨n1, n2, n3, n4, n5⟩ := name_tok h2000 hE.2.2.1 hg (by omega) h20
    rw [n5, copyl_len]
    exact ⟨n2, n3⟩
  refine ⟨⟨?_, ?_, ?_, ?_⟩, d1, d2, d3, d4, ⟨by show b.1.length ≤ 6; rw [lT']; exact hT.2.1, by show b.2.1.length ≤ 40; rw [lW']; exact hW.2.1, nms, f1, f2⟩, d5, ?_⟩
  · show J dr 0 = nI b.1.length
    rw [lT']; exact hT.1
  · show J dr 1 = nI b.2.1.length
    rw [lW']; exact hW.1
  · show J dr 2 = b.2.2.2.2.1.2.2
    rw [c3]; exact hR.1
  · show J dr 3 = nI b.2.2.2.2.2.1.length
    rw [← c4]; exact hB.1
  · have eF : flatL (L.map (fun x => (x.1.map (lnkF me), x.2.map (lnkF me)))) = (flatL L).map (lnkF me) := flatL_map
    have lF : (flatL (L.map (fun x => (x.1.map (lnkF me), x.2.map (lnkF me))))).length = (flatL L).length := by rw [eF, List.length_map]
    refine ⟨L.map (fun x => (x.1.map (lnkF me), x.2.map (lnkF me))), ?_, ?_, ?_, ?_, ?_, fun i x hx => ?_⟩
    · rw [List.length_map, f3]; exact c4
    · show b.2.2.2.2.2.1.length ≤ 12
      rw [← c4]; exact hB.2
    · rw [lF]; exact hfl
    · show b.2.2.2.2.2.2.2.2.2.1 = _
      rw [eF, m4, List.map_map]
      rfl
    · show lnkL me b.2.2.2.2.2.2.2.2.2.1 b.2.2.2.2.2.2.2.2.2.2.1 b.2.2.2.2.2.2.2.2.2.1.length = _
      rw [eF, m4, m5]
      exact lnkL_map hfl
    · rw [List.getElem?_map] at hx
      obtain ⟨y, hy, rfl⟩ := Option.map_eq_some_iff.mp hx
      have hi : i < L.length := (List.getElem?_eq_some_iff.mp hy).1
      obtain ⟨y1, ⟨a1, y2, y3⟩, a2, y4, y5⟩ := c7 i y hy
      have hmem : y ∈ L := List.mem_of_getElem? hy
      have eG : L.getD i ([], []) = y := by rw [List.getD_eq_getElem?_getD, hy]; rfl
      have eT : (flatL ((L.map (fun x => (x.1.map (lnkF me), x.2.map (lnkF me)))).take i)).length = (flatL (L.take i)).length := by
        rw [← List.map_take, flatL_map, List.length_map]
      have sub : ∀ z, z ∈ y.1 ++ y.2 → z ∈ flatL L := fun z hz => List.mem_flatten.mpr ⟨_, List.mem_map.mpr ⟨y, hmem, rfl⟩, hz⟩
      have len : (y.1 ++ y.2).length ≤ 400 := by
        have et : L.take (i + 1) = L.take i ++ [y] := by rw [List.take_succ, hy]; rfl
        have e : flatL L = flatL (L.take (i + 1)) ++ flatL (L.drop (i + 1)) := by rw [← flatL_app, List.take_append_drop]
        rw [e, List.length_append, et, flatL_app, List.length_append, flatL_one] at hfl
        omega
      rw [List.length_append] at len
      have p1 : (y.1.map (lnkF me)).map (payS (nsB b)) = y.1.map (payG t tp b0) := by
        rw [List.map_map]
        exact List.map_congr_left (fun z hz => pay_eq hst h400 hme (sub z (List.mem_append_left _ hz)))
      have p2 : (y.2.map (lnkF me)).map (payS (nsB b)) = y.2.map (payG t tp b0) := by
        rw [List.map_map]
        exact List.map_congr_left (fun z hz => pay_eq hst h400 hme (sub z (List.mem_append_right _ hz)))
      have rg : ∀ (f : Nat → Int32), rat ((List.range L.length).map f) (nI i) = f i := fun f => rat_in (by rw [List.getElem?_map, List.getElem?_range hi]; rfl) (by rw [List.length_map, List.length_range]; omega)
      refine ⟨⟨?_, ?_, ?_⟩, y1, ⟨a1, y2, ?_⟩, a2, y4, ?_⟩
      · show rat b.2.2.2.2.2.2.1 (nI i) = _
        rw [m1, rg, eT]
      · show rat b.2.2.2.2.2.2.2.1 (nI i) = _
        rw [m2, rg, eT, eG, List.length_map]
      · show rat b.2.2.2.2.2.2.2.2.1 (nI i) = _
        rw [m3, rg, eT, eG, List.length_map, List.length_map]
      · show ndS _ _ _ _ 400 a1 ((y.1.map (lnkF me)).map (payS (nsB b)))
        rw [p1]
        have := y3.up kpV.rf (Nat.le_refl _) (Nat.le_refl _) (Nat.le_refl _) (show y.1.length ≤ 400 by omega)
        exact nvS.nd (by omega) this
      · show ndT _ _ _ _ _ 400 a2 ((y.2.map (lnkF me)).map (payS (nsB b)))
        rw [p2]
        have := y5.up kpV.rf (Nat.le_refl _) (Nat.le_refl _) (Nat.le_refl _) (show y.2.length ≤ 400 by omega)
        exact nvT.nd (by omega) (by omega) this
theorem mbS.cgP {B C : pM} {q : Nat} (h : mbS B q) (hk : ∀ a, pK C a = pK B a) (hP : ∀ y, pP C q y = pP B q y) : mbS C q := by
  unfold mbS
  rw [hk, hk, hk, hk, hk, hk, hk, hk, hk, hk, hk, hP, hP, hP, hP, hP, hP, hP, hP, hP, hP]
  exact h
theorem mdS.swapC {B C : pM} {r td dr : Nat} (h : mdS B r td dr) (hk : ∀ a, pK C a = pK B a) (hn : pN C = pN B) (hP : ∀ x y, x ≠ r ∨ (y ≠ 8 ∧ y ≠ 9) → pP C x y = pP B x y) (h8 : pP C r 8 = dr + 1) (h9 : pP C r 9 = td + 1) : mdS C r dr td := by
  have hy := h.lay
  have ly' : (dr = r + 6 ∧ td = r + 17) ∨ (dr = r + 17 ∧ td = r + 6) := hy.elim (fun z => Or.inr ⟨z.2, z.1⟩) (fun z => Or.inl ⟨z.2, z.1⟩)
  have ntd : td ≠ r := by clear h hk hn hP h8 h9; omega
  have ndr : dr ≠ r := by clear h hk hn hP h8 h9; omega
  obtain ⟨k, ⟨p1, p4, p5, p6, p7, p8, p9⟩, ⟨s10, s11, s17, s22, s23, s24, s25, s26⟩, ⟨k1, k2, k3, k4, k5, k6, k7, k8, k9, k10, k11, k12, k13⟩, mt, md, ly, hN⟩ := h
  have R : ∀ y v, y ≠ 8 ∧ y ≠ 9 → pP B r y = v → pP C r y = v := fun y v hyy e => (hP r y (Or.inr hyy)).trans e
  have S : ∀ x v, pK B x = v → pK C x = v := fun x v e => (hk x).trans e
  have mt' : mbS C td := mt.cgP hk (fun y => hP td y (Or.inl ntd))
  have md' : mbS C dr := md.cgP hk (fun y => hP dr y (Or.inl ndr))
  have hN' : r + 36 ≤ pN C := by rw [hn]; exact hN
  unfold mdS
  exact ⟨S _ _ k, ⟨R _ _ (by decide) p1, R _ _ (by decide) p4, R _ _ (by decide) p5, R _ _ (by decide) p6, R _ _ (by decide) p7, h8, h9⟩, ⟨R _ _ (by decide) s10, R _ _ (by decide) s11, R _ _ (by decide) s17, R _ _ (by decide) s22, R _ _ (by decide) s23, R _ _ (by decide) s24, R _ _ (by decide) s25, R _ _ (by decide) s26⟩, ⟨S _ _ k1, S _ _ k2, S _ _ k3, S _ _ k4, S _ _ k5, S _ _ k6, S _ _ k7, S _ _ k8, S _ _ k9, S _ _ k10, S _ _ k11, S _ _ k12, S _ _ k13⟩, md', mt', ly', hN'⟩
theorem psP_k {B : pM} {a j v x : Nat} : pK (psP B a j v) x = pK B x := rfl
theorem psP_n {B : pM} {a j v : Nat} : pN (psP B a j v) = pN B := rfl
theorem psP_l {B : pM} {a j v x : Nat} : pL (psP B a j v) x = pL B x := rfl
theorem mdS.swap {B : pM} {r td dr : Nat} (h : mdS B r td dr) : mdS (psP (psP B r 8 (dr + 1)) r 9 (td + 1)) r dr td ∧ ExR r B (psP (psP B r 8 (dr + 1)) r 9 (td + 1)) := by
  have P : ∀ x y, x ≠ r ∨ (y ≠ 8 ∧ y ≠ 9) → pP (psP (psP B r 8 (dr + 1)) r 9 (td + 1)) x y = pP B x y := fun x y hxy => by
    rw [psP_at, psP_at, if_neg (by omega), if_neg (by omega)]
  have h8 : pP (psP (psP B r 8 (dr + 1)) r 9 (td + 1)) r 8 = dr + 1 := by
    rw [psP_at, if_neg (by omega), psP_at, if_pos ⟨rfl, rfl⟩]
  have h9 : pP (psP (psP B r 8 (dr + 1)) r 9 (td + 1)) r 9 = td + 1 := by
    rw [psP_at, if_pos ⟨rfl, rfl⟩]
  have hk : ∀ a, pK (psP (psP B r 8 (dr + 1)) r 9 (td + 1)) a = pK B a := fun a => psP_k.trans psP_k
  have hn : pN (psP (psP B r 8 (dr + 1)) r 9 (td + 1)) = pN B := psP_n.trans psP_n
  have hl : ∀ a, pL (psP (psP B r 8 (dr + 1)) r 9 (td + 1)) a = pL B a := fun a => psP_l.trans psP_l
  generalize psP (psP B r 8 (dr + 1)) r 9 (td + 1) = C at P h8 h9 hk hn hl
  exact ⟨mdS.swapC h hk hn P h8 h9, hn, fun a => ⟨hk a, hl a, fun ha => funext (fun y => P a y (Or.inl ha))⟩⟩
/-- a book of the reference, emptied -/
theorem c_mempty {d : Nat} (hd : 1 ≤ d) {B : pM} {J : pIm} {q : Nat} {K : pM → Prop} (hq : mbS B q) (h : ∀ J' : pIm, (∀ y, y ≠ q → y ≠ q + 5 → J' y = J y) → (J' q 0 = 0 ∧ J' q 1 = 0 ∧ J' q 2 = 0 ∧ J' q 3 = 0 ∧ J' q 10 = 0 ∧ J' q 14 = 0) → (∀ c, c < 128 → J' (q + 5) c = -1) → K (pset B J')) : pCall_v d mX12_empty (0, 0) [.ref q] (pset B J) K := by
  refine CP_go (by omega) okX12_empty (Nat.le_of_ble_eq_true rfl) ?_
  have pk := hq.2.1.2.2.2.2.1
  have kk := hq.2.2.2.2.2.2.1
  have key : ∀ (m k : Nat) (M : pIm), 128 - k = m → k ≤ 128 → (∀ y, y ≠ q → y ≠ q + 5 → M y = J y) → (M q 0 = 0 ∧ M q 1 = 0 ∧ M q 2 = 0 ∧ M q 3 = 0 ∧ M q 10 = 0 ∧ M q 14 = 0) → (∀ c, c < k → M (q + 5) c = -1) → Go (d - 1) mX12_empty (fun r M1 => r = .inl none ∧ K M1) 32 ([some (.ref q), some (.int (nI k))], [], 0, 0) (pset B M) := by
    intro m
    induction m with
    | zero =>
      intro k M hm hk2 mo mf mk
      have : k = 128 := by omega
      subst this
      exact bX12_empty_32 ⟨hq.1, q + 5, pk, 128, kk, fun _ => ⟨rfl, h M mo mf mk⟩, fun gg => absurd (Int32.le_refl _) gg⟩
    | succ m ih =>
      intro k M hm hk2 mo mf mk
      refine bX12_empty_32 ⟨hq.1, q + 5, pk, 128, kk, fun gg => absurd ((nI_leI (by omega) (by omega)).mp (show nI 128 ≤ nI k from gg)) (by omega), fun _ => ⟨hq.1, q + 5, pk, 128, kk, vp_inN (by omega) (by omega), ?_⟩⟩
      rw [nI_clamp (show k < 2 ^ 31 by omega), nI_1, psI_set]
      have e : u2 M (q + 5) k (-1) q = M q := u2_a (by omega)
      refine ih (k + 1) _ (by omega) (by omega) (fun y y1 y2 => by rw [u2_a y2]; exact mo y y1 y2) (by rw [e]; exact mf) (fun c hc => ?_)
      by_cases e2 : c = k
      · rw [e2]; exact u2_same
      · rw [u2_j e2]; exact mk c (by omega)
  refine bX12_empty_0 ⟨hq.1, hq.1, hq.1, hq.1, hq.1, hq.1, ?_⟩
  rw [psI_set, psI_set, psI_set, psI_set, psI_set, psI_set]
  refine key _ 0 _ rfl (by omega) (fun y y1 _ => by rw [u2_a y1, u2_a y1, u2_a y1, u2_a y1, u2_a y1, u2_a y1]) ⟨?_, ?_, ?_, ?_, ?_, u2_same⟩ (fun c hc => absurd hc (by omega))
  · rw [u2_j (by decide), u2_j (by decide), u2_j (by decide), u2_j (by decide), u2_j (by decide)]; exact u2_same
  · rw [u2_j (by decide), u2_j (by decide), u2_j (by decide), u2_j (by decide)]; exact u2_same
  · rw [u2_j (by decide), u2_j (by decide), u2_j (by decide)]; exact u2_same
  · rw [u2_j (by decide), u2_j (by decide)]; exact u2_same
  · rw [u2_j (by decide)]; exact u2_same
