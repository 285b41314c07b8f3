/-! MORE CELLS -/
/-- the cells that were there stand as they stood -/
def Ex (B C : pM) : Prop := pN B ≤ pN C ∧ ∀ a, a < pN B → pK C a = pK B a ∧ pP C a = pP B a ∧ pL C a = pL B a
theorem Ex.rf {B : pM} : Ex B B := ⟨Nat.le_refl _, fun _ _ => ⟨rfl, rfl, rfl⟩⟩
theorem Ex.tr {B C D : pM} (h : Ex B C) (g : Ex C D) : Ex B D := ⟨Nat.le_trans h.1 g.1, fun a ha => by
  obtain ⟨h1, h2, h3⟩ := h.2 a ha
  obtain ⟨g1, g2, g3⟩ := g.2 a (Nat.lt_of_lt_of_le ha h.1)
  exact ⟨g1.trans h1, g2.trans h2, g3.trans h3⟩⟩
theorem rowS.ex {B C : pM} {q n : Nat} (h : rowS B q n) (e : Ex B C) (hq : q + 2 ≤ pN B) : rowS C q n := by
  obtain ⟨h1, h2, h3, h4⟩ := h
  obtain ⟨a1, a2, -⟩ := e.2 q (by omega)
  obtain ⟨b1, -, -⟩ := e.2 (q + 1) (by omega)
  exact ⟨by rw [a1]; exact h1, by rw [a2]; exact h2, by rw [b1]; exact h3, h4⟩
theorem namesS.ex {B C : pM} {q n : Nat} (h : namesS B q n) (e : Ex B C) (hq : q + 4 + 2 * n ≤ pN B) : namesS C q n := by
  obtain ⟨h1, h2, h3, h4, h5, h6, h7⟩ := h
  obtain ⟨a1, a2, -⟩ := e.2 q (by omega)
  obtain ⟨b1, b2, -⟩ := e.2 (q + 3) (by omega)
  exact ⟨by rw [a1]; exact h1, by rw [a2]; exact h2, by rw [a2]; exact h3, h4.ex e (by omega), by rw [b1]; exact h5, h6, fun i hi => ⟨by rw [b2]; exact (h7 i hi).1, (h7 i hi).2.ex e (by omega)⟩⟩
theorem keysS.ex {B C : pM} {q : Nat} (h : keysS B q) (e : Ex B C) (hq : q + 5 ≤ pN B) : keysS C q := by
  obtain ⟨h1, h2, h3, h4, h5⟩ := h
  obtain ⟨a1, a2, -⟩ := e.2 q (by omega)
  exact ⟨by rw [a1]; exact h1, by rw [a2]; exact h2, by rw [a2]; exact h3, h4.ex e (by omega), h5.ex e (by omega)⟩
theorem handS.ex {B C : pM} {q : Nat} (h : handS B q) (e : Ex B C) (hq : q + 3 ≤ pN B) : handS C q := by
  obtain ⟨h1, h2, h3⟩ := h
  obtain ⟨a1, a2, -⟩ := e.2 q (by omega)
  exact ⟨by rw [a1]; exact h1, by rw [a2]; exact h2, h3.ex e (by omega)⟩
theorem boostsS.ex {B C : pM} {q : Nat} (h : boostsS B q) (e : Ex B C) (hq : q + 417 ≤ pN B) : boostsS C q := by
  obtain ⟨h1, h2, r1, r2, r3, r4, r5, r6, r7⟩ := h
  obtain ⟨a1, a2, -⟩ := e.2 q (by omega)
  exact ⟨by rw [a1]; exact h1, by rw [a2]; exact h2, r1.ex e (by omega), r2.ex e (by omega), r3.ex e (by omega), r4.ex e (by omega), r5.ex e (by omega), r6.ex e (by omega), r7.ex e (by omega)⟩
theorem bookS.ex {B C : pM} {q : Nat} (h : bookS B q) (e : Ex B C) (hq : q + 527 ≤ pN B) : bookS C q := by
  obtain ⟨h1, h2, r1, r2, r3, r4, r5, r6⟩ := h
  obtain ⟨a1, a2, -⟩ := e.2 q (by omega)
  exact ⟨by rw [a1]; exact h1, by rw [a2]; exact h2, r1.ex e (by omega), r2.ex e (by omega), r3.ex e (by omega), r4.ex e (by omega), r5.ex e (by omega), r6.ex e (by omega)⟩
theorem reckS.ex {B C : pM} {q : Nat} (h : reckS B q) (e : Ex B C) (hq : q + 3 ≤ pN B) : reckS C q := by
  obtain ⟨h1, h2, h3⟩ := h
  obtain ⟨a1, a2, -⟩ := e.2 q (by omega)
  exact ⟨by rw [a1]; exact h1, by rw [a2]; exact h2, h3.ex e (by omega)⟩
theorem rankS.ex {B C : pM} {q : Nat} (h : rankS B q) (e : Ex B C) (hq : q + 14 ≤ pN B) : rankS C q := by
  obtain ⟨h1, h2, r1, r2, r3, r4, r5, r6⟩ := h
  obtain ⟨a1, a2, -⟩ := e.2 q (by omega)
  exact ⟨by rw [a1]; exact h1, by rw [a2]; exact h2, r1.ex e (by omega), r2.ex e (by omega), r3.ex e (by omega), r4.ex e (by omega), r5.ex e (by omega), r6.ex e (by omega)⟩
theorem toksS.ex {B C : pM} {q : Nat} (h : toksS B q) (e : Ex B C) (hq : q + 51 ≤ pN B) : toksS C q := by
  obtain ⟨h1, h2, r1, r2, r3, r4, r5⟩ := h
  obtain ⟨a1, a2, -⟩ := e.2 q (by omega)
  exact ⟨by rw [a1]; exact h1, by rw [a2]; exact h2, r1.ex e (by omega), r2.ex e (by omega), r3.ex e (by omega), r4.ex e (by omega), r5.ex e (by omega)⟩
theorem rdE.ex {B C : pM} {q qp qb : Nat} (h : rdE B q qp qb) (e : Ex B C) (h1 : q + 54 ≤ pN B) (h2 : qp + 2 ≤ pN B) (h3 : qb + 527 ≤ pN B) : rdE C q qp qb := by
  obtain ⟨g0, g1, g2, g3, g4, g5, g6⟩ := h
  obtain ⟨a1, a2, -⟩ := e.2 q (by omega)
  exact ⟨by rw [a1]; exact g0, by rw [a2]; exact g1, g2.ex e (by omega), g3.ex e (by omega), g4.ex e (by omega), g5.ex e (by omega), g6⟩
theorem pnew_pset {B : pM} {I : pIm} {k : Nat × Nat} : pnew (pset B I) k = pset (pnew B k) (fun x y => if x = pN B then 0 else I x y) := rfl
theorem psP_pset {B : pM} {I : pIm} {a j v : Nat} : psP (pset B I) a j v = pset (psP B a j v) I := rfl
theorem Ex.new {B : pM} {k : Nat × Nat} : Ex B (pnew B k) := by
  refine ⟨Nat.le_succ _, fun a ha => ?_⟩
  have hne : a ≠ B.2.2.2.2 := Nat.ne_of_lt ha
  refine ⟨?_, ?_, ?_⟩
  · show (if a = B.2.2.2.2 then k else B.1 a) = B.1 a
    rw [if_neg hne]
  · funext y
    show (if a = B.2.2.2.2 then 0 else B.2.2.2.1 a y) = B.2.2.2.1 a y
    rw [if_neg hne]
  · funext y
    show (if a = B.2.2.2.2 then 0 else B.2.2.1 a y) = B.2.2.1 a y
    rw [if_neg hne]
theorem Ex.putP {B C : pM} {a j v : Nat} (h : Ex B C) (ha : pN B ≤ a) : Ex B (psP C a j v) := by
  refine ⟨h.1, fun x hx => ⟨(h.2 x hx).1, ?_, (h.2 x hx).2.2⟩⟩
  rw [← (h.2 x hx).2.1]
  funext y
  show (if x = a ∧ y = j then v else C.2.2.2.1 x y) = C.2.2.2.1 x y
  rw [if_neg (fun z => by omega)]
theorem psP_at {B : pM} {a j v x y : Nat} : pP (psP B a j v) x y = if x = a ∧ y = j then v else pP B x y := rfl
/-! READER, WHOLE -/
theorem c_ginit {d : Nat} (hd : 1 ≤ d) {B : pM} {I : pIm} {qt qp qb : Nat} {K : pM → Prop} (ht : pK B qt = (1, 10)) (hp : pP B qt 1 = (qt + 43) + 1) (hq : qt < pN B)
    (h : ∀ C J, Ex B C → pN C = pN B + 1 → pK C (pN B) = (1, 2) → (pP C (pN B) 0 = qt + 1 ∧ pP C (pN B) 1 = (qt + 43) + 1 ∧ pP C (pN B) 2 = qp + 1 ∧ pP C (pN B) 3 = qb + 1) → J (pN B) 4 = nI 0 → (∀ x, x ≠ pN B → J x = I x) → K (pset C J)) : pCall_v d mX2_init (0, 0) [.ref (pN B), .ref qt, .ref qp, .ref qb] (pnew (pset B I) (1, 2)) K := by
  refine CP_go hd okX2_init (Nat.le_of_ble_eq_true rfl) ?_
  have hne : qt ≠ pN B := Nat.ne_of_lt hq
  have k0 : pK (pnew B (1, 2)) (pN B) = (1, 2) := if_pos rfl
  have kt : pK (pnew B (1, 2)) qt = (1, 10) := (if_neg hne).trans ht
  have pt : pP (pnew B (1, 2)) qt 1 = (qt + 43) + 1 := (if_neg hne).trans hp
  refine bX2_init_0 ⟨k0, fun N1 e1 => ⟨by rw [e1]; exact k0, fun N2 e2 => ⟨by rw [e2, e1]; exact kt, qt + 43, ?_, by rw [e2, e1]; exact k0, fun N3 e3 => ⟨by rw [e3, e2, e1]; exact k0, fun N4 e4 => ⟨by rw [e4, e3, e2, e1]; exact k0, fun N5 e5 => ⟨rfl, ?_⟩⟩⟩⟩⟩⟩
  · rw [e2, e1]
    exact (if_neg (fun z => hne z.1)).trans pt
  · rw [e5, e4, e3, e2, e1, pnew_pset, psI_set, psP_pset, psP_pset, psP_pset, psP_pset]
    refine h _ _ ((((Ex.new.putP (Nat.le_refl _)).putP (Nat.le_refl _)).putP (Nat.le_refl _)).putP (Nat.le_refl _)) rfl k0 ?_ u2_same (fun x hx => ?_)
    · simp [psP_at]
    · funext y
      show (if x = pN B ∧ y = 4 then _ else if x = pN B then _ else I x y) = I x y
      rw [if_neg (fun z => hx z.1), if_neg hx]
def smF (t : tK) (tp : List Int32) : Nat → Nat → bK → List Int32 → Int32 × Nat × bK × List Int32
  | 0, i, b, me => (0, i, b, me)
  | n + 1, i, b, me => if (lkAt t tp i b me).1 = 0 then smF t tp n (i + 1) (lkAt t tp i b me).2.1 (lkAt t tp i b me).2.2 else ((lkAt t tp i b me).1, i, b, me)
def rdP (tp : List Int32) : gRL := (gRd (kfT (tkT tp)) (nmT tp (tkT tp)) 5000 0).getD (false, 0, [])
def bKs (l : List (List (Int32 × Int32) × List (Int32 × Int32))) : bK := (bK0.1, bK0.2.1, bK0.2.2.1, bK0.2.2.2.1, bK0.2.2.2.2.1, bBs bK0.2.2.2.2.2 l)
def rdM (tp : List Int32) : Int32 × Nat × bK × List Int32 := smF (tkT tp) tp (tkT tp).1.length 0 (bKs (rdP tp).2.2) (List.replicate 401 (-1))
/-- the book with what the names stand for -/
def lnkB (b : bK) (me : List Int32) : bK := (b.1, b.2.1, b.2.2.1, b.2.2.2.1, b.2.2.2.2.1, (b.2.2.2.2.2.1, b.2.2.2.2.2.2.1, b.2.2.2.2.2.2.2.1, b.2.2.2.2.2.2.2.2.1, b.2.2.2.2.2.2.2.2.2.1, lnkL me b.2.2.2.2.2.2.2.2.2.1 b.2.2.2.2.2.2.2.2.2.2.1 b.2.2.2.2.2.2.2.2.2.1.length, b.2.2.2.2.2.2.2.2.2.2.2))
/-- what a reading gives: the error, its position, the book -/
def rdOut (tp : List Int32) : Int32 × Int32 × bK := match (rdP tp).1 with
  | false => (1, rat (tkT tp).2.1 (nI (rdP tp).2.1), bK0)
  | true => if (rdM tp).1 = 0 then (0, -1, lnkB (rdM tp).2.2.1 (rdM tp).2.2.2) else ((rdM tp).1, rat (tkT tp).2.1 (nI (rdM tp).2.1), bK0)
theorem tk_kfM {tp : List Int32} (h2 : tp.length ≤ 2000) : ∃ n, n ≤ 400 ∧ (tkT tp).1.length = n + 1 ∧ (tkT tp).2.1.length = n + 1 ∧ kfM (kfT (tkT tp)) n ∧ ∀ x ∈ (tkT tp).2.1, 0 ≤ x := by
  obtain ⟨n, h1, h3, h4, h5, h6⟩ := tkT_fin h2
  have hl := tkR_len (tp := tp) 401 0 0 ([], [], []) ⟨rfl, rfl, rfl⟩
  refine ⟨n, h3, h1, hl.2.1.trans h1, fun a ha => ?_, h6⟩
  by_cases e : a = n
  · subst e
    rcases h4 with h4 | h4
    · exact Or.inl h4
    · exact Or.inr (Or.inl h4)
  · refine Or.inr (Or.inr ?_)
    unfold kfT
    rw [List.getD_eq_getElem?_getD, List.getElem?_eq_none (by omega)]
    rfl
theorem c_rread {d : Nat} (hd : 120 ≤ d) {B : pM} {I : pIm} {q qp qb : Nat} {tp : List Int32} {b : bK} {K : Int32 → pM → Prop} (hg : rdE B q qp qb) (hN : q + 54 ≤ pN B) (hN1 : qp + 2 ≤ pN B) (hN2 : qb + 527 ≤ pN B) (hN3 : pN B < pBIG) (hkw : Nm I (q + 2) 19 keyw) (lt : Rw I qp tp) (h2000 : tp.length ≤ 2000) (htb : byteL tp) (lb : Bk I qb b)
    (h : ∀ C J b', Ex B C → pN C = pN B + 1 → (∀ x, (x < q ∨ (q + 2 ≤ x ∧ x < q + 44) ∨ q + 54 ≤ x) → (x < qb ∨ qb + 527 ≤ x) → x ≠ pN B → J x = I x) → J q 2 = (rdOut tp).2.1 → Bk J qb b' → ((rdOut tp).1 = 0 → b' = (rdOut tp).2.2) → K (rdOut tp).1 (pset C J)) : pCall_i d mX7_read (1, 5) [.ref q, .ref qp, .ref qb] (pset B I) K := by
  refine CP_go (by omega) okX7_read (Nat.le_of_ble_eq_true rfl) ?_
  obtain ⟨g0, ⟨gp0, gp1⟩, gt, gm, gtp, gb, s1, s2, s3⟩ := id hg
  have p5 : pP B qb 5 = (qb + 110) + 1 := gb.2.1.2.2.2.2.2
  have t10 : pK B (q + 1) = (1, 10) := gt.1
  have tp1 : pP B (q + 1) 1 = (q + 1 + 43) + 1 := gt.2.1.2.1
  obtain ⟨n0, hn1, hn2, hn3, hkm, hst⟩ := tk_kfM h2000
  have hkE : kfE (kfT (tkT tp)) := fun a ha => hkm a (by omega)
  obtain ⟨⟨ok, a', sl⟩, hrd⟩ := gRd_tot hkm (nm := nmT tp (tkT tp)) 5000 0 (by omega)
  have hP : rdP tp = (ok, a', sl) := by unfold rdP; rw [hrd]; rfl
  have ha' : a' ≤ n0 := (gRd_m hkm _ _ _ hrd).2 (by omega)
  have dd : 112 ≤ d - 1 := by omega
  clear hd
  refine bX7_read_0 ⟨gb.1, c_kclr (by omega) gb lb (fun J1 k1 f1 => ⟨g0, _, gp0, gt.1, c_tread (by omega) gt (hkw.f f1 (by omega)) gtp h2000 h2000 (by omega) (lt.f f1 (by omega)) htb (fun J2 k2 f2 => ⟨Nat.le_refl _, Nat.le_refl _, hN3, ?_⟩)⟩)⟩
  have e0 : q ≠ pN B := by omega
  have eb : qb ≠ pN B := by omega
  refine ⟨(if_neg e0).trans g0, q + 1, (if_neg e0).trans gp0, (if_neg eb).trans gb.1, qb + 110, (if_neg eb).trans p5, c_ginit (B := B) (I := J2) (by omega) t10 tp1 (show q + 1 < pN B by omega) (fun C J3 hx hNC kg pg j4 fr3 => ⟨kg, ?_⟩)⟩
  have gx := hg.ex hx hN hN1 hN2
  have hgr : gramE C (pN B) (q + 1) qp (qb + 110) := ⟨kg, pg, gx.2.2.1, gx.2.2.2.2.1, gx.2.2.2.2.2.1.2.2.2.2.2.2.2, by omega, by omega, by omega, by omega, by omega⟩
  have fI : ∀ x, (x < q ∨ (q + 2 ≤ x ∧ x < q + 44) ∨ q + 54 ≤ x) → (x < qb ∨ qb + 527 ≤ x) → x ≠ pN B → J3 x = I x := fun x x1 x2 x3 => by
    rw [fr3 x x3, f2 x (by omega), f1 x (by omega)]
  have F3 : Fr (pN B) (pN B + 1) J2 J3 := fun x hx => fr3 x (by omega)
  have T3 : Tk J3 (q + 1) (tkT tp) := k2.f F3 (by omega)
  have P3 : Rw J3 qp tp := lt.fr (fI qp (by omega) (by omega) (by omega)) (fI (qp + 1) (by omega) (by omega) (by omega))
  have B3 : Bk J3 qb bK0 := (k1.f f2 (by omega)).f F3 (by omega)
  have S3 : gS J3 (pN B) (q + 1) qp (qb + 110) (tkT tp) tp 0 bK0.2.2.2.2.2 := ⟨j4, T3, P3, h2000, B3.2.2.2.2.2.1, by omega⟩
  refine g_read (a := 0) hgr hkE dd hrd S3 (fun J4 b4 S4 hb4 F4 => ?_)
  have B4 : Bk J4 qb (bK0.1, bK0.2.1, bK0.2.2.1, bK0.2.2.2.1, bK0.2.2.2.2.1, b4) := by
    obtain ⟨l1, l2, l3, l4, l5, l6, l7, l8⟩ := B3
    have F : Fr (qb + 110) (qb + 527) J3 (fun x => if x = pN B then J3 x else J4 x) := fun x hx => by
      show (if x = pN B then J3 x else J4 x) = J3 x
      by_cases e : x = pN B
      · rw [if_pos e]
      · rw [if_neg e]; exact F4 x e (by omega)
    have G : Fr (pN B) (pN B + 1) (fun x => if x = pN B then J3 x else J4 x) J4 := fun x hx => by
      show J4 x = (if x = pN B then J3 x else J4 x)
      rw [if_neg (by omega)]
    exact ⟨(l1.f F (by omega)).f G (by omega), (l2.f F (by omega)).f G (by omega), (l3.f F (by omega)).f G (by omega), (l4.f F (by omega)).f G (by omega), (l5.f F (by omega)).f G (by omega), S4.2.2.2.2.1, l7, l8⟩
  have fI4 : ∀ x, (x < q ∨ (q + 2 ≤ x ∧ x < q + 44) ∨ q + 54 ≤ x) → (x < qb ∨ qb + 527 ≤ x) → x ≠ pN B → J4 x = I x := fun x x1 x2 x3 => by
    rw [F4 x x3 (by omega)]; exact fI x x1 x2 x3
  refine ⟨gx.1, gx.1, ?_⟩
  have hpos : ¬ rat (tkT tp).2.1 (nI a') < 0 := by
    rw [rat_nI (by omega), List.getD_eq_getElem?_getD, List.getElem?_eq_getElem (by omega)]
    exact Int32.not_lt.mpr (hst _ (List.getElem_mem (by omega)))
  rw [psI_set]
  generalize hv : (if ok = true then (-1 : Int32) else rat (tkT tp).2.1 (nI a')) = v
  have fu : Fr q (q + 1) J4 (u2 J4 q 2 v) := Fr.u (by omega) (by omega)
  have e2 : pI (pset C (u2 J4 q 2 v)) q 2 = v := u2_same
  rw [e2]
  have fI5 : ∀ x, (x < q ∨ (q + 2 ≤ x ∧ x < q + 44) ∨ q + 54 ≤ x) → (x < qb ∨ qb + 527 ≤ x) → x ≠ pN B → u2 J4 q 2 v x = I x := fun x x1 x2 x3 => by
    rw [fu x (by omega)]; exact fI4 x x1 x2 x3
  match ok, hP, hv, hb4 with
  | false, hP, hv, hb4 =>
    have eO : rdOut tp = (1, rat (tkT tp).2.1 (nI a'), bK0) := by unfold rdOut; rw [hP]
    have hv' : rat (tkT tp).2.1 (nI a') = v := hv
    refine ⟨fun z => absurd z (by rw [← hv']; exact hpos), fun _ => ⟨_, rfl, ?_⟩⟩
    rw [eO] at h
    exact h C _ _ hx hNC fI5 (u2_same.trans hv'.symm) (B4.f fu (by omega)) (fun z => absurd z (by decide : ¬ (1 : Int32) = 0))
  | true, hP, hv, hb4 =>
    have hv' : (-1 : Int32) = v := hv
    have hb5 := hb4 rfl
    refine ⟨fun _ => ⟨gx.1, _, gx.2.1.2, gx.2.2.2.1.1, c_fill (by omega) gx.2.2.2.1 (fun J6 k6 f6 => ?_)⟩, fun z => absurd (by rw [← hv']; decide) z⟩
    have B5 := B4.f fu (by omega)
    rw [hb5] at B5
    have hS6 : rdS J6 q qp qb (tkT tp) tp (bKs sl) (List.replicate 401 (-1)) := ⟨(S4.2.1.f fu (by omega)).f f6 (by omega), (S4.2.2.1.f fu (by omega)).f f6 (by omega), h2000, B5.f f6 (by omega), k6, by rw [List.length_replicate]; omega⟩
    have f36 : Fr3 q qb (u2 J4 q 2 v) J6 := fun x hx _ => f6 x (by omega)
    have hlen : (tkT tp).1.length = n0 + 1 := hn2
    have key : ∀ (m i : Nat) (b1 : bK) (me : List Int32) (J : pIm), (tkT tp).1.length - i = m → i ≤ (tkT tp).1.length → rdS J q qp qb (tkT tp) tp b1 me → Fr3 q qb (u2 J4 q 2 v) J → rdM tp = smF (tkT tp) tp m i b1 me → Go (d - 1) mX7_read (fun r M1 => ∃ v, r = .inl (some (.int v)) ∧ K v M1) 54 ([some (.ref q), some (.ref qp), some (.ref qb), some (.int (nI i)), none], [], 0, 0) (pset C J) := by
      have eT : ∀ r, rdM tp = r → rdOut tp = if r.1 = 0 then (0, -1, lnkB r.2.2.1 r.2.2.2) else (r.1, rat (tkT tp).2.1 (nI r.2.1), bK0) := fun r hr => by unfold rdOut; rw [hP, ← hr]
      intro m
      induction m with
      | zero =>
        intro i b1 me J hm hi hS hf he
        refine bX7_read_54 ⟨gx.1, _, gx.2.1.1, gx.2.2.1.1, c_tsize (by omega) gx.2.2.1 hS.1 ⟨fun g => ⟨gx.2.2.2.2.2.1.1, _, gx.2.2.2.2.2.1.2.1.2.2.2.2.2, gx.1, _, gx.2.1.2, gx.2.2.2.2.2.1.2.2.2.2.2.2.2.1, ?_⟩, fun g => absurd (nI_le (show (tkT tp).1.length ≤ i by omega) (by omega)) g⟩⟩
        refine c_link (by omega) gx.2.2.2.2.2.1.2.2.2.2.2.2.2 hS.2.2.2.1.2.2.2.2.2.1 gx.2.2.2.1 hS.2.2.2.2.2 (by omega) hS.2.2.2.2.1 (fun J7 k7 f7 => ⟨_, rfl, ?_⟩)
        have eO := eT _ he
        rw [smF, if_pos rfl] at eO
        have B7 := hS.2.2.2.1.u6 (f7.mono (by omega) (by omega)) k7
        rw [eO] at h
        refine h C J7 _ hx hNC (fun x x1 x2 x3 => ?_) ?_ B7 (fun _ => rfl)
        · rw [f7 x (by omega), hf x (by omega) x2]; exact fI5 x x1 x2 x3
        · show J7 q 2 = -1
          rw [f7 q (by omega), hf q (by omega) (by omega)]
          exact u2_same.trans hv'.symm
      | succ m ih =>
        intro i b1 me J hm hi hS hf he
        refine bX7_read_54 ⟨gx.1, _, gx.2.1.1, gx.2.2.1.1, c_tsize (by omega) gx.2.2.1 hS.1 ⟨fun g => absurd ((nI_leI (by omega) (by omega)).mp g) (by omega), fun g => ⟨gx.1, c_lookAt (by omega) gx hS (fun J7 b7 me7 S7 hb7 F7 => ?_)⟩⟩⟩
        rw [smF] at he
        refine ⟨fun z => ?_, fun z => ⟨gx.1, _, gx.2.1.1, gx.2.2.1.1, c_tstart (by omega) gx.2.2.1 S7.1 ⟨gx.1, _, rfl, ?_⟩⟩⟩
        · rw [if_pos z] at he
          rw [nI_1]
          obtain ⟨rfl, rfl⟩ := hb7 z
          exact ih (i + 1) _ _ J7 (by omega) (by omega) S7 (hf.tr F7) he
        · rw [if_neg z] at he
          have eO := eT _ he
          rw [if_neg (show ¬ ((lkAt (tkT tp) tp i b1 me).1, i, b1, me).1 = 0 from z)] at eO
          rw [psI_set]
          have fw : Fr q (q + 1) J7 (u2 J7 q 2 (rat (tkT tp).2.1 (nI i))) := Fr.u (by omega) (by omega)
          rw [eO] at h
          refine h C _ b7 hx hNC (fun x x1 x2 x3 => ?_) u2_same (S7.2.2.2.1.f fw (by omega)) (fun y => absurd y z)
          rw [fw x (by omega), F7 x (by omega) x2, hf x (by omega) x2]
          exact fI5 x x1 x2 x3
    refine key _ 0 _ _ J6 rfl (by omega) hS6 f36 ?_
    unfold rdM
    rw [hP]
    rfl
