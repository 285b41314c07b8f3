/-! READER, TOKEN BY TOKEN -/
/-- the error, the book and the meanings -/
abbrev lR : Type := Int32 × bK × List Int32
def lkKey (nm : List Int32) (b : bK) (me : List Int32) : lR := if b.2.2.2.2.1.2.2 < 4 then (match addK b.2.2.2.2.1.2.2 nm 0 (b.2.2.2.2.1.1, b.2.2.2.2.1.2.1) with
  | some r => (0, (b.1, b.2.1, b.2.2.1, b.2.2.2.1, (r.1, r.2, b.2.2.2.2.1.2.2 + 1), b.2.2.2.2.2), me)
  | none => (6, b, me)) else (4, b, me)
def lkName (kp : Int32) (nm : List Int32) (i : Int32) (b : bK) (me : List Int32) : lR :=
  if kp = 0 then (if fidx b.1 nm 0 < 0 then (if b.1.length < 6 then (0, (b.1 ++ [nm], b.2), me) else (4, b, me)) else (2, b, me))
  else if kp = 1 then (if fidx b.2.1 nm 0 < 0 then (if b.2.1.length < 40 then (0, (b.1, b.2.1 ++ [nm], pushL 40 b.2.2.1 0, pushL 40 b.2.2.2.1 (-1), b.2.2.2.2), me) else (4, b, me)) else (2, b, me))
  else if kp = 2 ∨ kp = 12 then (if 0 ≤ fidx b.2.1 nm 0 then 0 else 3, b, rput me i (fidx b.2.1 nm 0))
  else if kp = 3 then (if 0 ≤ fidx b.1 nm 0 then 0 else 3, (b.1, b.2.1, b.2.2.1, rput b.2.2.2.1 (nI b.2.1.length - 1) (fidx b.1 nm 0), b.2.2.2.2), me)
  else if kp = 5 then (if 0 ≤ fidx b.1 nm 0 then 0 else 3, (b.1, b.2.1, b.2.2.1, b.2.2.2.1, b.2.2.2.2.1, (pushL 12 b.2.2.2.2.2.1 (fidx b.1 nm 0), b.2.2.2.2.2.2)), me)
  else if kp = 13 then (if b.2.2.2.2.2.2.2.2.2.2.2.length < 200 then (0, (b.1, b.2.1, b.2.2.1, b.2.2.2.1, b.2.2.2.2.1, (b.2.2.2.2.2.1, b.2.2.2.2.2.2.1, b.2.2.2.2.2.2.2.1, b.2.2.2.2.2.2.2.2.1, b.2.2.2.2.2.2.2.2.2.1, b.2.2.2.2.2.2.2.2.2.2.1, b.2.2.2.2.2.2.2.2.2.2.2 ++ [nm])), rput me i (nI b.2.2.2.2.2.2.2.2.2.2.2.length)) else (0, b, rput me i (-1)))
  else lkKey nm b me
def lkAt (t : tK) (tp : List Int32) (i : Nat) (b : bK) (me : List Int32) : lR :=
  if rat t.1 (nI i) = 5 then (if b.2.2.2.2.2.1.length < 12 then 0 else 4, b, me)
  else if rat t.1 (nI i) = 20 then lkName (rat t.1 (nI i - 1)) (spl tp t (nI i)) (nI i) b me
  else if rat t.1 (nI i) = 21 then (if rat t.1 (nI i - 1) = 2 then (if numO tp t (nI i) ≤ 9999 then 0 else 5, (b.1, b.2.1, rput b.2.2.1 (nI b.2.1.length - 1) (numO tp t (nI i)), b.2.2.2), me) else (0, b, me))
  else (0, b, me)
def rdE (B : pM) (q qp qb : Nat) : Prop := pK B q = (1, 7) ∧ (pP B q 0 = (q + 1) + 1 ∧ pP B q 1 = (q + 52) + 1) ∧ toksS B (q + 1) ∧ rowS B (q + 52) 401 ∧ rowS B qp 2000 ∧ bookS B qb ∧ (q + 54 ≤ qb ∨ qb + 527 ≤ q) ∧ (qp + 2 ≤ q ∨ q + 54 ≤ qp) ∧ (qp + 2 ≤ qb ∨ qb + 527 ≤ qp)
def rdS (I : pIm) (q qp qb : Nat) (t : tK) (tp : List Int32) (b : bK) (me : List Int32) : Prop := Tk I (q + 1) t ∧ Rw I qp tp ∧ tp.length ≤ 2000 ∧ Bk I qb b ∧ Rw I (q + 52) me ∧ me.length ≤ 401
def Fr3 (q qb : Nat) (I J : pIm) : Prop := ∀ x, (x < q + 50 ∨ q + 54 ≤ x) → (x < qb ∨ qb + 527 ≤ x) → J x = I x
theorem Fr3.rf {q qb : Nat} {I : pIm} : Fr3 q qb I I := fun _ _ _ => rfl
theorem Fr3.tr {q qb : Nat} {I J K : pIm} (h : Fr3 q qb I J) (h2 : Fr3 q qb J K) : Fr3 q qb I K := fun x h3 h4 => (h2 x h3 h4).trans (h x h3 h4)
theorem r_book {B : pM} {I J : pIm} {q qp qb : Nat} {t : tK} {tp me : List Int32} {b b' : bK} (hg : rdE B q qp qb) (h : rdS I q qp qb t tp b me) (f : Fr qb (qb + 527) I J) (j : Bk J qb b') : rdS J q qp qb t tp b' me ∧ Fr3 q qb I J := by
  obtain ⟨g0, -, -, -, -, -, s1, s2, s3⟩ := hg
  obtain ⟨h1, h2, h3, h4, h5, h6⟩ := h
  exact ⟨⟨h1.f f (by omega), h2.f f (by omega), h3, j, h5.f f (by omega), h6⟩, fun x _ hx => f x hx⟩
theorem r_me {B : pM} {I J : pIm} {q qp qb : Nat} {t : tK} {tp me me' : List Int32} {b : bK} (hg : rdE B q qp qb) (h : rdS I q qp qb t tp b me) (f : Fr (q + 52) (q + 54) I J) (j : Rw J (q + 52) me') (hl : me'.length ≤ 401) : rdS J q qp qb t tp b me' ∧ Fr3 q qb I J := by
  obtain ⟨g0, -, -, -, -, -, s1, s2, s3⟩ := hg
  obtain ⟨h1, h2, h3, h4, h5, h6⟩ := h
  exact ⟨⟨h1.f f (by omega), h2.f f (by omega), h3, h4.f f (by omega), j, hl⟩, fun x hx _ => f x (by omega)⟩
theorem r_sp {B : pM} {I J : pIm} {q qp qb : Nat} {t : tK} {tp me : List Int32} {b : bK} (hg : rdE B q qp qb) (h : rdS I q qp qb t tp b me) (f : Fr (q + 50) (q + 52) I J) : rdS J q qp qb t tp b me ∧ Fr3 q qb I J := by
  obtain ⟨g0, -, -, -, -, -, s1, s2, s3⟩ := hg
  obtain ⟨h1, h2, h3, h4, h5, h6⟩ := h
  exact ⟨⟨h1.f f (by omega), h2.f f (by omega), h3, h4.f f (by omega), h5.f f (by omega), h6⟩, fun x hx _ => f x (by omega)⟩
def lkOut (B : pM) (q qp qb : Nat) (t : tK) (tp : List Int32) (I : pIm) (r : lR) (K : Int32 → pM → Prop) : Prop := ∀ J b' me', rdS J q qp qb t tp b' me' → (r.1 = 0 → b' = r.2.1 ∧ me' = r.2.2) → Fr3 q qb I J → K r.1 (pset B J)
theorem fidx_pos {ls : List (List Int32)} {l : List Int32} {k : Nat} (h : ls.length + k < 2 ^ 31) : fidx ls l k = -1 ∨ 0 ≤ fidx ls l k := by
  induction ls generalizing k with
  | nil => exact Or.inl rfl
  | cons a r ih =>
    unfold fidx
    simp only [List.length_cons] at h
    split
    · exact Or.inr (nI_pos' (by omega))
    · exact ih (by omega)
theorem Bk.u1 {I J : pIm} {q : Nat} {b : bK} {x : List (List Int32)} (h : Bk I q b) (f : Fr (q + 1) (q + 17) I J) (j : Nm J (q + 1) 6 x) : Bk J q (x, b.2) := by
  obtain ⟨l1, l2, l3, l4, l5, l6, l7, l8⟩ := h
  exact ⟨j, l2.f f (by omega), l3.f f (by omega), l4.f f (by omega), l5.f f (by omega), l6.f f (by omega), l7, l8⟩
theorem Bk.u3 {I J : pIm} {q : Nat} {b : bK} {x : List Int32} (h : Bk I q b) (f : Fr (q + 101) (q + 103) I J) (j : Rw J (q + 101) x) (hx : x.length ≤ 40) : Bk J q (b.1, b.2.1, x, b.2.2.2) := by
  obtain ⟨l1, l2, l3, l4, l5, l6, l7, l8⟩ := h
  exact ⟨l1.f f (by omega), l2.f f (by omega), j, l4.f f (by omega), l5.f f (by omega), l6.f f (by omega), hx, l8⟩
theorem Bk.u4 {I J : pIm} {q : Nat} {b : bK} {x : List Int32} (h : Bk I q b) (f : Fr (q + 103) (q + 105) I J) (j : Rw J (q + 103) x) (hx : x.length ≤ 40) : Bk J q (b.1, b.2.1, b.2.2.1, x, b.2.2.2.2) := by
  obtain ⟨l1, l2, l3, l4, l5, l6, l7, l8⟩ := h
  exact ⟨l1.f f (by omega), l2.f f (by omega), l3.f f (by omega), j, l5.f f (by omega), l6.f f (by omega), l7, hx⟩
theorem Bk.u5 {I J : pIm} {q : Nat} {b : bK} {ro po : List Int32} {nr : Int32} (h : Bk I q b) (f : Fr (q + 105) (q + 110) I J) (j : Kv J (q + 105) ro po nr) : Bk J q (b.1, b.2.1, b.2.2.1, b.2.2.2.1, (ro, po, nr), b.2.2.2.2.2) := by
  obtain ⟨l1, l2, l3, l4, l5, l6, l7, l8⟩ := h
  exact ⟨l1.f f (by omega), l2.f f (by omega), l3.f f (by omega), l4.f f (by omega), j, l6.f f (by omega), l7, l8⟩
theorem Bk.u6 {I J : pIm} {q : Nat} {b : bK} {x : bB} (h : Bk I q b) (f : Fr (q + 110) (q + 527) I J) (j : Bo J (q + 110) x) : Bk J q (b.1, b.2.1, b.2.2.1, b.2.2.2.1, b.2.2.2.2.1, x) := by
  obtain ⟨l1, l2, l3, l4, l5, l6, l7, l8⟩ := h
  exact ⟨l1.f f (by omega), l2.f f (by omega), l3.f f (by omega), l4.f f (by omega), l5.f f (by omega), j, l7, l8⟩
theorem Bo.u1 {I J : pIm} {q : Nat} {b : bB} {x : List Int32} (h : Bo I q b) (f : Fr (q + 1) (q + 3) I J) (j : Rw J (q + 1) x) (hx : x.length ≤ 12) : Bo J q (x, b.2) := by
  obtain ⟨m1, m2, m3, m4, m5, m6, m7, m8⟩ := h
  exact ⟨j, m2.f f (by omega), m3.f f (by omega), m4.f f (by omega), m5.f f (by omega), m6.f f (by omega), m7.f f (by omega), hx, m8.2⟩
theorem Bo.u7 {I J : pIm} {q : Nat} {b : bB} {x : List (List Int32)} (h : Bo I q b) (f : Fr (q + 13) (q + 417) I J) (j : Nm J (q + 13) 200 x) : Bo J q (b.1, b.2.1, b.2.2.1, b.2.2.2.1, b.2.2.2.2.1, b.2.2.2.2.2.1, x) := by
  obtain ⟨m1, m2, m3, m4, m5, m6, m7, m8⟩ := h
  exact ⟨m1.f f (by omega), m2.f f (by omega), m3.f f (by omega), m4.f f (by omega), m5.f f (by omega), m6.f f (by omega), j, m8⟩
theorem c_keyRow {d : Nat} (hd : 3 ≤ d) {B : pM} {I : pIm} {q qp qb : Nat} {t : tK} {tp me nm : List Int32} {b : bK} {K : Int32 → pM → Prop} (hg : rdE B q qp qb) (h : rdS I q qp qb t tp b me) (hn : Rw I (q + 50) nm) (h10 : nm.length ≤ 10) (hK : lkOut B q qp qb t tp I (lkKey nm b me) K) : pCall_i d mX7_keyRow (0, 0) [.ref q, .ref (q + 50), .ref (qb + 105)] (pset B I) K := by
  refine CP_go (by omega) okX7_keyRow (Nat.le_of_ble_eq_true rfl) ?_
  have hb := hg.2.2.2.2.2.1
  have hk : keysS B (qb + 105) := hb.2.2.2.2.2.2.1
  have s1 := hg.2.2.2.2.2.2.1
  obtain ⟨l1, l2, l3, l4, l5, l6, l7, l8⟩ := h.2.2.2.1
  unfold lkKey at hK
  refine bX7_keyRow_0 ⟨hk.1, c_krows (by omega) hk l5 ⟨fun g => ⟨hk.1, ?_⟩, fun g => ⟨_, rfl, ?_⟩⟩⟩
  · rw [if_pos g] at hK
    refine c_addRow (by omega) hk l5 hg.2.2.1.2.2.2.2.2.2 h10 (by omega) hn (fun J r e1 k1 f1 => ⟨fun x => absurd x (by decide), fun _ => ⟨_, rfl, ?_⟩⟩) (fun J ro2 po2 e1 k1 f1 => ⟨fun _ => ⟨_, rfl, ?_⟩, fun z => absurd rfl z⟩)
    · rw [e1] at hK
      have bk : Bk J qb (b.1, b.2.1, b.2.2.1, b.2.2.2.1, (r.1, r.2, b.2.2.2.2.1.2.2 + 1), b.2.2.2.2.2) := ⟨l1.f f1 (by omega), l2.f f1 (by omega), l3.f f1 (by omega), l4.f f1 (by omega), k1, l6.f f1 (by omega), l7, l8⟩
      obtain ⟨x1, x2⟩ := r_book hg h (f1.mono (by omega) (by omega)) bk
      exact hK J _ me x1 (fun _ => ⟨rfl, rfl⟩) x2
    · rw [e1] at hK
      have bk : Bk J qb (b.1, b.2.1, b.2.2.1, b.2.2.2.1, (ro2, po2, b.2.2.2.2.1.2.2), b.2.2.2.2.2) := ⟨l1.f f1 (by omega), l2.f f1 (by omega), l3.f f1 (by omega), l4.f f1 (by omega), k1, l6.f f1 (by omega), l7, l8⟩
      obtain ⟨x1, x2⟩ := r_book hg h (f1.mono (by omega) (by omega)) bk
      exact hK J _ me x1 (fun e => absurd e (by decide : ¬ (6 : Int32) = 0)) x2
  · rw [if_neg g] at hK
    exact hK I b me h (fun _ => ⟨rfl, rfl⟩) Fr3.rf
theorem c_weigh {d : Nat} (hd : 2 ≤ d) {B : pM} {I : pIm} {q qp qb : Nat} {t : tK} {tp me : List Int32} {b : bK} {x : Int32} {K : Int32 → pM → Prop} (hg : rdE B q qp qb) (h : rdS I q qp qb t tp b me) (hK : lkOut B q qp qb t tp I (if x ≤ 9999 then 0 else 5, (b.1, b.2.1, rput b.2.2.1 (nI b.2.1.length - 1) x, b.2.2.2), me) K) : pCall_i d mX7_weigh (0, 0) [.ref q, .int x, .ref qb] (pset B I) K := by
  refine CP_go (by omega) okX7_weigh (Nat.le_of_ble_eq_true rfl) ?_
  obtain ⟨b0, ⟨p0, p1, p2, p3, p4, p5⟩, r1, r2, r3, r4, r5, r6⟩ := hg.2.2.2.2.2.1
  obtain ⟨l1, l2, l3, l4, l5, l6, l7, l8⟩ := h.2.2.2.1
  refine bX7_weigh_0 ⟨b0, _, p2, b0, _, p1, r2.1, c_nsize (by omega) r2 l2 ⟨r3.1, c_put (by omega) r3 l7 l3 (fun J k1 f1 => ?_)⟩⟩
  have bk : Bk J qb (b.1, b.2.1, rput b.2.2.1 (nI b.2.1.length - 1) x, b.2.2.2) := ⟨l1.f f1 (by omega), l2.f f1 (by omega), k1, l4.f f1 (by omega), l5.f f1 (by omega), l6.f f1 (by omega), by show (rput _ _ _).length ≤ 40; rw [rput_len]; exact l7, l8⟩
  obtain ⟨x1, x2⟩ := r_book hg h (f1.mono (by omega) (by omega)) bk
  refine ⟨fun g => ⟨_, rfl, ?_⟩, fun g => ⟨_, rfl, ?_⟩⟩
  · rw [if_pos g] at hK
    exact hK J _ me x1 (fun _ => ⟨rfl, rfl⟩) x2
  · rw [if_neg g] at hK
    exact hK J _ me x1 (fun _ => ⟨rfl, rfl⟩) x2
theorem c_lookAtName {d : Nat} (hd : 5 ≤ d) {B : pM} {I : pIm} {q qp qb : Nat} {t : tK} {tp me nm : List Int32} {b : bK} {i : Int32} {K : Int32 → pM → Prop} (hg : rdE B q qp qb) (h : rdS I q qp qb t tp b me) (hn : Rw I (q + 50) nm) (h10 : nm.length ≤ 10) (hK : lkOut B q qp qb t tp I (lkName (rat t.1 (i - 1)) nm i b me) K) : pCall_i d mX7_lookAtName (0, 0) [.ref q, .int i, .ref (q + 50), .ref qb] (pset B I) K := by
  refine CP_go (by omega) okX7_lookAtName (Nat.le_of_ble_eq_true rfl) ?_
  have d4 : 4 ≤ d - 1 := by omega
  have d3 : 3 ≤ d - 1 := by omega
  have d2 : 2 ≤ d - 1 := by omega
  have d1 : 1 ≤ d - 1 := by omega
  have s1 := hg.2.2.2.2.2.2.1
  have e1 : (q + 50) + 1 < qb + 1 ∨ (qb + 1) + 4 + 2 * 6 ≤ q + 50 := by omega
  have e2 : (q + 50) + 1 < qb ∨ qb + 527 ≤ q + 50 := by omega
  have e3 : (q + 50) + 1 < (qb + 110) + 13 ∨ (qb + 110) + 13 + 4 + 2 * 200 ≤ q + 50 := by omega
  clear s1 hd
  have gt := hg.2.2.1
  have gm := hg.2.2.2.1
  have gb := hg.2.2.2.2.2.1
  have gs : rowS B (q + 50) 10 := gt.2.2.2.2.2.2
  have k4 := h.2.2.2.1
  have l2 := k4.2.1
  have l6 := k4.2.2.2.2.2.1
  have u := gb.2.2.2.2.2.2.2
  refine bX7_lookAtName_0 ⟨gb.1, _, gb.2.1.1, gb.2.2.1.1, c_nfind d3 gb.2.2.1 k4.1 gs h10 hn ⟨gb.1, _, gb.2.1.2.1, gb.2.2.2.1.1, c_nfind d3 gb.2.2.2.1 l2 gs h10 hn ⟨hg.1, _, hg.2.1.1, gt.1, c_tkind d2 gt h.1 ?_⟩⟩⟩
  unfold lkName at hK
  generalize rat t.1 (i - 1) = kp at hK ⊢
  have row : (kp ≠ 0 ∧ kp ≠ 1 ∧ ¬ (kp = 2 ∨ kp = 12) ∧ kp ≠ 3 ∧ kp ≠ 5 ∧ kp ≠ 13) → Go (d - 1) mX7_lookAtName (fun r M1 => ∃ v, r = .inl (some (.int v)) ∧ K v M1) 239 ([some (.ref q), none, some (.ref (q + 50)), some (.ref qb), none, none], [], 0, 0) (pset B I) := by
    intro ⟨z0, z1, z2, z3, z5, z13⟩
    rw [if_neg z0, if_neg z1, if_neg z2, if_neg z3, if_neg z5, if_neg z13] at hK
    exact bX7_lookAtName_239 ⟨gb.1, _, gb.2.1.2.2.2.2.1, hg.1, c_keyRow d3 hg h hn h10 (fun J b' me' a1 a2 a3 => ⟨_, rfl, hK J b' me' a1 a2 a3⟩)⟩
  have mean : (kp = 2 ∨ kp = 12) → Go (d - 1) mX7_lookAtName (fun r M1 => ∃ v, r = .inl (some (.int v)) ∧ K v M1) 197 ([some (.ref q), some (.int i), none, none, none, some (.int (fidx b.2.1 nm 0))], [], 0, 0) (pset B I) := by
    intro z
    rw [if_neg (fun y => z.elim (fun x => absurd (x.symm.trans y) (by decide)) (fun x => absurd (x.symm.trans y) (by decide))), if_neg (fun y => z.elim (fun x => absurd (x.symm.trans y) (by decide)) (fun x => absurd (x.symm.trans y) (by decide))), if_pos z] at hK
    refine bX7_lookAtName_197 ⟨hg.1, _, hg.2.1.2, gm.1, c_put d1 gm h.2.2.2.2.2 h.2.2.2.2.1 (fun J j1 f1 => ?_)⟩
    obtain ⟨x1, x2⟩ := r_me hg h (f1.mono (by omega) (by omega)) j1 (by rw [rput_len]; exact h.2.2.2.2.2)
    refine ⟨fun g => ⟨_, rfl, ?_⟩, fun g => ⟨_, rfl, ?_⟩⟩
    · rw [if_pos g] at hK; exact hK J b _ x1 (fun _ => ⟨rfl, rfl⟩) x2
    · rw [if_neg g] at hK; exact hK J b _ x1 (fun _ => ⟨rfl, rfl⟩) x2
  refine ⟨fun z0 => ?_, fun z0 => ?_⟩
  · rw [if_pos z0] at hK
    refine ⟨fun g => ⟨gb.1, _, gb.2.1.1, gb.2.2.1.1, ?_⟩, fun g => ⟨_, rfl, ?_⟩⟩
    · rw [if_pos g] at hK
      refine c_nadd d3 gb.2.2.1 k4.1 gs h10 h10 e1 hn (fun hlt J j1 f1 => ⟨fun _ => ⟨_, rfl, ?_⟩, fun z => absurd (nI_pos' (Nat.lt_trans hlt (by decide))) z⟩) (fun heq => ⟨fun z => absurd z (by decide), fun _ => ⟨_, rfl, ?_⟩⟩)
      · rw [if_pos hlt] at hK
        obtain ⟨x1, x2⟩ := r_book hg h (f1.mono (by omega) (by omega)) (k4.u1 f1 j1)
        exact hK J _ me x1 (fun _ => ⟨rfl, rfl⟩) x2
      · rw [if_neg (Nat.not_lt.mpr (Nat.le_of_eq heq.symm))] at hK
        exact hK I b me h (fun _ => ⟨rfl, rfl⟩) Fr3.rf
    · rw [if_neg g] at hK
      exact hK I b me h (fun _ => ⟨rfl, rfl⟩) Fr3.rf
  refine ⟨fun z1 => ?_, fun z1 => ?_⟩
  · rw [if_neg z0, if_pos z1] at hK
    refine ⟨fun g => ⟨gb.1, ?_⟩, fun g => ⟨_, rfl, ?_⟩⟩
    · rw [if_pos g] at hK
      refine c_addWord d4 gb k4 gs h10 h10 e2 hn (fun hlt J j1 f1 => ⟨fun _ => ⟨_, rfl, ?_⟩, fun z => absurd (nI_pos' (Nat.lt_trans hlt (by decide))) z⟩) (fun heq J b2 j1 f1 => ⟨fun z => absurd z (by decide), fun _ => ⟨_, rfl, ?_⟩⟩)
      · rw [if_pos hlt] at hK
        obtain ⟨x1, x2⟩ := r_book hg h f1 j1
        exact hK J _ me x1 (fun _ => ⟨rfl, rfl⟩) x2
      · rw [if_neg (Nat.not_lt.mpr (Nat.le_of_eq heq.symm))] at hK
        obtain ⟨x1, x2⟩ := r_book hg h f1 j1
        exact hK J _ me x1 (fun e => absurd e (by decide : ¬ (4 : Int32) = 0)) x2
    · rw [if_neg g] at hK
      exact hK I b me h (fun _ => ⟨rfl, rfl⟩) Fr3.rf
  refine ⟨fun z2 => mean (Or.inl z2), fun z2 => ⟨fun z3 => ?_, fun z3 => ?_⟩⟩
  · rw [if_neg z0, if_neg z1, if_neg (fun z => z.elim z2 (fun z => absurd (z3.symm.trans z) (by decide))), if_pos z3] at hK
    refine ⟨gb.1, _, gb.2.1.2.2.2.1, gb.1, _, gb.2.1.2.1, gb.2.2.2.1.1, c_nsize d1 gb.2.2.2.1 l2 ⟨gb.2.2.2.2.2.1.1, c_put d1 gb.2.2.2.2.2.1 k4.2.2.2.2.2.2.2 k4.2.2.2.1 (fun J j1 f1 => ?_)⟩⟩
    have bk := k4.u4 (f1.mono (by omega) (by omega)) j1 (by rw [rput_len]; exact k4.2.2.2.2.2.2.2)
    obtain ⟨x1, x2⟩ := r_book hg h (f1.mono (by omega) (by omega)) bk
    refine ⟨fun g => ⟨_, rfl, ?_⟩, fun g => ⟨_, rfl, ?_⟩⟩
    · rw [if_pos g] at hK; exact hK J _ me x1 (fun _ => ⟨rfl, rfl⟩) x2
    · rw [if_neg g] at hK; exact hK J _ me x1 (fun _ => ⟨rfl, rfl⟩) x2
  refine ⟨fun z4 => row ⟨z0, z1, by rw [z4]; decide, z3, by rw [z4]; decide, by rw [z4]; decide⟩, fun z4 => ⟨fun z5 => ?_, fun z5 => ?_⟩⟩
  · rw [if_neg z0, if_neg z1, if_neg (fun z => z.elim z2 (fun z => absurd (z5.symm.trans z) (by decide))), if_neg z3, if_pos z5] at hK
    refine ⟨gb.1, _, gb.2.1.2.2.2.2.2, u.1, _, u.2.1.1, u.2.2.1.1, c_add d1 u.2.2.1 l6.2.2.2.2.2.2.2.1 l6.1 (fun J j1 f1 => ?_)⟩
    have bk := k4.u6 (f1.mono (by omega) (by omega)) (l6.u1 (f1.mono (by omega) (by omega)) j1 (pushL_len l6.2.2.2.2.2.2.2.1))
    obtain ⟨x1, x2⟩ := r_book hg h (f1.mono (by omega) (by omega)) bk
    refine ⟨fun g => ⟨_, rfl, ?_⟩, fun g => ⟨_, rfl, ?_⟩⟩
    · rw [if_pos g] at hK; exact hK J _ me x1 (fun _ => ⟨rfl, rfl⟩) x2
    · rw [if_neg g] at hK; exact hK J _ me x1 (fun _ => ⟨rfl, rfl⟩) x2
  refine ⟨fun z6 => row ⟨z0, z1, by rw [z6]; decide, z3, z5, by rw [z6]; decide⟩, fun z6 => ?_⟩
  refine ⟨fun z7 => row ⟨z0, z1, by rw [z7]; decide, z3, z5, by rw [z7]; decide⟩, fun z7 => ?_⟩
  refine ⟨fun z8 => row ⟨z0, z1, by rw [z8]; decide, z3, z5, by rw [z8]; decide⟩, fun z8 => ?_⟩
  refine ⟨fun z9 => row ⟨z0, z1, by rw [z9]; decide, z3, z5, by rw [z9]; decide⟩, fun z9 => ?_⟩
  refine ⟨fun z10 => row ⟨z0, z1, by rw [z10]; decide, z3, z5, by rw [z10]; decide⟩, fun z10 => ?_⟩
  refine ⟨fun z11 => row ⟨z0, z1, by rw [z11]; decide, z3, z5, by rw [z11]; decide⟩, fun z11 => ?_⟩
  refine ⟨fun z12 => mean (Or.inr z12), fun z12 => ⟨fun z13 => ?_, fun z13 => row ⟨z0, z1, fun z => z.elim z2 z12, z3, z5, z13⟩⟩⟩
  rw [if_neg z0, if_neg z1, if_neg (fun z => z.elim z2 z12), if_neg z3, if_neg z5, if_pos z13] at hK
  refine ⟨hg.1, _, hg.2.1.2, gb.1, _, gb.2.1.2.2.2.2.2, u.1, _, u.2.1.2.2.2.2.2.2, u.2.2.2.2.2.2.2.2.1, c_nadd d3 u.2.2.2.2.2.2.2.2 l6.2.2.2.2.2.2.1 gs h10 h10 e3 hn (fun hlt J j1 f1 => ?_) (fun heq => ?_)⟩
  · rw [if_pos hlt] at hK
    have bk := k4.u6 (f1.mono (by omega) (by omega)) (l6.u7 (f1.mono (by omega) (by omega)) j1)
    obtain ⟨x1, x2⟩ := r_book hg h (f1.mono (by omega) (by omega)) bk
    refine ⟨gm.1, c_put d1 gm h.2.2.2.2.2 x1.2.2.2.2.1 (fun J2 j2 f2 => ?_)⟩
    obtain ⟨y1, y2⟩ := r_me hg x1 (f2.mono (by omega) (by omega)) j2 (by rw [rput_len]; exact h.2.2.2.2.2)
    exact ⟨_, rfl, hK J2 _ _ y1 (fun _ => ⟨rfl, rfl⟩) (x2.tr y2)⟩
  · rw [if_neg (Nat.not_lt.mpr (Nat.le_of_eq heq.symm))] at hK
    refine ⟨gm.1, c_put d1 gm h.2.2.2.2.2 h.2.2.2.2.1 (fun J2 j2 f2 => ?_)⟩
    obtain ⟨y1, y2⟩ := r_me hg h (f2.mono (by omega) (by omega)) j2 (by rw [rput_len]; exact h.2.2.2.2.2)
    exact ⟨_, rfl, hK J2 _ _ y1 (fun _ => ⟨rfl, rfl⟩) y2⟩
theorem c_lookAt {d : Nat} (hd : 6 ≤ d) {B : pM} {I : pIm} {q qp qb : Nat} {t : tK} {tp me : List Int32} {b : bK} {i : Nat} {K : Int32 → pM → Prop} (hg : rdE B q qp qb) (h : rdS I q qp qb t tp b me) (hK : lkOut B q qp qb t tp I (lkAt t tp i b me) K) : pCall_i d mX7_lookAt (0, 0) [.ref q, .int (nI i), .ref qp, .ref qb] (pset B I) K := by
  refine CP_go (by omega) okX7_lookAt (Nat.le_of_ble_eq_true rfl) ?_
  obtain ⟨g0, ⟨gp0, gp1⟩, gt, gm, gtp, gb, s1, s2, s3⟩ := id hg
  obtain ⟨b0, ⟨p0, p1, p2, p3, p4, p5⟩, r1, r2, r3, r4, r5, r6⟩ := id gb
  obtain ⟨t0, ⟨u0, u1, u2, u3, u4, u5, u6⟩, v1, -⟩ := id r6
  obtain ⟨k1, k2, k3, k4, k5, k6⟩ := id h
  have l6 := k4.2.2.2.2.2.1
  unfold lkAt at hK
  refine bX7_lookAt_0 ⟨g0, _, gp0, gt.1, c_tkind (by omega) gt k1 ⟨fun z5 => ?_, fun z5 => ⟨fun z20 => ?_, fun z20 => ⟨fun z21 => ?_, fun z21 => ⟨_, rfl, ?_⟩⟩⟩⟩⟩
  · rw [if_pos z5] at hK
    refine ⟨b0, _, p5, t0, _, u0, v1.1, c_isFull (by omega) v1 l6.2.2.2.2.2.2.2.1 l6.1 ?_⟩
    by_cases hc : b.2.2.2.2.2.1.length < 12
    · rw [if_pos hc] at hK ⊢
      exact ⟨fun _ => ⟨_, rfl, hK I b me h (fun _ => ⟨rfl, rfl⟩) Fr3.rf⟩, fun z => absurd rfl z⟩
    · rw [if_neg hc] at hK ⊢
      exact ⟨fun x => absurd x (by decide), fun _ => ⟨_, rfl, hK I b me h (fun _ => ⟨rfl, rfl⟩) Fr3.rf⟩⟩
  · rw [if_neg z5, if_pos z20] at hK
    refine ⟨g0, _, gp0, gt.1, c_spell (by omega) gt k1 gtp k3 (by omega) k2 (fun J j1 f1 => ⟨g0, ?_⟩)⟩
    obtain ⟨x1, x2⟩ := r_sp hg h f1
    exact c_lookAtName (by omega) hg x1 j1 spl_len (fun J2 b' me' a1 a2 a3 => ⟨_, rfl, hK J2 b' me' a1 a2 (x2.tr a3)⟩)
  · rw [if_neg z5, if_neg z20, if_pos z21] at hK
    refine ⟨g0, _, gp0, gt.1, c_tkind (by omega) gt k1 ⟨fun y => ⟨g0, _, gp0, gt.1, c_number (by omega) gt k1 gtp k3 k2 ⟨g0, ?_⟩⟩, fun y => ⟨_, rfl, ?_⟩⟩⟩
    · rw [if_pos y] at hK
      exact c_weigh (by omega) hg h (fun J2 b' me' a1 a2 a3 => ⟨_, rfl, hK J2 b' me' a1 a2 a3⟩)
    · rw [if_neg y] at hK
      exact hK I b me h (fun _ => ⟨rfl, rfl⟩) Fr3.rf
  · rw [if_neg z5, if_neg z20, if_neg z21] at hK
    exact hK I b me h (fun _ => ⟨rfl, rfl⟩) Fr3.rf
