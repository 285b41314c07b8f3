/-! TOKENS, WITHOUT THEIR KINDS -/
def isLt (c : Int32) : Int32 := if c < 97 then 0 else if 122 < c then 0 else 1
def isDg (c : Int32) : Int32 := if c < 48 then 0 else if 57 < c then 0 else 1
theorem c_isLetter {d : Nat} (hd : 1 ≤ d) {M : pM} {c : Int32} {K : Int32 → pM → Prop} (h : K (isLt c) M) : pCall_i d mX11_isLetter (0, 0) [.int c] M K := by
  refine CP_go hd okX11_isLetter (Nat.le_of_ble_eq_true rfl) ?_
  unfold isLt at h
  refine bX11_isLetter_0 ⟨fun g => ⟨_, rfl, ?_⟩, fun g => ⟨fun g2 => ⟨_, rfl, ?_⟩, fun g2 => ⟨_, rfl, ?_⟩⟩⟩
  · rw [if_pos g] at h; exact h
  · rw [if_neg g, if_pos g2] at h; exact h
  · rw [if_neg g, if_neg g2] at h; exact h
theorem c_isDigit {d : Nat} (hd : 1 ≤ d) {M : pM} {c : Int32} {K : Int32 → pM → Prop} (h : K (isDg c) M) : pCall_i d mX11_isDigit (0, 0) [.int c] M K := by
  refine CP_go hd okX11_isDigit (Nat.le_of_ble_eq_true rfl) ?_
  unfold isDg at h
  refine bX11_isDigit_0 ⟨fun g => ⟨_, rfl, ?_⟩, fun g => ⟨fun g2 => ⟨_, rfl, ?_⟩, fun g2 => ⟨_, rfl, ?_⟩⟩⟩
  · rw [if_pos g] at h; exact h
  · rw [if_neg g, if_pos g2] at h; exact h
  · rw [if_neg g, if_neg g2] at h; exact h
def skb : List Int32 → Nat
  | [] => 0
  | c :: r => if c = 32 ∨ c = 10 then skb r + 1 else 0
theorem skb_le {l : List Int32} : skb l ≤ l.length := by
  induction l with
  | nil => simp [skb]
  | cons c r ih => unfold skb; split <;> simp <;> omega
theorem c_skipBlanks {d : Nat} (hd : 2 ≤ d) {B : pM} {I : pIm} {q n k : Nat} {tp : List Int32} {K : Int32 → pM → Prop} (hq : rowS B q n) (hn : tp.length ≤ n) (hk : k ≤ tp.length) (hl : Rw I q tp) (h : K (nI (k + skb (tp.drop k))) (pset B I)) : pCall_i d mX10_skipBlanks (0, 0) [.ref q, .int (nI k)] (pset B I) K := by
  refine CP_go (by omega) okX10_skipBlanks (Nat.le_of_ble_eq_true rfl) ?_
  have hn6 := hq.2.2.2
  have key : ∀ (m j : Nat), tp.length - j = m → j ≤ tp.length → k + skb (tp.drop k) = j + skb (tp.drop j) → Go (d - 1) mX10_skipBlanks (fun r M1 => ∃ v, r = .inl (some (.int v)) ∧ K v M1) 2 ([some (.ref q), none, some (.int (nI j))], [], 0, 0) (pset B I) := by
    intro m
    induction m with
    | zero =>
      intro j hm hj he
      refine bX10_skipBlanks_2 ⟨hq.1, c_size (by omega) hq hl ⟨fun g => ⟨hq.1, c_size (by omega) hq hl ⟨_, rfl, ?_⟩⟩, fun g => absurd (nI_le (show tp.length ≤ j by omega) (by omega)) g⟩⟩
      rw [List.drop_of_length_le (show tp.length ≤ j by omega), skb] at he
      rw [he, show j + 0 = tp.length by omega] at h
      exact h
    | succ m ih =>
      intro j hm hj he
      have hlt : j < tp.length := by omega
      have er := rat_in (List.getElem?_eq_getElem hlt) (show tp.length < 2 ^ 31 by omega)
      rw [List.drop_eq_getElem_cons hlt, skb] at he
      have next : (tp[j] = 32 ∨ tp[j] = 10) → Go (d - 1) mX10_skipBlanks (fun r M1 => ∃ v, r = .inl (some (.int v)) ∧ K v M1) 32 ([some (.ref q), none, some (.int (nI j))], [], 0, 0) (pset B I) := by
        intro hc
        rw [if_pos hc] at he
        refine bX10_skipBlanks_32 ?_
        rw [nI_1]
        exact ih (j + 1) (by omega) (by omega) (by omega)
      refine bX10_skipBlanks_2 ⟨hq.1, c_size (by omega) hq hl ⟨fun g => absurd ((nI_leI (by omega) (by omega)).mp g) (by omega), fun g => ⟨hq.1, c_at (by omega) hq hn hl ?_⟩⟩⟩
      rw [er]
      refine ⟨fun g2 => next (Or.inl g2), fun g2 => ⟨hq.1, c_at (by omega) hq hn hl ?_⟩⟩
      rw [er]
      refine ⟨fun g3 => next (Or.inr g3), fun g3 => ⟨_, rfl, ?_⟩⟩
      rw [if_neg (fun z => z.elim g2 g3)] at he
      rw [he] at h
      exact h
  exact bX10_skipBlanks_0 (key _ k rfl hk rfl)
def rnl (f : Int32) : List Int32 → Nat
  | [] => 0
  | c :: r => if isDg c = 0 ∧ (f = 0 ∨ isLt c = 0) then 0 else rnl f r + 1
theorem rnl_le {f : Int32} {l : List Int32} : rnl f l ≤ l.length := by
  induction l with
  | nil => simp [rnl]
  | cons c r ih => unfold rnl; split <;> simp <;> omega
theorem nI_sub {a b : Nat} (h : b ≤ a) : nI a - nI b = nI (a - b) := by
  have e : nI a = nI (a - b) + nI b := by rw [nI_add]; congr 1; omega
  rw [e, Int32.add_sub_cancel]
theorem c_runLength {d : Nat} (hd : 2 ≤ d) {B : pM} {I : pIm} {q n k : Nat} {f : Int32} {tp : List Int32} {K : Int32 → pM → Prop} (hq : rowS B q n) (hn : tp.length ≤ n) (hk : k ≤ tp.length) (hl : Rw I q tp) (h : K (nI (rnl f (tp.drop k))) (pset B I)) : pCall_i d mX10_runLength (0, 0) [.ref q, .int (nI k), .int f] (pset B I) K := by
  refine CP_go (by omega) okX10_runLength (Nat.le_of_ble_eq_true rfl) ?_
  have hn6 := hq.2.2.2
  have key : ∀ (m j : Nat), tp.length - j = m → j ≤ tp.length → k ≤ j → k + rnl f (tp.drop k) = j + rnl f (tp.drop j) → Go (d - 1) mX10_runLength (fun r M1 => ∃ v, r = .inl (some (.int v)) ∧ K v M1) 2 ([some (.ref q), some (.int (nI k)), some (.int f), some (.int (nI j)), none], [], 0, 0) (pset B I) := by
    intro m
    induction m with
    | zero =>
      intro j hm hj hkj he
      refine bX10_runLength_2 ⟨hq.1, c_size (by omega) hq hl ⟨fun g => ⟨hq.1, c_size (by omega) hq hl ⟨_, rfl, ?_⟩⟩, fun g => absurd (nI_le (show tp.length ≤ j by omega) (by omega)) g⟩⟩
      rw [List.drop_of_length_le (show tp.length ≤ j by omega), rnl] at he
      rw [nI_sub (by omega), show tp.length - k = rnl f (tp.drop k) by omega]
      exact h
    | succ m ih =>
      intro j hm hj hkj he
      have hlt : j < tp.length := by omega
      have er := rat_in (List.getElem?_eq_getElem hlt) (show tp.length < 2 ^ 31 by omega)
      rw [List.drop_eq_getElem_cons hlt, rnl] at he
      have next : ¬ (isDg tp[j] = 0 ∧ (f = 0 ∨ isLt tp[j] = 0)) → Go (d - 1) mX10_runLength (fun r M1 => ∃ v, r = .inl (some (.int v)) ∧ K v M1) 41 ([some (.ref q), some (.int (nI k)), some (.int f), some (.int (nI j)), none], [], 0, 0) (pset B I) := by
        intro hc
        rw [if_neg hc] at he
        refine bX10_runLength_41 ?_
        rw [nI_1]
        exact ih (j + 1) (by omega) (by omega) (by omega) (by omega)
      have fin : (isDg tp[j] = 0 ∧ (f = 0 ∨ isLt tp[j] = 0)) → K (nI j - nI k) (pset B I) := by
        intro hc
        rw [if_pos hc] at he
        rw [nI_sub hkj, show j - k = rnl f (tp.drop k) by omega]
        exact h
      refine bX10_runLength_2 ⟨hq.1, c_size (by omega) hq hl ⟨fun g => absurd ((nI_leI (by omega) (by omega)).mp g) (by omega), fun g => ⟨hq.1, c_at (by omega) hq hn hl ?_⟩⟩⟩
      rw [er]
      refine c_isDigit (by omega) ⟨fun g1 => ⟨fun g2 => ⟨_, rfl, fin ⟨g1, Or.inl g2⟩⟩, fun g2 => c_isLetter (by omega) ⟨fun g3 => ⟨_, rfl, fin ⟨g1, Or.inr g3⟩⟩, fun g3 => next (fun z => z.2.elim g2 g3)⟩⟩, fun g1 => next (fun z => g1 z.1)⟩
  exact bX10_runLength_0 (key _ k rfl hk (by omega) rfl)
def lenI (tp : List Int32) (k : Nat) : Nat := if isLt (rat tp (nI k)) = 0 ∧ isDg (rat tp (nI k)) = 0 then (if (rat tp (nI k) = 60 ∨ rat tp (nI k) = 62) ∧ rat tp (nI (k + 1)) = 61 then 2 else 1) else rnl (isLt (rat tp (nI k))) (tp.drop k)
theorem c_lengthAt {d : Nat} (hd : 3 ≤ d) {B : pM} {I : pIm} {q n k : Nat} {tp : List Int32} {K : Int32 → pM → Prop} (hq : rowS B q n) (hn : tp.length ≤ n) (hk : k ≤ tp.length) (hl : Rw I q tp) (h : K (nI (lenI tp k)) (pset B I)) : pCall_i d mX10_lengthAt (0, 0) [.ref q, .int (nI k)] (pset B I) K := by
  refine CP_go (by omega) okX10_lengthAt (Nat.le_of_ble_eq_true rfl) ?_
  have run : ¬ (isLt (rat tp (nI k)) = 0 ∧ isDg (rat tp (nI k)) = 0) → Go (d - 1) mX10_lengthAt (fun r M1 => ∃ v, r = .inl (some (.int v)) ∧ K v M1) 20 ([some (.ref q), some (.int (nI k)), some (.int (rat tp (nI k)))], [], 0, 0) (pset B I) := by
    intro hc
    refine bX10_lengthAt_20 (c_isLetter (by omega) (c_runLength (by omega) hq hn hk hl ⟨_, rfl, ?_⟩))
    unfold lenI at h
    rw [if_neg hc] at h
    exact h
  have two : (isLt (rat tp (nI k)) = 0 ∧ isDg (rat tp (nI k)) = 0) → (rat tp (nI k) = 60 ∨ rat tp (nI k) = 62) → Go (d - 1) mX10_lengthAt (fun r M1 => ∃ v, r = .inl (some (.int v)) ∧ K v M1) 42 ([some (.ref q), some (.int (nI k)), none], [], 0, 0) (pset B I) := by
    intro hc hc2
    refine bX10_lengthAt_42 ⟨hq.1, c_at (by omega) hq hn hl ?_⟩
    rw [nI_1]
    unfold lenI at h
    rw [if_pos hc] at h
    refine ⟨fun g => ⟨_, rfl, ?_⟩, fun g => ⟨_, rfl, ?_⟩⟩
    · rw [if_pos ⟨hc2, g⟩] at h; exact h
    · rw [if_neg (fun z => g z.2)] at h; exact h
  refine bX10_lengthAt_0 ⟨hq.1, c_at (by omega) hq hn hl (c_isLetter (by omega) ⟨fun g1 => c_isDigit (by omega) ⟨fun g2 => ⟨fun g3 => two ⟨g1, g2⟩ (Or.inl g3), fun g3 => ⟨fun g4 => two ⟨g1, g2⟩ (Or.inr g4), fun g4 => ⟨_, rfl, ?_⟩⟩⟩, fun g2 => run (fun z => g2 z.2)⟩, fun g1 => run (fun z => g1 z.1)⟩)⟩
  unfold lenI at h
  rw [if_pos ⟨g1, g2⟩, if_neg (fun z => z.1.elim g3 g4)] at h
  exact h
/-- the tokens' own structure, without what the key words are -/
def toksS (B : pM) (q : Nat) : Prop := pK B q = (1, 10) ∧ (pP B q 0 = (q + 1) + 1 ∧ pP B q 1 = (q + 43) + 1 ∧ pP B q 2 = (q + 45) + 1 ∧ pP B q 3 = (q + 47) + 1 ∧ pP B q 4 = (q + 49) + 1) ∧ namesS B (q + 1) 19 ∧ rowS B (q + 43) 401 ∧ rowS B (q + 45) 401 ∧ rowS B (q + 47) 401 ∧ rowS B (q + 49) 10
/-- kinds, starts, lengths -/
abbrev tK : Type := List Int32 × List Int32 × List Int32
def Tk (I : pIm) (q : Nat) (t : tK) : Prop := Rw I (q + 43) t.1 ∧ Rw I (q + 45) t.2.1 ∧ Rw I (q + 47) t.2.2 ∧ (t.1.length ≤ 401 ∧ t.2.1.length ≤ 401 ∧ t.2.2.length ≤ 401)
theorem Tk.f {I J : pIm} {q lo hi : Nat} {t : tK} (h : Tk I q t) (hf : Fr lo hi I J) (hq : hi ≤ q + 43 ∨ q + 49 ≤ lo) : Tk J q t := by
  obtain ⟨h1, h2, h3, h4⟩ := h
  exact ⟨h1.f hf (by omega), h2.f hf (by omega), h3.f hf (by omega), h4⟩
theorem c_tsize {d : Nat} (hd : 2 ≤ d) {B : pM} {I : pIm} {q : Nat} {t : tK} {K : Int32 → pM → Prop} (hq : toksS B q) (hl : Tk I q t) (h : K (nI t.1.length) (pset B I)) : pCall_i d mX10_size (0, 0) [.ref q] (pset B I) K := by
  refine CP_go (by omega) okX10_size (Nat.le_of_ble_eq_true rfl) ?_
  exact bX10_size_0 ⟨hq.1, _, hq.2.1.2.1, hq.2.2.2.1.1, c_size (by omega) hq.2.2.2.1 hl.1 ⟨_, rfl, h⟩⟩
theorem c_tkind {d : Nat} (hd : 2 ≤ d) {B : pM} {I : pIm} {q : Nat} {t : tK} {i : Int32} {K : Int32 → pM → Prop} (hq : toksS B q) (hl : Tk I q t) (h : K (rat t.1 i) (pset B I)) : pCall_i d mX10_kind (0, 0) [.ref q, .int i] (pset B I) K := by
  refine CP_go (by omega) okX10_kind (Nat.le_of_ble_eq_true rfl) ?_
  exact bX10_kind_0 ⟨hq.1, _, hq.2.1.2.1, hq.2.2.2.1.1, c_at (by omega) hq.2.2.2.1 hl.2.2.2.1 hl.1 ⟨_, rfl, h⟩⟩
theorem c_tstart {d : Nat} (hd : 2 ≤ d) {B : pM} {I : pIm} {q : Nat} {t : tK} {i : Int32} {K : Int32 → pM → Prop} (hq : toksS B q) (hl : Tk I q t) (h : K (rat t.2.1 i) (pset B I)) : pCall_i d mX10_start (0, 0) [.ref q, .int i] (pset B I) K := by
  refine CP_go (by omega) okX10_start (Nat.le_of_ble_eq_true rfl) ?_
  exact bX10_start_0 ⟨hq.1, _, hq.2.1.2.2.1, hq.2.2.2.2.1.1, c_at (by omega) hq.2.2.2.2.1 hl.2.2.2.2.1 hl.2.1 ⟨_, rfl, h⟩⟩
/-- the bytes of a token, ten at most -/
def spl (tp : List Int32) (t : tK) (i : Int32) : List Int32 := copyl tp (rat t.2.1 i) (min (rat t.2.2 i).toNatClampNeg 10)
theorem spl_len {tp : List Int32} {t : tK} {i : Int32} : (spl tp t i).length ≤ 10 := by unfold spl; rw [copyl_len]; omega
theorem c_spell {d : Nat} (hd : 3 ≤ d) {B : pM} {I : pIm} {q qt nt : Nat} {t : tK} {tp : List Int32} {i : Int32} {K : Nat → pM → Prop} (hq : toksS B q) (hl : Tk I q t) (ht : rowS B qt nt) (hnt : tp.length ≤ nt) (st : qt + 1 < q ∨ q + 51 ≤ qt) (lt : Rw I qt tp) (h : ∀ J : pIm, Rw J (q + 49) (spl tp t i) → Fr (q + 49) (q + 51) I J → K (q + 49) (pset B J)) : pCall_r d mX10_spell (0, 0) [.ref q, .ref qt, .int i] (pset B I) K := by
  refine CP_go (by omega) okX10_spell (Nat.le_of_ble_eq_true rfl) ?_
  obtain ⟨q0, ⟨p0, p1, p2, p3, p4⟩, r1, r2, r3, r4, r5⟩ := hq
  exact bX10_spell_0 ⟨q0, _, p4, q0, _, p2, r3.1, c_at (by omega) r3 hl.2.2.2.2.1 hl.2.1 ⟨q0, _, p3, r4.1, c_at (by omega) r4 hl.2.2.2.2.2 hl.2.2.1 ⟨r5.1, c_copy (by omega) r5 ht (by omega) hnt lt (fun J h1 f1 => ⟨q0, _, p4, _, rfl, h J h1 f1⟩)⟩⟩⟩
def numL (tp : List Int32) (st : Int32) : Nat → Int32
  | 0 => 0
  | i + 1 => numL tp st i * 10 + rat tp (st + nI i) - 48
def numO (tp : List Int32) (t : tK) (i : Int32) : Int32 := numL tp (rat t.2.1 i) (min (rat t.2.2 i).toNatClampNeg 6)
theorem c_number {d : Nat} (hd : 2 ≤ d) {B : pM} {I : pIm} {q qt nt : Nat} {t : tK} {tp : List Int32} {i : Int32} {K : Int32 → pM → Prop} (hq : toksS B q) (hl : Tk I q t) (ht : rowS B qt nt) (hnt : tp.length ≤ nt) (lt : Rw I qt tp) (h : K (numO tp t i) (pset B I)) : pCall_i d mX10_number (0, 0) [.ref q, .ref qt, .int i] (pset B I) K := by
  refine CP_go (by omega) okX10_number (Nat.le_of_ble_eq_true rfl) ?_
  obtain ⟨q0, ⟨p0, p1, p2, p3, p4⟩, r1, r2, r3, r4, r5⟩ := hq
  have key : ∀ (m j : Nat), min (rat t.2.2 i).toNatClampNeg 6 - j = m → j ≤ min (rat t.2.2 i).toNatClampNeg 6 → Go (d - 1) mX10_number (fun r M1 => ∃ v, r = .inl (some (.int v)) ∧ K v M1) 5 ([some (.ref q), some (.ref qt), some (.int i), some (.int (numL tp (rat t.2.1 i) j)), some (.int (nI j))], [], 0, 0) (pset B I) := by
    intro m
    induction m with
    | zero =>
      intro j hm hj
      have e : j = min (rat t.2.2 i).toNatClampNeg 6 := by omega
      unfold numO at h
      rw [← e] at h
      refine bX10_number_5 ⟨q0, _, p3, r4.1, c_at (by omega) r4 hl.2.2.2.2.2 hl.2.2.1 ⟨fun g => ⟨_, rfl, h⟩, fun g => ⟨fun g2 => ⟨_, rfl, h⟩, fun g2 => ?_⟩⟩⟩
      exfalso
      have h6 : ¬ (6 ≤ j) := fun z => g2 (by have := nI_le (a := 6) (b := j) z (by omega); exact this)
      have hc : (rat t.2.2 i).toNatClampNeg ≤ j := by omega
      refine g ?_
      rw [Int32.le_iff_toInt_le, nI_toInt (by omega)]
      have : (rat t.2.2 i).toNatClampNeg = (rat t.2.2 i).toInt.toNat := rfl
      omega
    | succ m ih =>
      intro j hm hj
      refine bX10_number_5 ⟨q0, _, p3, r4.1, c_at (by omega) r4 hl.2.2.2.2.2 hl.2.2.1 ⟨fun g => ?_, fun g => ⟨fun g2 => ?_, fun g2 => ⟨q0, _, p2, r3.1, c_at (by omega) r3 hl.2.2.2.2.1 hl.2.1 ⟨ht.1, c_at (by omega) ht hnt lt ?_⟩⟩⟩⟩⟩
      · exfalso
        rw [Int32.le_iff_toInt_le, nI_toInt (by omega)] at g
        have : (rat t.2.2 i).toNatClampNeg = (rat t.2.2 i).toInt.toNat := rfl
        omega
      · exfalso
        have := (nI_leI (a := 6) (b := j) (by omega) (by omega)).mp g2
        omega
      · rw [nI_1]
        exact ih (j + 1) (by omega) (by omega)
  exact bX10_number_0 (key _ 0 rfl (by omega))
