/-! THE REFERENCE: what it holds -/
/-- an array's first ints -/
def Ar (f : Nat → Int32) (l : List Int32) : Prop := ∀ j x, l[j]? = some x → f j = x
/-- words in an array, ten places each -/
def Wb (f : Nat → Int32) (ws : List (List Int32)) : Prop := ∀ w l, ws[w]? = some l → ∀ k x, l[k]? = some x → f (10 * w + k) = x
/-- a step with what it names: kind, and a value or the bytes of a name -/
abbrev pS : Type := Int32 × List Int32
def payS (ns : List (List Int32)) (x : Int32 × Int32) : pS := (x.1, if x.1 = 13 then lat ns x.2 else [x.2])
/-- a node of a sum, and its steps -/
def ndS (op one two : Nat → Int32) (nw : Nat) : Nat → Nat → List pS → Prop
  | 0, _, _ => False
  | f + 1, n, s => n ≤ 400 ∧ ((op n = 30 ∧ s = [(21, [one n])]) ∨ ((op n = 8 ∨ op n = 9 ∨ op n = 10 ∨ op n = 11) ∧ s = [(op n, [0])]) ∨ (op n = 2 ∧ ∃ w, w < nw ∧ one n = nI w ∧ s = [(2, [nI w])])
      ∨ (op n = 110 ∧ ∃ a s1, one n = nI a ∧ ndS op one two nw f a s1 ∧ s = s1 ++ [(30, [0])])
      ∨ ((op n = 17 ∨ op n = 18 ∨ op n = 42 ∨ op n = 47 ∨ op n = 45 ∨ op n = 43) ∧ ∃ a b s1 s2, one n = nI a ∧ two n = nI b ∧ ndS op one two nw f a s1 ∧ ndS op one two nw f b s2 ∧ s = s1 ++ s2 ++ [(op n, [0])]))
/-- what the component calls a comparison -/
def cmpK (k : Int32) : Int32 := if k = 108 then 22 else if k = 103 then 23 else k
/-- a node of a test, and its steps -/
def ndT (op one two tx : Nat → Int32) (nw : Nat) : Nat → Nat → List pS → Prop
  | 0, _, _ => False
  | f + 1, n, s => n ≤ 400 ∧ ((op n = 12 ∧ s = [(12, [one n])]) ∨ (op n = 13 ∧ ∃ fr l, one n = nI fr ∧ two n = nI l.length ∧ fr + l.length ≤ 2000 ∧ (∀ k x, l[k]? = some x → tx (fr + k) = x) ∧ s = [(13, l)])
      ∨ (op n = 14 ∧ ∃ a s1, one n = nI a ∧ ndT op one two tx nw f a s1 ∧ s = s1 ++ [(14, [0])])
      ∨ ((op n = 15 ∨ op n = 16) ∧ ∃ a b s1 s2, one n = nI a ∧ two n = nI b ∧ ndT op one two tx nw f a s1 ∧ ndT op one two tx nw f b s2 ∧ s = s1 ++ s2 ++ [(op n, [0])])
      ∨ ((op n = 60 ∨ op n = 62 ∨ op n = 61 ∨ op n = 108 ∨ op n = 103) ∧ ∃ a b s1 s2, one n = nI a ∧ two n = nI b ∧ ndS op one two nw f a s1 ∧ ndS op one two nw f b s2 ∧ s = s1 ++ s2 ++ [(cmpK (op n), [0])]))
/-- the steps of all boosts -/
def flatL (L : List (List (Int32 × Int32) × List (Int32 × Int32))) : List (Int32 × Int32) := (L.map (fun x => x.1 ++ x.2)).flatten
/-- the boosts of a book: tags, and nodes for the steps -/
def bqD (bo op one two tx : Nat → Int32) (nw : Nat) (b : bB) : Prop := ∃ L, L.length = b.1.length ∧ b.1.length ≤ 12 ∧ (flatL L).length ≤ 400 ∧ b.2.2.2.2.1 = (flatL L).map Prod.fst ∧ b.2.2.2.2.2.1 = (flatL L).map Prod.snd ∧ ∀ i x, L[i]? = some x → (rat b.2.1 (nI i) = nI (flatL (L.take i)).length ∧ rat b.2.2.1 (nI i) = nI ((flatL (L.take i)).length + x.1.length) ∧ rat b.2.2.2.1 (nI i) = nI ((flatL (L.take i)).length + x.1.length + x.2.length)) ∧ bo (3 * i) = rat b.1 (nI i) ∧ (∃ a, bo (3 * i + 1) = nI a ∧ ndS op one two nw 400 a (x.1.map (payS b.2.2.2.2.2.2))) ∧ ∃ a, bo (3 * i + 2) = nI a ∧ ndT op one two tx nw 400 a (x.2.map (payS b.2.2.2.2.2.2))
/-- the keys of a book -/
def kqD (ky : Nat → Int32) (ro po : List Int32) : Prop := ro.length = 128 ∧ po.length = 128 ∧ ∀ c, c < 128 → (rat ro (nI c) = -1 ∧ ky c = -1) ∨ ∃ r p, r < 4 ∧ p < 10 ∧ rat ro (nI c) = nI r ∧ rat po (nI c) = nI p ∧ ky c = nI (16 * r + p)
def mbL (b : bK) : Prop := b.1.length ≤ 6 ∧ b.2.1.length ≤ 40 ∧ (∀ l ∈ b.2.1, 1 ≤ l.length ∧ l.length ≤ 10) ∧ b.2.2.1.length = b.2.1.length ∧ b.2.2.2.1.length = b.2.1.length
/-- a book of the reference -/
def mbD (I : pIm) (q : Nat) (b : bK) : Prop := (I q 0 = nI b.1.length ∧ I q 1 = nI b.2.1.length ∧ I q 2 = b.2.2.2.2.1.2.2 ∧ I q 3 = nI b.2.2.2.2.2.1.length) ∧ Wb (I (q + 1)) b.2.1 ∧ Ar (I (q + 2)) (b.2.1.map (fun l => nI l.length)) ∧ Ar (I (q + 3)) b.2.2.1 ∧ Ar (I (q + 4)) b.2.2.2.1 ∧ mbL b ∧ kqD (I (q + 5)) b.2.2.2.2.1.1 b.2.2.2.2.1.2.1 ∧ bqD (I (q + 6)) (I (q + 7)) (I (q + 8)) (I (q + 9)) (I (q + 10)) b.2.1.length b.2.2.2.2.2
theorem mbD.cg {I J : pIm} {q : Nat} {b : bK} (h : mbD I q b) (f : ∀ x, q ≤ x → x < q + 11 → J x = I x) : mbD J q b := by
  unfold mbD
  rw [f q (by omega) (by omega), f (q + 1) (by omega) (by omega), f (q + 2) (by omega) (by omega), f (q + 3) (by omega) (by omega), f (q + 4) (by omega) (by omega), f (q + 5) (by omega) (by omega), f (q + 6) (by omega) (by omega), f (q + 7) (by omega) (by omega), f (q + 8) (by omega) (by omega), f (q + 9) (by omega) (by omega), f (q + 10) (by omega) (by omega)]
  exact h
/-- the reference's hand -/
def mhD (I : pIm) (r : Nat) (h : List Int32 × Int32 × Int32 × Int32) : Prop := I r 18 = nI h.1.length ∧ h.1.length ≤ 20 ∧ Ar (I (r + 30)) h.1 ∧ I r 19 = h.2.1 ∧ I r 20 = h.2.2.1 ∧ I r 21 = h.2.2.2
/-- the reference, over what the pad holds -/
def modD (I : pIm) (r td : Nat) (s : wS) : Prop := Tp I r s.1 ∧ I r 3 = s.2.1 ∧ mbD I td s.2.2.1 ∧ mhD I r s.2.2.2
/-- only what counts for nothing has changed -/
def Sc (r td : Nat) (I J : pIm) : Prop := (∀ f, f = 2 ∨ f = 3 ∨ f = 18 ∨ f = 19 ∨ f = 20 ∨ f = 21 → J r f = I r f) ∧ J (r + 1) = I (r + 1) ∧ J (r + 30) = I (r + 30) ∧ (∀ x, td ≤ x → x < td + 11 → J x = I x) ∧ Fr r (r + 36) I J
theorem Sc.rf {r td : Nat} {I : pIm} : Sc r td I I := ⟨fun _ _ => rfl, rfl, rfl, fun _ _ _ => rfl, Fr.rf⟩
theorem Sc.tr {r td : Nat} {I J K : pIm} (h : Sc r td I J) (g : Sc r td J K) : Sc r td I K := ⟨fun f hf => (g.1 f hf).trans (h.1 f hf), g.2.1.trans h.2.1, g.2.2.1.trans h.2.2.1, fun x h1 h2 => (g.2.2.2.1 x h1 h2).trans (h.2.2.2.1 x h1 h2), h.2.2.2.2.tr g.2.2.2.2⟩
/-- a field that counts for nothing -/
theorem Sc.u {r td f : Nat} {I : pIm} {v : Int32} (ht : td ≠ r ∧ (td < r → td + 11 ≤ r)) (hf : f ≠ 2 ∧ f ≠ 3 ∧ f ≠ 18 ∧ f ≠ 19 ∧ f ≠ 20 ∧ f ≠ 21) : Sc r td I (u2 I r f v) := ⟨fun g hg => u2_j (by omega), u2_a (by omega), u2_a (by omega), fun x h1 h2 => u2_a (by omega), Fr.u (by omega) (by omega)⟩
/-- a cell that counts for nothing -/
theorem Sc.c {r td q f : Nat} {I : pIm} {v : Int32} (h0 : r < q) (h1 : q < r + 36) (h2 : q ≠ r + 1) (h3 : q ≠ r + 30) (ht : q < td ∨ td + 11 ≤ q) : Sc r td I (u2 I q f v) := ⟨fun g hg => by rw [u2_a (by omega)], u2_a (by omega), u2_a (by omega), fun x h1 h2 => u2_a (by omega), Fr.u (by omega) (by omega)⟩
theorem mhD.cg {I J : pIm} {r : Nat} {x : List Int32 × Int32 × Int32 × Int32} (h : mhD I r x) (f : ∀ f, f = 18 ∨ f = 19 ∨ f = 20 ∨ f = 21 → J r f = I r f) (g : J (r + 30) = I (r + 30)) : mhD J r x := by
  obtain ⟨h1, h2, h3, h4, h5, h6⟩ := h
  exact ⟨by rw [f 18 (by omega)]; exact h1, h2, by rw [g]; exact h3, by rw [f 19 (by omega)]; exact h4, by rw [f 20 (by omega)]; exact h5, by rw [f 21 (by omega)]; exact h6⟩
theorem Tp.cg {I J : pIm} {r : Nat} {l : List Int32} (h : Tp I r l) (f : J r 2 = I r 2) (g : J (r + 1) = I (r + 1)) : Tp J r l := ⟨by rw [f]; exact h.1, h.2.1, fun j x hx => by rw [g]; exact h.2.2 j x hx⟩
theorem modD.sc {I J : pIm} {r td : Nat} {s : wS} (h : modD I r td s) (f : Sc r td I J) : modD J r td s := by
  obtain ⟨h1, h2, h3, h4⟩ := h
  obtain ⟨f1, f2, f3, f4, f5⟩ := f
  exact ⟨h1.cg (f1 2 (by omega)) f2, by rw [f1 3 (by omega)]; exact h2, h3.cg f4, h4.cg (fun x hx => f1 x (by omega)) f3⟩
theorem mdS.lay {B : pM} {r td dr : Nat} (h : mdS B r td dr) : (td = r + 6 ∧ dr = r + 17) ∨ (td = r + 17 ∧ dr = r + 6) := h.2.2.2.2.2.2.1
/-- all cells but the reference's own stand as they stood -/
def ExR (r : Nat) (B C : pM) : Prop := pN C = pN B ∧ ∀ a, pK C a = pK B a ∧ pL C a = pL B a ∧ (a ≠ r → pP C a = pP B a)
theorem ExR.rf {r : Nat} {B : pM} : ExR r B B := ⟨rfl, fun _ => ⟨rfl, rfl, fun _ => rfl⟩⟩
def modO (B : pM) (I : pIm) (r : Nat) (cd : String → Int32) (o : pR × wS) (K : Int32 → pM → Prop) : Prop := ∀ C J td dr v, ExR r B C → mdS C r td dr → modD J r td o.2 → (∀ x, (x < r ∨ r + 36 ≤ x) → J x = I x) → (match o.1 with
  | .inl x => J r 0 = 0 ∧ x = some (.int v)
  | .inr E => J r 0 = cd E) → K v (pset C J)
theorem mod_stay {B : pM} {I J : pIm} {r td dr : Nat} {cd : String → Int32} {v : Int32} {s : wS} {K : Int32 → pM → Prop} (hq : mdS B r td dr) (hl : modD J r td s) (hf : Fr r (r + 36) I J) (h0 : J r 0 = 0) (h : modO B I r cd (rI v, s) K) : K v (pset B J) := h B J td dr v ExR.rf hq hl hf ⟨h0, rfl⟩
theorem mod_throw {B : pM} {I J : pIm} {r td dr : Nat} {cd : String → Int32} {E : String} {v : Int32} {s : wS} {K : Int32 → pM → Prop} (hq : mdS B r td dr) (hl : modD J r td s) (hf : Fr r (r + 36) I J) (h0 : J r 0 = cd E) (h : modO B I r cd (.inr E, s) K) : K v (pset B J) := h B J td dr v ExR.rf hq hl hf h0
/-- thrown = 0 -/
theorem modD.th {B : pM} {I : pIm} {r td dr : Nat} {s : wS} {n : Int32} (hq : mdS B r td dr) (hl : modD I r td s) : modD (u2 I r 0 n) r td s ∧ Fr r (r + 36) I (u2 I r 0 n) ∧ Sc r td I (u2 I r 0 n) := by
  have hy := hq.lay
  have x : Sc r td I (u2 I r 0 n) := Sc.u (by omega) (by omega)
  exact ⟨hl.sc x, x.2.2.2.2, x⟩
theorem m_no {d : Nat} (hd : 1 ≤ d) {B : pM} {I J : pIm} {r td dr : Nat} {cd : String → Int32} {n : Int32} {E : String} {s : wS} {K : Int32 → pM → Prop} (hq : mdS B r td dr) (hl : modD J r td s) (hf : Fr r (r + 36) I J) (hn : n = cd E) (h : modO B I r cd (.inr E, s) K) : pCall_i d mX13_no (0, 0) [.ref r, .int n] (pset B J) K := by
  obtain ⟨h1, h2, h3⟩ := hl.th hq (n := n)
  exact c_mno hd hq.1 (mod_throw (v := 0) hq h1 (hf.tr h2) (u2_same.trans hn) h)
