/-! THE PURE MACHINE. Memory: kinds (0 junk, 1 object of a class, 2 ints, 3 longs, 4 rows of Row), ints, longs, references (0 null, b + 1 the cell b), the next free cell. -/
abbrev pM : Type := (Nat → Nat × Nat) × (Nat → Nat → Int32) × (Nat → Nat → Int64) × (Nat → Nat → Nat) × Nat
def pK (M : pM) : Nat → Nat × Nat := M.1
def pI (M : pM) : Nat → Nat → Int32 := M.2.1
def pL (M : pM) : Nat → Nat → Int64 := M.2.2.1
def pP (M : pM) : Nat → Nat → Nat := M.2.2.2.1
def pN (M : pM) : Nat := M.2.2.2.2
def u2 {α : Type} (f : Nat → Nat → α) (a j : Nat) (v : α) : Nat → Nat → α := fun x y => if x = a ∧ y = j then v else f x y
def psI (M : pM) (a j : Nat) (v : Int32) : pM := (M.1, u2 M.2.1 a j v, M.2.2)
def psL (M : pM) (a j : Nat) (v : Int64) : pM := (M.1, M.2.1, u2 M.2.2.1 a j v, M.2.2.2)
def psP (M : pM) (a j : Nat) (v : Nat) : pM := (M.1, M.2.1, M.2.2.1, u2 M.2.2.2.1 a j v, M.2.2.2.2)
def pnew (M : pM) (k : Nat × Nat) : pM := (fun x => if x = M.2.2.2.2 then k else M.1 x, fun x y => if x = M.2.2.2.2 then 0 else M.2.1 x y, fun x y => if x = M.2.2.2.2 then 0 else M.2.2.1 x y, fun x y => if x = M.2.2.2.2 then 0 else M.2.2.2.1 x y, M.2.2.2.2 + 1)
/-- locals, operand stack, cells and slots that may still be made -/
abbrev pF : Type := List (Option Value) × List Value × Nat × Nat
abbrev pR : Type := Option Value ⊕ String
/-- a method: name, code, locals, what it returns, its handlers -/
abbrev pMI : Type := MethodName × ByteArray × Nat × Option FieldType × List (Nat × Nat × Nat × Nat)
abbrev pC : Type := pMI → Nat × Nat → List Value → pM → (pR → pM → Prop) → Prop
abbrev pOp : Type := pC → (Nat → pF → pM → Prop) → (pR → pM → Prop) → pF → pM → Prop
def pat : List (Option Value) → Nat → Option Value
  | [], _ => none
  | x :: _, 0 => x
  | _ :: l, k + 1 => pat l k
def pst : List (Option Value) → Nat → Option Value → List (Option Value)
  | [], _, _ => []
  | _ :: l, 0, v => v :: l
  | x :: l, k + 1, v => x :: pst l k v
def pcat2 : Value → Bool
  | .long _ => true
  | .double _ => true
  | _ => false
def pok (L : List (Option Value)) : Nat → Bool
  | 0 => true
  | j + 1 => match pat L j with
    | some v => !pcat2 v
    | none => true
def pent : List Value → List (Option Value)
  | [] => []
  | v :: vs => match pcat2 v with
    | true => some v :: none :: pent vs
    | false => some v :: pent vs
def pentry (n : Nat) (as : List Value) : List (Option Value) := pent as ++ List.replicate (n - (pent as).length) none
def psum (l : List Value) : Nat := (l.map fun v => v.category).sum
def pv : Nat → Value
  | 0 => .null
  | b + 1 => .ref b
theorem pcat2_iff (v : Value) : pcat2 v = true ↔ v.category = 2 := by cases v <;> simp [pcat2, Value.category]
theorem pcat2_iff0 (v : Value) : pcat2 v = false ↔ v.category = 1 := by cases v <;> simp [pcat2, Value.category]
theorem pat_lt {L : List (Option Value)} : ∀ {k : Nat} {v : Value}, pat L k = some v → k < L.length := by
  induction L with
  | nil => intro k v h; simp [pat] at h
  | cons x l ih =>
    intro k v h
    cases k with
    | zero => simp
    | succ k => have := ih (k := k) (v := v) h; simp; omega
theorem pst_length (L : List (Option Value)) : ∀ (k : Nat) (v : Option Value), (pst L k v).length = L.length := by
  induction L with
  | nil => intro k v; rfl
  | cons x l ih => intro k v; cases k <;> simp [pst, ih]
theorem pat_pst (L : List (Option Value)) : ∀ (i k : Nat) (v : Option Value), pat (pst L i v) k = if k = i then (if i < L.length then v else none) else pat L k := by
  induction L with
  | nil => intro i k v; simp [pst, pat]
  | cons x l ih =>
    intro i k v
    cases i with
    | zero => cases k <;> simp [pst, pat]
    | succ i =>
      cases k with
      | zero => simp [pst, pat]
      | succ k => simp [pst, pat, ih]
/-! the world: launch, the law's start, the tables' layout, the array classes, where special cells lie -/
abbrev pW : Type := Launch × State × va_G × (ClassId × ClassId × ClassId) × (Nat → Addr)
def pWl (w : pW) : Launch := w.1
def pW0 (w : pW) : State := w.2.1
def pWD (w : pW) : va_G := w.2.2.1
def pWc (w : pW) : ClassId × ClassId × ClassId := w.2.2.2.1
def pWsp (w : pW) : Nat → Addr := w.2.2.2.2
def pB (w : pW) : Nat := (pW0 w).heap.size
def pBIG : Nat := 1073741824
def pAd (w : pW) (n : Nat) : Addr := if n < pBIG then pB w + n else pWsp w (n - pBIG)
def ptr (w : pW) : Value → Value
  | .ref n => .ref (pAd w n)
  | v => v
theorem ptr_cat (w : pW) (v : Value) : (ptr w v).category = v.category := by cases v <;> rfl
theorem ptr_sum (w : pW) (l : List Value) : ((l.map (ptr w)).map fun v => v.category).sum = psum l := by
  unfold psum
  rw [List.map_map]
  congr 1
  apply List.map_congr_left
  intro v _
  exact ptr_cat w v
def pTy (ci : Nat) : Nat → FieldType := match ci with
  | 0 => tyX0
  | 1 => tyX1
  | 2 => tyX2
  | 3 => tyX3
  | 4 => tyX4
  | 5 => tyX5
  | 6 => tyX6
  | 7 => tyX7
  | 8 => tyX8
  | 9 => tyX9
  | 10 => tyX10
  | _ => tyX11
def pIsR : FieldType → Bool
  | .object _ => true
  | .array _ => true
  | _ => false
def pfv (w : pW) (M : pM) (a ci k : Nat) : Value := match pIsR (pTy ci k) with
  | true => ptr w (pv (pP M a k))
  | false => .int (pI M a k)
def pOpt (w : pW) : Nat → Option Nat
  | 0 => none
  | b + 1 => some (pAd w b)
def pObj (w : pW) (M : pM) (H : Heap) (a ci : Nat) : Prop := ∃ r : vw_C, vwCl[ci]? = some r ∧ t_OB (pB w + a) ((pWD w).1 ci) r.2.2 ((pWD w).2 ci) H (fun k => pfv w M a ci k)
/-- where the law's script stands -/
def pSCR : Nat := 1073742824
def pScr (w : pW) (M : pM) (H : Heap) (n : Nat) : Prop := pWsp w 1000 < pB w ∧ ∃ scr : Cell, H[pWsp w 1000]? = some scr ∧ (pW0 w).isArrayOf scr .int ∧ scr.vm ≠ .unknown ∧ scr.slots.size = n ∧ ∀ j : Nat, j < n → scr.slots[j]? = some (.int (pI M pSCR j))
def pRel (w : pW) (M : pM) (H : Heap) : Prop :=
  H.size = pB w + pN M ∧ pN M ≤ pBIG ∧ (∀ a, pN M ≤ a → (pK M a).1 = 0 ∨ (pK M a).1 = 5) ∧
  (∀ a ci, pK M a = (1, ci) → pObj w M H a ci) ∧
  (∀ a n, pK M a = (2, n) → H[pB w + a]? = some (vp_cell (pWc w).1 (n, .inl (fun j => pI M a j)))) ∧
  (∀ a n, pK M a = (3, n) → H[pB w + a]? = some (vp_cell (pWc w).2.1 (n, .inr (.inl (fun j => pL M a j))))) ∧
  (∀ a n, pK M a = (4, n) → H[pB w + a]? = some (vp_cell (pWc w).2.2 (n, .inr (.inr (.inr (.inr (fun j => pOpt w (pP M a j)))))))) ∧
  (∀ a n, pK M a = (5, n) → a = pSCR ∧ pScr w M H n)
/-- words that stay with every warming -/
def pNest : Cond → Bool
  | .fieldLinkNest .. => true
  | .methodLinkNest .. => true
  | .castable .. => true
  | .declares _ => true
  | _ => false
def pGW (c : Cond) : Bool := goodWord c || pNest c
theorem pGW_at {args a' : Array Value} {s U : State} {c : Cond} (hW : s.WarmedH U.vm) (hg : pGW c = true) (h : c.before args s = true) : c.before a' U = true := by
  unfold pGW at hg
  rw [Bool.or_eq_true] at hg
  rcases hg with hg | hg
  · exact word_at hW (good_of_word hg) h
  · cases c <;> simp [pNest] at hg
    · have h1 := va_Nw.warmM hW (show va_Nw _ s from va_tabs rfl rfl h)
      exact va_tabs rfl rfl h1
    · have h1 := va_Nw.warmF hW (show va_Nw _ s from va_tabs rfl rfl h)
      exact va_tabs rfl rfl h1
    · have h1 := va_Nw.warmD hW (show va_Nw _ s from va_tabs rfl rfl h)
      exact va_tabs rfl rfl h1
    · have h1 := va_Nw.warmC hW (show va_Nw _ s from va_tabs rfl rfl h)
      exact va_tabs rfl rfl h1
def pWd (c : Cond) : Prop := c ∈ lw_tbl ∧ pGW c = true
def pFree (w : pW) : Nat → Prop := fun q => pB w ≤ q
def pQc (w : pW) (Q : pR → pM → Prop) : Array Value → State → Outcome → State → Prop := fun _ st o t =>
  ∃ (r : Option Value) (M : pM), o = .returned (r.map (ptr w)) ∧ Q (.inl r) M ∧ pRel w M t.heap ∧ st.heap.size ≤ t.heap.size ∧ ∀ q, q < pB w → t.heap[q]? = st.heap[q]?
def pXC (w : pW) (Q : pR → pM → Prop) : String → State → State → Prop := fun E st t =>
  ∃ (M : pM), Q (.inr E) M ∧ pRel w M t.heap ∧ st.heap.size ≤ t.heap.size ∧ ∀ q, q < pB w → t.heap[q]? = st.heap[q]?
def pPc (w : pW) (as : List Value) (M : pM) : Array Value → State → Prop := fun v U =>
  v = (as.map (ptr w)).toArray ∧ pRel w M U.heap ∧ (pW0 w).WarmedH U.vm ∧ ∀ q, q < pB w → U.heap[q]? = (pW0 w).heap[q]?
def pcode (mi : pMI) : Cond := match mi.2.2.2.2 with
  | [] => Cond.code mi.1 mi.2.1 mi.2.2.1 mi.2.2.2.1
  | h => Cond.codeWith mi.1 mi.2.1 mi.2.2.1 mi.2.2.2.1 h
def pRm (d : Nat) (res : Nat × Nat) : Room := { frames := d + 9, cells := res.1, slots := res.2, locals := 40 * (d + 9) }
def pMIok (mi : pMI) : Prop := plainName mi.1.cls = true ∧ mi.2.2.1 ≤ 21 ∧ pWd (pcode mi)
def pSC (w : pW) (d : Nat) (C : pC) : Prop := ∀ mi res as M Q, C mi res as M Q → pMIok mi ∧ ∃ d', d' ≤ d ∧ vx_Met (pWl w) mi.1 [pcode mi] (pRm d' res) (pPc w as M) (pQc w Q) (pXC w Q) res.1 res.2 (pFree w)
def pStrs : List (String × Nat × String) := [("WordPad$Tokens", 36, "tag word weight of keys boost by when typed taken limit far last begins not and or min max "), ("WordPad$Tokens", 93, "()[];,+-*/<>="), ("WordPad", 69, "the tape is full"), ("WordPad", 79, "the tape has not so many bytes"), ("WordPad", 99, "no such figure"), ("WordPad", 113, "no letter"), ("WordPad", 122, "too many letters"), ("WordPad", 127, "nothing is typed"), ("WordPad", 132, "no place among the offers"), ("WordPad", 137, "no word is offered there"), ("WordPad", 167, "no such limit"), ("WordPad", 175, "no such word, or no such figure"), ("WordPad", 203, "no such word"), ("WordPadLaw", 41, " "), ("WordPadLaw", 59, "keys abc, de; tag t; tag u;"), ("WordPadLaw", 61, "word "), ("WordPadLaw", 70, " weight"), ("WordPadLaw", 78, ";"), ("WordPadLaw", 80, " of t;"), ("WordPadLaw", 82, " of u;"), ("WordPadLaw", 84, "boost t by 5 * typed - far when begins a or far > 2;")]
def pSLen : List Nat := [91, 13, 16, 30, 14, 9, 16, 16, 25, 24, 13, 31, 12, 1, 27, 5, 7, 1, 6, 6, 52]
def pSByt : List (List Int32) := [[116, 97, 103, 32, 119, 111, 114, 100, 32, 119, 101, 105, 103, 104, 116, 32, 111, 102, 32, 107, 101, 121, 115, 32, 98, 111, 111, 115, 116, 32, 98, 121, 32, 119, 104, 101, 110, 32, 116, 121, 112, 101, 100, 32, 116, 97, 107, 101, 110, 32, 108, 105, 109, 105, 116, 32, 102, 97, 114, 32, 108, 97, 115, 116, 32, 98, 101, 103, 105, 110, 115, 32, 110, 111, 116, 32, 97, 110, 100, 32, 111, 114, 32, 109, 105, 110, 32, 109, 97, 120, 32], [40, 41, 91, 93, 59, 44, 43, 45, 42, 47, 60, 62, 61], [116, 104, 101, 32, 116, 97, 112, 101, 32, 105, 115, 32, 102, 117, 108, 108], [116, 104, 101, 32, 116, 97, 112, 101, 32, 104, 97, 115, 32, 110, 111, 116, 32, 115, 111, 32, 109, 97, 110, 121, 32, 98, 121, 116, 101, 115], [110, 111, 32, 115, 117, 99, 104, 32, 102, 105, 103, 117, 114, 101], [110, 111, 32, 108, 101, 116, 116, 101, 114], [116, 111, 111, 32, 109, 97, 110, 121, 32, 108, 101, 116, 116, 101, 114, 115], [110, 111, 116, 104, 105, 110, 103, 32, 105, 115, 32, 116, 121, 112, 101, 100], [110, 111, 32, 112, 108, 97, 99, 101, 32, 97, 109, 111, 110, 103, 32, 116, 104, 101, 32, 111, 102, 102, 101, 114, 115], [110, 111, 32, 119, 111, 114, 100, 32, 105, 115, 32, 111, 102, 102, 101, 114, 101, 100, 32, 116, 104, 101, 114, 101], [110, 111, 32, 115, 117, 99, 104, 32, 108, 105, 109, 105, 116], [110, 111, 32, 115, 117, 99, 104, 32, 119, 111, 114, 100, 44, 32, 111, 114, 32, 110, 111, 32, 115, 117, 99, 104, 32, 102, 105, 103, 117, 114, 101], [110, 111, 32, 115, 117, 99, 104, 32, 119, 111, 114, 100], [32], [107, 101, 121, 115, 32, 97, 98, 99, 44, 32, 100, 101, 59, 32, 116, 97, 103, 32, 116, 59, 32, 116, 97, 103, 32, 117, 59], [119, 111, 114, 100, 32], [32, 119, 101, 105, 103, 104, 116], [59], [32, 111, 102, 32, 116, 59], [32, 111, 102, 32, 117, 59], [98, 111, 111, 115, 116, 32, 116, 32, 98, 121, 32, 53, 32, 42, 32, 116, 121, 112, 101, 100, 32, 45, 32, 102, 97, 114, 32, 119, 104, 101, 110, 32, 98, 101, 103, 105, 110, 115, 32, 97, 32, 111, 114, 32, 102, 97, 114, 32, 62, 32, 50, 59]]
def pWOK (w : pW) : Prop :=
  va_K (pWD w) vwCl [((pWc w).1, .int), ((pWc w).1, .int), ((pWc w).2.2, .object "WordPad$Row")] (pW0 w) ∧ (pWl w).stackTraces = false ∧ (∃ a0 : Array Value, ∀ c ∈ lw_tbl, c.before a0 (pW0 w) = true) ∧
  vx_Zq Bundle.tN "UNASSIGNED_STACK" Bundle.steD (pFree w) (pW0 w) (pW0 w).heap ∧ vx_Zq Bundle.tN "SUPPRESSED_SENTINEL" Bundle.listD (pFree w) (pW0 w) (pW0 w).heap ∧
  (∀ i x, pStrs[i]? = some x → vk_R x.1 x.2.1 x.2.2 (pWsp w i) (pW0 w)) ∧ True ∧
  vk_S 21 pSLen pSByt (pWsp w) (fun i => pWsp w (100 + i)) (pFree w) (pW0 w) (pW0 w).heap ∧ va_Z "java/lang/String" "COMPACT_STRINGS" "Z" (.int 1) (pFree w) (pW0 w) (pW0 w).heap ∧
  (va_Z "jdk/internal/util/Preconditions" "SIOOBE_FORMATTER" "Ljava/util/function/BiFunction;" .null (pFree w) (pW0 w) (pW0 w).heap ∨ va_Z "jdk/internal/util/Preconditions" "SIOOBE_FORMATTER" "Ljava/util/function/BiFunction;" (.ref (pWsp w 600)) (pFree w) (pW0 w) (pW0 w).heap) ∧
  True ∧ True
def pLR (w : pW) (n : Nat) (L : List (Option Value)) (ls : Array Slot) : Prop := ls.size = n ∧ lv_wf ls ∧ ∀ k v, pat L k = some v → ls[k]? = some (.val (ptr w v))
def pRetI : Option Value → Instr
  | some (.int _) => .ireturn
  | some (.long _) => .lreturn
  | some (.float _) => .freturn
  | some (.double _) => .dreturn
  | some _ => .areturn
  | none => .return_
def pRetOK : Option FieldType → Option Value → Prop
  | some .int, some (.int _) => True
  | some .boolean, some (.int v) => v = 0 ∨ v = 1
  | some .char, some (.int v) => narrow .char (.int v) = .int v
  | some .byte, some (.int v) => narrow .byte (.int v) = .int v
  | some .long, some (.long _) => True
  | some .double, some (.double _) => True
  | some (.object _), some (.ref _) => True
  | none, none => True
  | _, _ => False
def pAct (w : pW) (mi : pMI) (d : Nat) (p : Program) (e : Env) (R : Room) (s : State) (m : MethodId) (args : Array Value) (below : List Frame) (meth : Method) (c : Code) (Z : State → Prop) (Q : pR → pM → Prop) : Prop :=
  p.tables.exec = Jvm.exec ∧ c.code = mi.2.1 ∧ c.maxLocals = mi.2.2.1 ∧ s.vm.findClass mi.1.cls = some m.cls ∧ meth.locks = false ∧ meth.sig.returnType = mi.2.2.2.1 ∧ meth.name = mi.1.name ∧ c.exceptionTable.toList = tableOf mi.2.2.2.2 ∧
  (pW0 w).WarmedH s.vm ∧ (∀ q, q < pB w → s.heap[q]? = (pW0 w).heap[q]?) ∧ d + 10 ≤ R.frames ∧ 40 * (d + 10) ≤ R.locals ∧ pB w ≤ s.heap.size ∧
  (Z = vx_MQ below (pQc w Q) (pXC w Q) args s R.cells R.slots (pFree w) ∨ ((∀ E M, ¬ Q (.inr E) M) ∧ ∀ (r : Option Value) (M : pM) (H : Heap) (locs : List Loc) (cells slots : Nat) (ls : Array Slot) (pc : Nat), Q (.inl r) M → pRel w M H → va_S (pFree w) s.heap H locs → cells ≤ R.cells → slots ≤ R.slots → decode c.code pc = .ok (pRetI r, 1) → pRetOK mi.2.2.2.1 r → W p (pWl w) e R s m args below meth c H locs cells slots Z (F0 m pc ls (r.toList.map (ptr w)))))
def pWG (w : pW) (mi : pMI) (p : Program) (e : Env) (R : Room) (s : State) (m : MethodId) (args : Array Value) (below : List Frame) (meth : Method) (c : Code) (Z : State → Prop) (pc : Nat) (f : pF) (M : pM) : Prop :=
  ∀ (H : Heap) (locs : List Loc) (cells slots : Nat) (ls : Array Slot), pRel w M H → pLR w mi.2.2.1 f.1 ls → cells + f.2.2.1 ≤ R.cells → slots + f.2.2.2 ≤ R.slots → va_S (pFree w) s.heap H locs →
    W p (pWl w) e R s m args below meth c H locs cells slots Z (F0 m pc ls (f.2.1.map (ptr w)))
def pCm (C : pC) : Prop := ∀ mi res as M Q Q', (∀ r M, Q r M → Q' r M) → C mi res as M Q → C mi res as M Q'
def pMono (op : pOp) : Prop := ∀ (C C' : pC) (X X' : Nat → pF → pM → Prop) (Q Q' : pR → pM → Prop) (f : pF) (M : pM), pCm C → pCm C' → (∀ mi res as M Q, C mi res as M Q → C' mi res as M Q) → (∀ pc f M, X pc f M → X' pc f M) → (∀ r M, Q r M → Q' r M) → op C X Q f M → op C' X' Q' f M
/-- an operation is right for the instruction at a pc -/
def OpS (mi : pMI) (pc : Nat) (op : pOp) : Prop := pMono op ∧
  ∀ (w : pW) (_ : pWOK w) (d : Nat) (C : pC) (_ : pSC w d C) (p : Program) (e : Env) (R : Room) (s : State) (m : MethodId) (args : Array Value) (below : List Frame) (meth : Method) (c : Code) (Z : State → Prop) (Q : pR → pM → Prop) (_ : pAct w mi d p e R s m args below meth c Z Q) (f : pF) (M : pM),
    op C (pWG w mi p e R s m args below meth c Z) Q f M → pWG w mi p e R s m args below meth c Z pc f M
def pWk1 (L L2 : List (Option Value)) : Prop := ∀ k v, pat L k = some v → pat L2 k = some v
/-- what is known with less known of the locals is known with more -/
def pWk (X : Nat → pF → pM → Prop) : Prop := ∀ (pc : Nat) (L L2 : List (Option Value)) (S : List Value) (c s : Nat) (M : pM), pWk1 L L2 → X pc (L, S, c, s) M → X pc (L2, S, c, s) M
def pGo (C : pC) (mi : pMI) (Q : pR → pM → Prop) (pc : Nat) (f : pF) (M : pM) : Prop := ∀ X : Nat → pF → pM → Prop, (∀ pc op f M, OpS mi pc op → op C X Q f M → X pc f M) → pWk X → X pc f M
theorem pGo.wk {C : pC} {mi : pMI} {Q : pR → pM → Prop} {pc : Nat} {L L2 : List (Option Value)} {S : List Value} {c s : Nat} {M : pM} (h : pWk1 L L2) (g : pGo C mi Q pc (L, S, c, s) M) : pGo C mi Q pc (L2, S, c, s) M := fun X hX hw => hw pc L L2 S c s M h (g X hX hw)
theorem pGo.st0 {C : pC} (hC : pCm C) {mi : pMI} {Q : pR → pM → Prop} {pc : Nat} {op : pOp} {f : pF} {M : pM} (hs : OpS mi pc op) (h : op C (pGo C mi Q) Q f M) : pGo C mi Q pc f M := fun X hX hw =>
  hX pc op f M hs (hs.1 C C _ X Q Q f M hC hC (fun _ _ _ _ _ h => h) (fun _ _ _ g => g X hX hw) (fun _ _ h => h) h)
theorem pGo.mono {C C' : pC} (hC : pCm C) (hC' : pCm C') (hCC : ∀ mi res as M Q, C mi res as M Q → C' mi res as M Q) {mi : pMI} {Q Q' : pR → pM → Prop} (hQ : ∀ r M, Q r M → Q' r M) {pc : Nat} {f : pF} {M : pM} (h : pGo C mi Q pc f M) : pGo C' mi Q' pc f M := by
  refine h (fun pc f M => pGo C' mi Q' pc f M) ?_ (fun _ _ _ _ _ _ _ hw g => pGo.wk hw g)
  intro pc op f M hs ho
  exact pGo.st0 hC' hs (hs.1 C C' _ _ Q Q' f M hC hC' hCC (fun _ _ _ g => g) hQ ho)
def CP : Nat → pC
  | 0 => fun _ _ _ _ _ => False
  | d + 1 => fun mi res as M Q => CP d mi res as M Q ∨ (pMIok mi ∧ (pent as).length ≤ mi.2.2.1 ∧ pGo (CP d) mi Q 0 (pentry mi.2.2.1 as, [], res.1, res.2) M)
theorem CP_m : ∀ d, pCm (CP d)
  | 0 => fun _ _ _ _ _ _ _ h => h
  | d + 1 => fun mi res as M Q Q' hQ h => by
    rcases h with h | ⟨h1, h2, h3⟩
    · exact Or.inl (CP_m d mi res as M Q Q' hQ h)
    · exact Or.inr ⟨h1, h2, pGo.mono (CP_m d) (CP_m d) (fun _ _ _ _ _ h => h) hQ h3⟩
/-- a method's run inside a call of depth d + 1 -/
def Go (d : Nat) (mi : pMI) (Q : pR → pM → Prop) (pc : Nat) (f : pF) (M : pM) : Prop := pGo (CP d) mi Q pc f M
theorem st {d : Nat} {mi : pMI} {Q : pR → pM → Prop} {pc : Nat} {op : pOp} {f : pF} {M : pM} (hs : OpS mi pc op) (h : op (CP d) (Go d mi Q) Q f M) : Go d mi Q pc f M := pGo.st0 (CP_m d) hs h
theorem CP_le {d d' : Nat} (h : d ≤ d') {mi : pMI} {res : Nat × Nat} {as : List Value} {M : pM} {Q : pR → pM → Prop} (hc : CP d mi res as M Q) : CP d' mi res as M Q := by
  induction h with
  | refl => exact hc
  | step _ ih => exact Or.inl ih
theorem CP_go {d : Nat} (hd : 1 ≤ d) {mi : pMI} {res : Nat × Nat} {as : List Value} {M : pM} {Q : pR → pM → Prop} (h1 : pMIok mi) (h2 : (pent as).length ≤ mi.2.2.1) (h : Go (d - 1) mi Q 0 (pentry mi.2.2.1 as, [], res.1, res.2) M) : CP d mi res as M Q := by
  obtain ⟨e, rfl⟩ : ∃ e, d = e + 1 := ⟨d - 1, by omega⟩
  exact Or.inr ⟨h1, h2, h⟩
theorem CP_q {d : Nat} {mi : pMI} {res : Nat × Nat} {as : List Value} {M : pM} {Q Q' : pR → pM → Prop} (h : CP d mi res as M Q) (hq : ∀ r M, Q r M → Q' r M) : CP d mi res as M Q' := CP_m d mi res as M Q Q' hq h
