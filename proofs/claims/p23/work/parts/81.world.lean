/-! THE WORLD THAT THE LAW STARTS IN -/
def wT (i : Nat) : Term := .string (pStrs.getD i ("", 0, "")).1 (pStrs.getD i ("", 0, "")).2.1
def wV (i : Nat) : Term := .field (wT i) "java/lang/String" "value" "[B"
def wSeg (i : Nat) : List Cond := .exactly (wT i) "java/lang/String" :: .eq (.field (wT i) "java/lang/String" "coder" "B") (.int 0) :: .arrayOf (wV i) .byte :: .eq (.length (wV i)) (.int (Int32.ofNat (pSLen.getD i 0))) :: (List.range (pSLen.getD i 0)).map (fun j => .eq (.elem (wV i) (.int (Int32.ofNat j))) (.int ((pSByt.getD i []).getD j 0)))
def wNot : Cond → Bool
  | .not _ => false
  | _ => true
def wOrd : List Nat := [4, 5, 6, 7, 8, 9, 10, 11, 12, 0, 14, 2, 3, 15, 16, 13, 17, 18, 19, 20, 1]
theorem wSeg_all : ((flatC (Jvm.Cond.and given_1 narrow_1)).drop 11).filter wNot = wOrd.flatMap wSeg := by decide +kernel
theorem wOrd_all : ∀ i : Fin 21, i.val ∈ wOrd := by decide
theorem wSeg_in {args : Array Value} {s : State} (h : (Jvm.Cond.and given_1 narrow_1).before args s = true) {i : Nat} (hi : i < 21) : ∀ c ∈ wSeg i, c.before args s = true := fun c hc => by
  have h1 : c ∈ ((flatC (Jvm.Cond.and given_1 narrow_1)).drop 11).filter wNot := by
    rw [wSeg_all]
    exact List.mem_flatMap.mpr ⟨i, wOrd_all ⟨i, hi⟩, hc⟩
  exact flat_of_before _ h c (List.mem_of_mem_drop (List.mem_filter.mp h1).1)
theorem w_at {args : Array Value} {s : State} (h : (Jvm.Cond.and given_1 narrow_1).before args s = true) {c : Cond} (i : Nat) (hi : (flatC (Jvm.Cond.and given_1 narrow_1))[i]? = some c) : c.before args s = true := flat_of_before _ h c (List.mem_of_getElem? hi)
def wDif (i j : Nat) : Bool := decide (pSLen.getD i 0 ≠ pSLen.getD j 0) || (List.range (pSLen.getD i 0)).any (fun k => decide ((pSByt.getD i []).getD k 0 ≠ (pSByt.getD j []).getD k 0))
theorem wDif_all : ∀ i j : Fin 21, i ≠ j → wDif i.val j.val = true := by decide +kernel
theorem wLen_all : ∀ i : Fin 21, pSLen.getD i.val 0 < 100 := by decide +kernel
theorem w_strs {args : Array Value} {s : State} {A : Nat → Prop} (h : (Jvm.Cond.and given_1 narrow_1).before args s = true) (hA : ∀ a : Nat, a < s.heap.size → ¬ A a) : ∃ adK adV : Nat → Nat, vk_S 21 pSLen pSByt adK adV A s s.heap ∧ ∀ i : Nat, i < 21 → (wT i).eval args s none [] s = some (.ref (adK i)) := by
  have h0 : ∀ i : Nat, ∃ q : Nat × Nat, i < 21 → (wT i).eval args s none [] s = some (.ref q.1) ∧ va_O "java/lang/String" q.1 A s s.heap ∧ va_OF "java/lang/String" "coder" "B" (.int 0) q.1 A s s.heap ∧ va_OF "java/lang/String" "value" "[B" (.ref q.2) q.1 A s s.heap ∧ va_T .byte q.2 (pSLen.getD i 0) (fun j => .int ((pSByt.getD i []).getD j 0)) A s s.heap ∧ (wV i).eval args s none [] s = some (.ref q.2) := by
    intro i
    by_cases hi : i < 21
    · have hs := wSeg_in h hi
      have hb : pSLen.getD i 0 < 2 ^ 31 := Nat.lt_trans (wLen_all ⟨i, hi⟩) (by decide)
      have x0 : (Cond.exactly (wT i) "java/lang/String").before args s = true := hs _ List.mem_cons_self
      have x1 : (Cond.eq (.field (wT i) "java/lang/String" "coder" "B") (.int 0)).before args s = true := hs _ (List.mem_cons_of_mem _ List.mem_cons_self)
      have x2 : (Cond.arrayOf (wV i) .byte).before args s = true := hs _ (List.mem_cons_of_mem _ (List.mem_cons_of_mem _ List.mem_cons_self))
      have x3 : (Cond.eq (.length (wV i)) (.int (Int32.ofNat (pSLen.getD i 0)))).before args s = true := hs _ (List.mem_cons_of_mem _ (List.mem_cons_of_mem _ (List.mem_cons_of_mem _ List.mem_cons_self)))
      have x4 : ∀ j, j < pSLen.getD i 0 → (Cond.eq (.elem (wV i) (.int (Int32.ofNat j))) (.int ((pSByt.getD i []).getD j 0))).before args s = true := fun j hj => hs _ (List.mem_cons_of_mem _ (List.mem_cons_of_mem _ (List.mem_cons_of_mem _ (List.mem_cons_of_mem _ (List.mem_map.mpr ⟨j, List.mem_range.mpr hj, rfl⟩)))))
      obtain ⟨a, c, cA, kA, q1, q2, q3, q4, q5, q6, -⟩ := Cond.exactly_spec (args := args) (first := s) (o := none) (s := s) (idx := []) (t := wT i) (cls := "java/lang/String") x0
      obtain ⟨t, ht, hT⟩ := va_Tof (f := fun j => .int ((pSByt.getD i []).getD j 0)) (A := A) hb x2 (va_eqt x3) (fun j hj => va_eqt (x4 j hj)) hA
      exact ⟨(a, t), fun _ => ⟨q1, ⟨cA, q3, q5, by rw [q6]; exact q2, hA a (Array.getElem?_eq_some_iff.mp q3).1⟩, vk_OFof q1 (va_eqt x1) hA, vk_OFof q1 ht hA, hT, ht⟩⟩
    · exact ⟨(0, 0), fun h => absurd h hi⟩
  obtain ⟨ad, had⟩ := Classical.axiomOfChoice h0
  refine ⟨fun i => (ad i).1, fun i => (ad i).2, ⟨fun i hi => ⟨(had i hi).2.1, (had i hi).2.2.1, (had i hi).2.2.2.1, (had i hi).2.2.2.2.1⟩, fun i j hi hj e => ?_⟩, fun i hi => (had i hi).1⟩
  by_cases hij : i = j
  · exact hij
  · exfalso
    obtain ⟨i1, -, -, -, i5, i6⟩ := had i hi
    obtain ⟨j1, -, -, -, j5, j6⟩ := had j hj
    have e2 : (ad i).2 = (ad j).2 := by
      have f1 : (wV i).eval args s none [] s = s.fieldOf? (ad i).1 "java/lang/String" "value" "[B" := va_fe i1
      have f2 : (wV j).eval args s none [] s = s.fieldOf? (ad j).1 "java/lang/String" "value" "[B" := va_fe j1
      have e' : (ad i).1 = (ad j).1 := e
      rw [i6, e'] at f1
      rw [j6] at f2
      exact Value.ref.inj (Option.some.inj (f1.trans f2.symm))
    obtain ⟨c1, k1, -, -, -, k5, k6, -⟩ := i5
    obtain ⟨c2, l1, -, -, -, l5, l6, -⟩ := j5
    rw [e2] at k1
    cases Option.some.inj (k1.symm.trans l1)
    have d := wDif_all ⟨i, hi⟩ ⟨j, hj⟩ (fun z => hij (congrArg Fin.val z))
    have bi := wLen_all ⟨i, hi⟩
    have bj := wLen_all ⟨j, hj⟩
    have el : pSLen.getD i 0 = pSLen.getD j 0 := by
      have z : Int32.ofNat (pSLen.getD i 0) = Int32.ofNat (pSLen.getD j 0) := k5.symm.trans l5
      have z2 := congrArg Int32.toNatClampNeg z
      rw [Int32.toNatClampNeg_ofNat_of_lt (Nat.lt_trans bi (by decide)), Int32.toNatClampNeg_ofNat_of_lt (Nat.lt_trans bj (by decide))] at z2
      exact z2
    unfold wDif at d
    rw [Bool.or_eq_true, decide_eq_true_eq] at d
    rcases d with d | d
    · exact d el
    · obtain ⟨k, hk, hd⟩ := List.any_eq_true.mp d
      have hk' := List.mem_range.mp hk
      have g1 := k6 k hk'
      have g2 := l6 k (by have hk2 : k < pSLen.getD i 0 := hk'; rw [el] at hk2; exact hk2)
      exact of_decide_eq_true hd (Value.int.inj (Option.some.inj (g1.symm.trans g2)))
theorem w_eqr {args : Array Value} {s : State} {t u : Term} {a : Nat} (h : (Cond.eq t u).before args s = true) (hu : u.eval args s none [] s = some (.ref a)) : t.eval args s none [] s = some (.ref a) := by
  cases hv : t.eval args s none [] s with
  | none => simp [Cond.before, Cond.holds, Cond.value, hv] at h
  | some w =>
    simp only [Cond.before, Cond.holds, Cond.value, hv, hu] at h
    cases w <;> simp_all
theorem w_refs : ∀ i : Nat, i < 21 → Cond.stringRef (pStrs.getD i ("", 0, "")).1 (pStrs.getD i ("", 0, "")).2.1 (pStrs.getD i ("", 0, "")).2.2 ∈ lw_tbl := by
  have h : ∀ i : Fin 21, tables_1[[474, 885, 793, 802, 72, 264, 284, 296, 302, 307, 325, 338, 368, 824, 777, 807, 817, 825, 826, 827, 828].getD i.val 0]? = some (Cond.stringRef (pStrs.getD i.val ("", 0, "")).1 (pStrs.getD i.val ("", 0, "")).2.1 (pStrs.getD i.val ("", 0, "")).2.2) := by decide +kernel
  exact fun i hi => mem_tb _ (h ⟨i, hi⟩)
theorem w_cls {args : Array Value} {s : State} (hts : ∀ w ∈ lw_tbl, w.before args s = true) : ∃ (dC : Nat → ClassId) (dI : Nat → Nat → Nat), ∀ (k : Nat) (q : vw_C), vwCl[k]? = some q → u_Kn s q.1 q.2.1 q.2.2 (dC k) (dI k) := by
  have key : ∀ k : Nat, ∃ r : ClassId × (Nat → Nat), ∀ q : vw_C, vwCl[k]? = some q → u_Kn s q.1 q.2.1 q.2.2 r.1 r.2 := by
    intro k
    match k with
    | 0 =>
      obtain ⟨c, f, hk⟩ := u_known (C := RX0) (T := TX0) (N := 6) (n := 6) hts (fun w h => (pTs_of (clwX0 w h)).1) (hts _ (mem_tb 565 (by decide +kernel)))
      exact ⟨(c, f), fun q hq => by cases hq; exact hk⟩
    | 1 =>
      obtain ⟨c, f, hk⟩ := u_known (C := RX1) (T := TX1) (N := 7) (n := 7) hts (fun w h => (pTs_of (clwX1 w h)).1) (hts _ (mem_tb 598 (by decide +kernel)))
      exact ⟨(c, f), fun q hq => by cases hq; exact hk⟩
    | 2 =>
      obtain ⟨c, f, hk⟩ := u_known (C := RX2) (T := TX2) (N := 5) (n := 5) hts (fun w h => (pTs_of (clwX2 w h)).1) (hts _ (mem_tb 942 (by decide +kernel)))
      exact ⟨(c, f), fun q hq => by cases hq; exact hk⟩
    | 3 =>
      obtain ⟨c, f, hk⟩ := u_known (C := RX3) (T := TX3) (N := 4) (n := 4) hts (fun w h => (pTs_of (clwX3 w h)).1) (hts _ (mem_tb 676 (by decide +kernel)))
      exact ⟨(c, f), fun q hq => by cases hq; exact hk⟩
    | 4 =>
      obtain ⟨c, f, hk⟩ := u_known (C := RX4) (T := TX4) (N := 3) (n := 3) hts (fun w h => (pTs_of (clwX4 w h)).1) (hts _ (mem_tb 575 (by decide +kernel)))
      exact ⟨(c, f), fun q hq => by cases hq; exact hk⟩
    | 5 =>
      obtain ⟨c, f, hk⟩ := u_known (C := RX5) (T := TX5) (N := 3) (n := 3) hts (fun w h => (pTs_of (clwX5 w h)).1) (hts _ (mem_tb 453 (by decide +kernel)))
      exact ⟨(c, f), fun q hq => by cases hq; exact hk⟩
    | 6 =>
      obtain ⟨c, f, hk⟩ := u_known (C := RX6) (T := TX6) (N := 7) (n := 7) hts (fun w h => (pTs_of (clwX6 w h)).1) (hts _ (mem_tb 139 (by decide +kernel)))
      exact ⟨(c, f), fun q hq => by cases hq; exact hk⟩
    | 7 =>
      obtain ⟨c, f, hk⟩ := u_known (C := RX7) (T := TX7) (N := 3) (n := 3) hts (fun w h => (pTs_of (clwX7 w h)).1) (hts _ (mem_tb 441 (by decide +kernel)))
      exact ⟨(c, f), fun q hq => by cases hq; exact hk⟩
    | 8 =>
      obtain ⟨c, f, hk⟩ := u_known (C := RX8) (T := TX8) (N := 1) (n := 1) hts (fun w h => (pTs_of (clwX8 w h)).1) (hts _ (mem_tb 166 (by decide +kernel)))
      exact ⟨(c, f), fun q hq => by cases hq; exact hk⟩
    | 9 =>
      obtain ⟨c, f, hk⟩ := u_known (C := RX9) (T := TX9) (N := 2) (n := 2) hts (fun w h => (pTs_of (clwX9 w h)).1) (hts _ (mem_tb 426 (by decide +kernel)))
      exact ⟨(c, f), fun q hq => by cases hq; exact hk⟩
    | 10 =>
      obtain ⟨c, f, hk⟩ := u_known (C := RX10) (T := TX10) (N := 5) (n := 5) hts (fun w h => (pTs_of (clwX10 w h)).1) (hts _ (mem_tb 447 (by decide +kernel)))
      exact ⟨(c, f), fun q hq => by cases hq; exact hk⟩
    | 11 =>
      obtain ⟨c, f, hk⟩ := u_known (C := RX11) (T := TX11) (N := 10) (n := 10) hts (fun w h => (pTs_of (clwX11 w h)).1) (hts _ (mem_tb 102 (by decide +kernel)))
      exact ⟨(c, f), fun q hq => by cases hq; exact hk⟩
    | k + 12 => exact ⟨(default, fun _ => 0), fun q hq => by simp [vwCl] at hq⟩
  obtain ⟨r, hr⟩ := Classical.axiomOfChoice key
  exact ⟨fun k => (r k).1, fun k => (r k).2, fun k q hq => hr k q hq⟩
theorem w_arr {args : Array Value} {s : State} {ty : FieldType} (h : (Cond.arrayClass ty).before args s = true) : ∃ cA : ClassId, ArrOfT s cA ty ∧ s.vm.findClass ("[" ++ ty.toString) = some cA := by
  obtain ⟨cA, kA, comp, h1, h2, h3⟩ := Cond.arrayClass_spec (args := args) (first := s) (o := none) (idx := []) h
  exact ⟨cA, fun n z => ⟨fun k h => (by cases h), kA, h2, comp, h3⟩, h1⟩
theorem w_arq {args : Array Value} {s : State} {C : String} (h : (Cond.arrayOver (.object C)).before args s = true) : ∃ cA : ClassId, ArrOfT s cA (.object C) ∧ va_RA s cA (.object C) := by
  obtain ⟨comp, cA, kA, h1, h2, h3, h4, h5⟩ := Cond.arrayOver_spec (args := args) (first := s) (s := s) (o := none) (idx := []) h
  exact ⟨cA, fun n z => ⟨fun k h => (by cases h), kA, h3, comp, h4⟩, kA, comp, h3, h4, h1, h5⟩
def wSp (adK adV : Nat → Nat) (tK tF b : Nat) : Nat → Addr := fun k => if k < 100 then adK k else if k < 500 then adV (k - 100) else if k < 600 then tK else if k < 1000 then tF else b
theorem w_world {l : Launch} {s : State} {b : Nat} (hflags : l.flags = flags0) (hts : ∀ w ∈ lw_tbl, w.before #[Value.ref b] s = true) (hgv : (Jvm.Cond.and given_1 narrow_1).before #[Value.ref b] s = true) : ∃ w : pW, pWOK w ∧ pWl w = l ∧ pW0 w = s ∧ pWsp w 1000 = b := by
  have hA : ∀ a : Nat, a < s.heap.size → ¬ (fun q => s.heap.size ≤ q) a := fun a ha => Nat.not_le.mpr ha
  obtain ⟨dC, dI, hKc⟩ := w_cls hts
  obtain ⟨c2, a2, b2⟩ := w_arr (ty := .int) (hts _ (mem_tb 439 (by decide +kernel)))
  obtain ⟨c4, a4, b4⟩ := w_arq (C := "WordPad$Row") (hts _ (mem_tb 461 (by decide +kernel)))
  obtain ⟨adK, adV, hS, hE⟩ := w_strs hgv hA
  obtain ⟨tK, htK⟩ : ∃ tK : Nat, tK = 0 := ⟨0, rfl⟩
  have hF := va_Zqof (C := "jdk/internal/util/Preconditions") (n := "SIOOBE_FORMATTER") (d := "Ljava/util/function/BiFunction;") (hts _ (mem_tb 500 (by decide +kernel))) (hts _ (mem_tb 9 (by decide +kernel))) (w_at hgv 7 (by decide +kernel)) hA
  obtain ⟨tF, hF⟩ : ∃ tF : Nat, va_Z "jdk/internal/util/Preconditions" "SIOOBE_FORMATTER" "Ljava/util/function/BiFunction;" .null (fun q => s.heap.size ≤ q) s s.heap ∨ va_Z "jdk/internal/util/Preconditions" "SIOOBE_FORMATTER" "Ljava/util/function/BiFunction;" (.ref tF) (fun q => s.heap.size ≤ q) s s.heap := by
    rcases hF with h | ⟨t, h⟩
    · exact ⟨0, Or.inl h⟩
    · exact ⟨t, Or.inr h⟩
  have eK : ∀ i, i < 21 → wSp adK adV tK tF b i = adK i := fun i hi => if_pos (by omega)
  have eV : ∀ i, i < 21 → wSp adK adV tK tF b (100 + i) = adV i := fun i hi => by
    unfold wSp
    rw [if_neg (by omega), if_pos (by omega), Nat.add_sub_cancel_left]
  have vS : vk_S 21 pSLen pSByt (wSp adK adV tK tF b) (fun i => wSp adK adV tK tF b (100 + i)) (fun q => s.heap.size ≤ q) s s.heap := by
    refine ⟨fun i hi => ?_, fun i j hi hj e => hS.2 i j hi hj (by rw [eK i hi, eK j hj] at e; exact e)⟩
    dsimp only
    rw [eK i hi, eV i hi]
    exact hS.1 i hi
  refine ⟨(l, s, (dC, dI), (c2, c2, c4), wSp adK adV tK tF b), ?_, rfl, rfl, rfl⟩
  refine ⟨⟨hKc, fun k q hk => ?_⟩, ?_, ⟨_, hts⟩, ?_, ?_, fun i x hx => ?_, True.intro, vS, va_Zof (hts _ (mem_tb 484 (by decide +kernel))) (hts _ (mem_tb 7 (by decide +kernel))) (va_eqi (w_at hgv 6 (by decide +kernel))) hA, hF, True.intro, True.intro⟩
  · match k with
    | 0 => cases hk; exact ⟨a2, b2⟩
    | 1 => cases hk; exact ⟨a2, b2⟩
    | 2 => cases hk; exact ⟨a4, b4⟩
    | k + 3 => simp at hk
  · show (!l.flags.contains noTraceFlag) = false
    rw [hflags]
    decide +kernel
  · exact vx_Zqof (hts _ (mem_tb 58 (by decide +kernel))) (hts _ (mem_tb 17 (by decide +kernel))) (w_at hgv 4 (by decide +kernel)) hA
  · exact vx_Zqof (hts _ (mem_tb 60 (by decide +kernel))) (hts _ (mem_tb 17 (by decide +kernel))) (w_at hgv 5 (by decide +kernel)) hA
  · have hi : i < 21 := (List.getElem?_eq_some_iff.mp hx).1
    have ex : pStrs.getD i ("", 0, "") = x := by rw [List.getD_eq_getElem?_getD, hx]; rfl
    show vk_R x.1 x.2.1 x.2.2 (wSp adK adV tK tF b i) s
    rw [eK i hi, ← ex]
    exact vk_R.of (hts _ (w_refs i hi)) (hE i hi)
