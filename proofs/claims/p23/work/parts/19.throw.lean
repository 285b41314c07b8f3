section PTHROW
variable {p : Program} {l : Launch} {e : Env} {R : Room} {s : State} {m : MethodId} {args : Array Value} {below : List Frame} {meth : Method} {c : Code} {H : Heap} {locs : List Loc} {cells slots : Nat} {Q : State → Prop}
variable {mc ms : Nat} {free : Addr → Prop} {A0 A1 : Nat → Prop} {H0 : Heap} {a : Array Value} {ls : Array Slot} {st0 rest : List Value}
variable {Qc : Array Value → State → Outcome → State → Prop} {XC : String → State → State → Prop}
theorem p_throwS {cc : ByteArray} {pc : Nat} (hexec : p.tables.exec = Jvm.exec) (hb : c.code = cc) (hl : l.stackTraces = false) {own cls text : String} {names : List String} {ik is ic mc ms sa : Nat} {A : Nat → Prop}
    (hown : s.vm.findClass own = some m.cls) (hcls : Bundle.fit cls = true) (hnames : ∀ n ∈ names, Bundle.fit n = true)
    (hk : (Cond.classLink own ik cls).before args s = true) (hini : (Cond.initialized cls).before args s = true) (hstr : vk_R own is text sa s) (hat : ∀ w ∈ vx_atS own ic cls names, w.before args s = true)
    (hgood : ∀ w ∈ Cond.classLink own ik cls :: Cond.initialized cls :: vx_atS own ic cls names, vx_ot w = true)
    (hU : vx_Zq Bundle.tN "UNASSIGNED_STACK" Bundle.steD A s s.heap) (hN : vx_Zq Bundle.tN "SUPPRESSED_SENTINEL" Bundle.listD A s s.heap) (hS : va_S A s.heap H locs) (hsize : ls.size = c.maxLocals)
    (d0 : decode cc pc = .ok (.new ik, 3)) (d3 : decode cc (pc + 3) = .ok (.dup, 1)) (d4 : decode cc (pc + 4) = .ok (.ldc is, 2)) (d6 : decode cc (pc + 6) = .ok (.invokespecial ic, 3)) (d9 : decode cc (pc + 9) = .ok (.athrow, 1))
    (hout : ∀ x ∈ c.exceptionTable.toList, covers x (pc + 9) = false)
    (hRframes : names.length + 3 < R.frames) (hRlocals : (rest.map fun v => v.category).sum + (13 * (names.length + 1) + 43) ≤ R.locals) (hRcells : cells + 1 ≤ R.cells) (hRslots : slots + 6 ≤ R.slots) (hlocks : meth.locks = false)
    (hx : ∀ t : State, s.vm.Alike t.vm → t.heap.size = H.size + 1 → (∀ q : Nat, q < H.size → t.heap[q]? = H[q]?) → XC cls s t)
    (hf : ∀ z ∈ locs, free z.base) (hc : cells + 1 ≤ mc) (hs : slots + 6 ≤ ms) :
    W p l e R s m args below meth c H locs cells slots (vx_MQ below Qc XC args s mc ms free) (F0 m pc ls rest) := by
  intro T hT X
  have htr : e.platform.stackTraces = false := (show e.platform.stackTraces = l.stackTraces by rw [X.admits.platform]).trans hl
  have Y := vx_rebase X (R' := { frames := R.frames, locals := R.locals, cells := 1, slots := 6 }) (Nat.le_refl _) (Nat.le_refl _) hRcells hRslots
  obtain ⟨s', hA⟩ : ∃ z, z = (T.setVm s.vm).setFrames (.invoking m args :: below) := ⟨_, rfl⟩
  rw [← hA] at Y
  have hvm : s'.vm = s.vm := by rw [hA]; rfl
  have hhp : s'.heap = H := by rw [hA]; exact hT
  have hW0 : s.WarmedH s'.vm := by rw [hvm]; exact State.WarmedH.refl s
  have hat' : ∀ w ∈ vx_atS own ic cls names, w.before args s' = true := fun w hw => vx_ot_at hW0 hvm.symm (hgood w (List.mem_cons_of_mem _ (List.mem_cons_of_mem _ hw))) (hat w hw)
  have hk' : (Cond.classLink own ik cls).before args s' = true := vx_ot_at hW0 hvm.symm (hgood _ List.mem_cons_self) hk
  have hini' : (Cond.initialized cls).before args s' = true := vx_ot_at hW0 hvm.symm (hgood _ (List.mem_cons_of_mem _ List.mem_cons_self)) hini
  have hU' : vx_Zq Bundle.tN "UNASSIGNED_STACK" Bundle.steD A s' s'.heap := by rw [hhp]; exact vx_Zq.moved hW0.alike (hU.kept hS.2.1)
  have hN' : vx_Zq Bundle.tN "SUPPRESSED_SENTINEL" Bundle.listD A s' s'.heap := by rw [hhp]; exact vx_Zq.moved hW0.alike (hN.kept hS.2.1)
  have h : ∀ w ∈ Bundle.ownAtoms own ic cls names, w.before args s' = true := vx_own hat' (vx_isRefq hU'.1) (vx_isRefq hN'.1) hU'.2.word hN'.2.word
  have hown' : s'.vm.findClass own = some m.cls := by rw [hvm]; exact hown
  have hins : (Cond.instantiable cls 6).before args s' = true := h _ (by simp [Bundle.ownAtoms])
  obtain ⟨vm₁, cX, kX, hfX, hkX, -, -, X₁, st1⟩ := Y.newCold hexec (own := own) (C := cls) (index := ik) (n := 6) hown' hk' hins hini'
    (g := F0 m pc ls rest) rfl (by rw [hb]; exact d0) (Nat.le_refl _) (Nat.le_refl _)
  generalize hT1 : (T.setVm vm₁).pushCell { cls := cX, slots := kX.instanceTypes.map defaultValue, vm := .none } = T1 at X₁ st1
  have hcat : (Value.ref T.heap.size).category = 1 := rfl
  have hcellA : T1.heap[T.heap.size]? = some (freshCell cX kX) := by rw [← hT1]; exact State.heap_pushCell_size _ _
  have d3' : decode c.code (pc + 3) = .ok (.dup, 1) := by rw [hb]; exact d3
  have d4' : decode c.code (pc + 4) = .ok (.ldc is, 2) := by rw [hb]; exact d4
  have hstr' : vk_R own is text sa s' := vk_R.warm hW0 hstr
  obtain ⟨U, hsteps, hrun, hend, hW, hsame, ce, hce, hO⟩ := X₁.ctorThrowS hexec htr (own := own) (cls := cls) (names := names) (ic := ic) hown' hcls hnames h (fun x hx => nomatch hx) hfX hkX hcellA (by rw [hhp, hT]; exact Nat.le_refl _) (msg := .ref sa) rfl
    (g := { method := m, pc := pc + 6, locals := ls, stack := .ref sa :: .ref T.heap.size :: .ref T.heap.size :: rest, locked := none }) rfl hsize rfl rfl (rest := rest) rfl
    (by rw [hb]; exact d6) (by rw [hb]; exact d9) hout hRframes (by simp only [List.map_cons, List.sum_cons, hcat]; omega) hlocks
  obtain ⟨f1, f2⟩ := vx_frame hsame
  rw [hhp] at f1 f2
  have hWs : s.WarmedH U.vm := State.WarmedH.trans hW0 hW
  have hcl : s.vm.findClass cls = some ce.cls := by
    have h9 := hO.cls
    rw [hvm] at h9
    exact h9
  have hall : s.sameButNew ({ U with vm := s.vm } : State) locs mc ms := by
    subst hA
    obtain ⟨e1, e2⟩ := hsame
    rw [State.setFrames_setFrames] at e1
    have h2 : (T.setVm s.vm).sameButNew ({ U with vm := s.vm } : State) [] (0 + 1) (0 + 6) := ⟨e1, e2⟩
    have h3 := X.same.trans h2
    rw [List.append_nil] at h3
    exact h3.mono hc hs
  refine ⟨U, ?_, .threw T.heap.size, hrun, hend, Or.inr ⟨T.heap.size, rfl, cls, ce, locs, hx U hWs.alike (by have e9 := hsame.2.2.1; rw [hhp] at e9; have e8 : T.heap.size < U.heap.size := (Array.getElem?_eq_some_iff.mp hce).1; rw [hT] at e8; have e7 : U.heap.size ≤ H.size + 1 := e9; omega) (fun q hq => f2 q hq (fun z hz => nomatch hz)), hce, hO.vm, hcl, hWs, hall, hf⟩⟩
  refine st1 _ ?_
  show Steps p.tables e below (T1.setTop { method := m, pc := pc + 3, locals := ls, stack := .ref T.heap.size :: rest, locked := none }) _
  jvm_step X₁.here [X₁.here.top, hexec, d3', Value.category]
  exact X₁.ldcString hexec (own := own) (text := text) (index := is) (a := sa) hown' hstr'.1 hstr'.2
    (g := { method := m, pc := pc + 4, locals := ls, stack := .ref T.heap.size :: .ref T.heap.size :: rest, locked := none }) rfl d4' _ hsteps
end PTHROW
theorem pRel.junk {w : pW} {M : pM} {H H' : Heap} (h : pRel w M H) (hlt : pN M < pBIG) (z : H'.size = H.size + 1) (oq : ∀ q, q < H.size → H'[q]? = H[q]?) : pRel w (pnew M (0, 0)) H' :=
  h.push hlt z oq (fun h => by cases h) (fun _ h => by cases h) (fun _ h => by cases h) (fun _ h => by cases h) (fun _ h => by cases h)
theorem vx_Zq_at {w : pW} {s : State} {H0 : Heap} {C n d : String} (h : vx_Zq C n d (pFree w) (pW0 w) (pW0 w).heap) (hW : (pW0 w).WarmedH s.vm) (hlow : ∀ q, q < pB w → s.heap[q]? = (pW0 w).heap[q]?) : vx_Zq C n d (pFree w) s s.heap :=
  vx_Zq.moved hW.alike (h.kept (fun a h1 _ => hlow a h1))
theorem s_throw {mi : pMI} {pc ik is ic i : Nat} {E tx : String} {names : List String} (hcls : Bundle.fit E = true) (hnames : ∀ n ∈ names, Bundle.fit n = true) (hlen : names.length = 2) (hh : mi.2.2.2.2 = [])
    (hk : pWd (.classLink mi.1.cls ik E)) (hini : pWd (.initialized E)) (hstr : pStrs[i]? = some (mi.1.cls, is, tx)) (hat : ∀ c ∈ vx_atS mi.1.cls ic E names, pWd c)
    (hgood : ∀ c ∈ Cond.classLink mi.1.cls ik E :: Cond.initialized E :: vx_atS mi.1.cls ic E names, vx_ot c = true)
    (d0 : decode mi.2.1 pc = .ok (.new ik, 3)) (d3 : decode mi.2.1 (pc + 3) = .ok (.dup, 1)) (d4 : decode mi.2.1 (pc + 4) = .ok (.ldc is, 2)) (d6 : decode mi.2.1 (pc + 6) = .ok (.invokespecial ic, 3)) (d9 : decode mi.2.1 (pc + 9) = .ok (.athrow, 1)) : OpS mi pc (o_throw E) := by
  refine ⟨fun C C' X X' Q Q' f M hC hC' hCC hX hQ h => ⟨h.1, h.2.1, h.2.2.1, h.2.2.2.1, hQ _ _ h.2.2.2.2⟩, fun w hw d C hC p e R s m args below meth c Z Q A f M h => ?_⟩
  obtain ⟨h1, h2, h3, h4, h5⟩ := h
  intro H locs cells slots ls hH hL hc hs hS
  obtain ⟨hx, hb, hml, hown, hlocks, hrt, hnm, htab, hW, hlow, hfr, hlo, hsz, hend⟩ := A
  rcases hend with rfl | ⟨hno, -⟩
  · obtain ⟨-, hst, -, hz1, hz2, hsr, -⟩ := id hw
    refine p_throwS (A := pFree w) hx hb hst hown hcls hnames (act_w hw hW hk) (act_w hw hW hini) (vk_R.warm hW (hsr i _ hstr)) (fun c hc => act_w hw hW (hat c hc)) hgood (vx_Zq_at (H0 := H) hz1 hW hlow) (vx_Zq_at (H0 := H) hz2 hW hlow) hS (hL.1.trans hml.symm) d0 d3 d4 d6 d9 ?_ ?_ ?_ (by omega) (by omega) hlocks ?_ hS.2.2 (by omega) (by omega)
    · rw [htab, hh]
      intro x hx9
      exact absurd hx9 (by simp [tableOf])
    · rw [hlen]; omega
    · rw [ptr_sum, hlen]
      exact Nat.le_trans (Nat.add_le_add_right h3 _) (Nat.le_trans (show 8 + (13 * (2 + 1) + 43) ≤ 40 * 10 by decide) (Nat.le_trans (Nat.mul_le_mul_left 40 (Nat.le_add_left 10 d)) hlo))
    · intro t ht hz ho
      refine ⟨_, h5, hH.junk h4 hz ho, by have := hS.1; omega, fun q hq => ?_⟩
      have hqH : q < H.size := by rw [hH.1]; omega
      rw [ho q hqH]
      exact hS.2.1 q (Nat.lt_of_lt_of_le hq hsz) (Nat.not_le.mpr hq)
  · exact absurd h5 (hno _ _)
section PRX
variable {w : pW} {p : Program} {e : Env} {R : Room} {s : State} {m : MethodId} {args : Array Value} {below : List Frame} {meth : Method} {c : Code} {H : Heap} {locs : List Loc} {cells slots : Nat} {Z : State → Prop} {H0 : Heap}
variable {pc mc ms : Nat} {ls : Array Slot} {rest st0 : List Value} {a : Array Value} {Q : pR → pM → Prop}
theorem p_runX (hr : vx_Run p (pWl w) e R s m args below meth c H locs cells slots mc ms (F0 m pc ls st0) rest (pQc w Q a) (pXC w Q) (pFree w)) (hsz : pB w ≤ H.size) (hsz0 : pB w ≤ H0.size) (hS : va_S (pFree w) H0 H locs)
    (kx : ∀ (E : String) (ce : Cell) (q9 : Addr) (M : pM) (H1 : Heap) (locs1 : List Loc), Q (.inr E) M → pRel w M H1 → va_S (pFree w) H0 H1 locs1 → H1[q9]? = some ce → ce.vm = .none → s.vm.findClass E = some ce.cls → vx_W p (pWl w) e R s m args below meth c H1 locs1 (cells + mc) (slots + ms) Z (F0 m pc ls rest) q9)
    (kk : ∀ (r : Option Value) (M : pM) (H1 : Heap) (locs1 : List Loc), Q (.inl r) M → pRel w M H1 → va_S (pFree w) H0 H1 locs1 → W p (pWl w) e R s m args below meth c H1 locs1 (cells + mc) (slots + ms) Z (F0 m (pc + 3) ls ((r.map (ptr w)).toList ++ rest))) : W p (pWl w) e R s m args below meth c H locs cells slots Z (F0 m pc ls st0) := by
  intro T hT X
  have keyS : ∀ {st₀ t T' : State} {L : List Loc}, st₀.heap = H → T'.heap = t.heap → (∀ q ∈ L, pFree w q.base) → st₀.heap.size ≤ t.heap.size → (∀ q, q < pB w → t.heap[q]? = st₀.heap[q]?) → va_S (pFree w) H0 T'.heap (locs ++ L) := by
    intro st₀ t T' L h0 e1 hL hz hk
    rw [h0] at hz hk
    exact ⟨Nat.le_trans hS.1 (by rw [e1]; exact hz), fun q h1 h2 => by
      have hqb : q < pB w := Nat.not_le.mp h2
      rw [e1, hk q hqb]; exact hS.2.1 q h1 h2, fun q hq => by
        rcases List.mem_append.mp hq with h | h
        · exact hS.2.2 q h
        · exact hL q h⟩
  rcases hr T hT X with ⟨v, st₀, t, T', L, h0, X', hL, e1, e2, ⟨r, M, hv, hq, hrel, hz, hk⟩, st⟩ | ⟨q, st₀, t, T', L, E, ce, h0, X', hL, e1, e2, ⟨M, hq, hrel, hz, hk⟩, hce, hcv, hcl, st⟩
  · cases hv
    obtain ⟨t2, a1, b1⟩ := kk r M T'.heap (locs ++ L) hq (by rw [e1]; exact hrel) (keyS h0 e1 hL hz hk) T' rfl X'
    exact ⟨t2, st t2 a1, b1⟩
  · obtain ⟨t2, a1, b1⟩ := kx E ce q M T'.heap (locs ++ L) hq (by rw [e1]; exact hrel) (keyS h0 e1 hL hz hk) (by rw [e1]; exact hce) hcv hcl T' rfl X'
    exact ⟨t2, st.trans a1, b1⟩
end PRX
theorem pLR_st1n {w : pW} {n k : Nat} {L : List (Option Value)} {v : Value} {ls : Array Slot} (hok : pok L k = true)
    (h : lv_has ls n ((k, v) :: (passoc w L).filter (fun q => !(q.1 == k) && !(q.1 + 1 == k && q.2.category == 2)))) : pLR w n (pst L k none) ls := by
  refine ⟨h.1, h.2.1, fun j u hj => ?_⟩
  rw [pat_pst] at hj
  by_cases e : j = k
  · rw [if_pos e] at hj
    split at hj <;> cases hj
  · rw [if_neg e] at hj
    refine h.2.2 (j, ptr w u) (List.mem_cons_of_mem _ (List.mem_filter.mpr ⟨passoc_mem hj, ?_⟩))
    by_cases e3 : j + 1 = k
    · have := pok_prev hok e3 hj
      simp [e, ptr_cat, this]
    · simp [e, e3]
theorem aftH_mono {X X' : Nat → pF → pM → Prop} {n : Nat} {hs : List (String × Nat × Nat)} {L : List (Option Value)} {r : List Value} {c s : Nat} (h : ∀ pc f M, X pc f M → X' pc f M) : ∀ a M, pAftH X n hs L r c s a M → pAftH X' n hs L r c s a M := fun a M q => by
  cases a with
  | inl v => exact h _ _ _ q
  | inr E =>
    obtain ⟨k, t, h1, h2, h3⟩ := q
    exact ⟨k, t, h1, h2, h _ _ _ h3⟩
/-- a handler for the class E: the row of the table, the rows ahead of it, its first instruction -/
def pHnd (mi : pMI) (pc : Nat) (E : String) (k t : Nat) : Prop := ∃ (pre : List ExceptionTableEntry) (x : ExceptionTableEntry) (suf : List ExceptionTableEntry), tableOf mi.2.2.2.2 = pre ++ x :: suf ∧ covers x pc = true ∧ x.catchType ≠ 0 ∧ k < mi.2.2.1 ∧
  (decode mi.2.1 x.handlerPc = .ok (.astore k, 2) ∧ t = x.handlerPc + 2 ∨ (∃ i : Fin 4, (i : Nat) = k ∧ decode mi.2.1 x.handlerPc = .ok (.astore_n i, 1)) ∧ t = x.handlerPc + 1) ∧ pWd (.classLink mi.1.cls x.catchType E) ∧ pWd (.castable E E) ∧
  ∀ z ∈ pre, covers z pc = false ∨ (z.catchType ≠ 0 ∧ ∃ nm : String, pWd (.classLink mi.1.cls z.catchType nm) ∧ ((E = "java/lang/IllegalStateException" ∧ nm = "java/lang/IllegalArgumentException") ∨ (E = "java/lang/IllegalStateException" ∧ nm = "java/lang/IndexOutOfBoundsException")))
/-- the law calls a method with handlers -/
theorem s_callSH {mi y : pMI} {pc idx k : Nat} (hyh : y.2.2.2.2 ≠ []) (hini : pWd (.initialized y.1.cls)) (hne : y.1.cls ≠ "java/lang/invoke/MethodHandle" ∧ y.1.cls ≠ "java/lang/invoke/VarHandle") (hpar : (parseMethodDescriptor y.1.desc).map (fun d => d.parameters.length) = some k) (hl : pWd (.methodLink mi.1.cls idx y.1)) (hin : pWd (.static y.1)) (hd : decode mi.2.1 pc = .ok (.invokestatic idx, 3)) : OpS mi pc (o_callS y k (pc + 3)) := by
  refine ⟨fun C C' X X' Q Q' f M hC hC' hCC hX hQ h => ?_, fun w hw d C hC p e R s m args below meth c Z Q A f M h => ?_⟩
  · obtain ⟨res, as, r, h1, h2, h4, h5, h6, h7⟩ := h
    exact ⟨res, as, r, h1, h2, h4, h5, h6, hCC _ _ _ _ _ (hC _ _ _ _ _ _ (aft_mono hX) h7)⟩
  · obtain ⟨res, as, r, h1, h2, h4, h5, h6, h7⟩ := h
    intro H locs cells slots ls hH hL hc hs hS
    obtain ⟨hx, hb, hml, hown, hlocks, hrt, hnm, htab, hW, hlow, hfr, hlo, hsz, hend⟩ := A
    obtain ⟨hok, d', hd', hM⟩ := hC _ _ _ _ _ h7
    have hpc : pcode y = Cond.codeWith y.1 y.2.1 y.2.2.1 y.2.2.2.1 y.2.2.2.2 := by
      unfold pcode
      cases hh : y.2.2.2.2 with
      | nil => exact absurd hh hyh
      | cons q l => rfl
    have hPre : PreS s H (pPc w as M) (as.map (ptr w)) := ⟨pPc_blind, pPc_of hH hW hlow hsz hS⟩
    have hst : (f.2.1.map (ptr w)) = (as.map (ptr w)).reverse ++ r.map (ptr w) := by rw [h1, List.map_append, List.map_reverse]
    have hrm : 2 * (F0 m pc ls (f.2.1.map (ptr w))).monitorRoom + ((r.map (ptr w)).map fun v => v.category).sum ≤ 8 := lv_room (by rw [ptr_sum]; exact h4)
    have hf : cells + res.1 ≤ R.cells ∧ slots + res.2 ≤ R.slots := ⟨by omega, by omega⟩
    have hfix : CallFix p m c mi.2.1 mi.2.2.1 s args pTs mi.1.cls := ⟨hx, hb, hml, hown, act_ts hw hW⟩
    refine p_runX (vx_runSX (n := k) (hh := y.2.2.2.2) hfix hM ⟨⟨rfl, rfl, Nat.le_trans (show d' + 9 + 1 ≤ d + 10 by omega) hfr, room_ok hok.2.1 hd' hlo, fun c hc a' U hU => ?_, by rw [hpc]; exact List.mem_cons_self⟩, by rw [← hpc]; exact act_w hw hW hok.2.2, act_w hw hW hini, hne, fun sig h => ?_, act_w hw hW hl, act_w hw hW hin⟩ hPre rfl (by rw [List.length_map]; exact h2) hL.1 hst hrm hd hf) (by rw [hH.1]; omega) hsz hS (fun _ _ _ _ _ _ hq => hq.elim) ?_
    · rw [List.mem_singleton.mp hc]
      exact act_w hw (State.WarmedH.trans hW hU) hok.2.2
    · rw [h] at hpar
      exact (Option.some.inj hpar).symm
    · intro r1 M1 H1 locs1 hq hR hS1
      have := hq H1 locs1 (cells + res.1) (slots + res.2) ls hR hL (by dsimp only; omega) (by dsimp only; omega) hS1
      cases r1 <;> exact this
