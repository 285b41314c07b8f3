/-! calls -/
section PCALL
variable {w : pW} {p : Program} {e : Env} {R : Room} {s : State} {m : MethodId} {args : Array Value} {below : List Frame} {meth : Method} {c : Code} {H : Heap} {locs : List Loc} {cells slots : Nat} {Z : State → Prop} {H0 : Heap}
variable {pc mc ms : Nat} {ls : Array Slot} {rest st0 : List Value} {a : Array Value} {Q : pR → pM → Prop}
theorem p_run (hr : va_Run p (pWl w) e R s m args below meth c H locs cells slots mc ms (F0 m pc ls st0) rest (pQc w Q a) (pFree w)) (hsz : pB w ≤ H.size) (hsz0 : pB w ≤ H0.size) (hS : va_S (pFree w) H0 H locs)
    (kk : ∀ (r : Option Value) (M : pM) (H1 : Heap) (locs1 : List Loc), Q (.inl r) M → pRel w M H1 → va_S (pFree w) H0 H1 locs1 → W p (pWl w) e R s m args below meth c H1 locs1 (cells + mc) (slots + ms) Z (F0 m (pc + 3) ls ((r.map (ptr w)).toList ++ rest))) : W p (pWl w) e R s m args below meth c H locs cells slots Z (F0 m pc ls st0) := by
  intro T hT X
  obtain ⟨v, st₀, t, T', L, h0, X', hL, e1, e2, ⟨r, M, hv, hq, hrel, hz, hk⟩, st⟩ := hr T hT X
  cases hv
  rw [h0] at hz hk
  obtain ⟨t2, a1, b1⟩ := kk r M T'.heap (locs ++ L) hq (by rw [e1]; exact hrel) ⟨Nat.le_trans hS.1 (by rw [e1]; exact hz), fun q h1 h2 => by
    have hqb : q < pB w := Nat.not_le.mp h2
    rw [e1, hk q hqb]; exact hS.2.1 q h1 h2, fun q hq => by
      rcases List.mem_append.mp hq with h | h
      · exact hS.2.2 q h
      · exact hL q h⟩ T' rfl X'
  exact ⟨t2, st t2 a1, b1⟩
end PCALL
theorem sc_met {w : pW} {d : Nat} {C : pC} (hC : pSC w d C) {mi : pMI} {res : Nat × Nat} {as : List Value} {M : pM} {Q : pR → pM → Prop} (hnx : ∀ E M, ¬ Q (.inr E) M) (h : C mi res as M Q) :
    pMIok mi ∧ ∃ d', d' ≤ d ∧ Met (pWl w) mi.1 [pcode mi] (pRm d' res) (pPc w as M) (pQc w Q) res.1 res.2 (pFree w) := by
  obtain ⟨h1, d', h2, h3⟩ := hC mi res as M Q h
  refine ⟨h1, d', h2, MetFree.mono h3 (fun _ _ h => h) (fun _ _ _ _ _ _ => trivial) (fun a s o t _ hq => ?_)⟩
  rcases hq with hq | ⟨q, -, E, ce, L, ⟨M', hx, -⟩, -⟩
  · exact hq
  · exact absurd hx (hnx E M')
theorem pPc_blind {w : pW} {as : List Value} {M : pM} : FrameBlind (pPc w as M) := fun _ _ _ _ h => h
theorem pPc_of {w : pW} {s : State} {as : List Value} {M : pM} {H : Heap} {H0 : Heap} {locs : List Loc} (hH : pRel w M H) (hW : (pW0 w).WarmedH s.vm) (hlow : ∀ q, q < pB w → H0[q]? = (pW0 w).heap[q]?) (hsz : pB w ≤ H0.size) (hS : va_S (pFree w) H0 H locs) :
    ∀ U : State, U.heap = H → s.WarmedH U.vm → pPc w as M (as.map (ptr w)).toArray U := fun U hU hWU =>
  ⟨rfl, by rw [hU]; exact hH, State.WarmedH.trans hW hWU, fun q hq => by rw [hU, hS.2.1 q (Nat.lt_of_lt_of_le hq hsz) (Nat.not_le.mpr hq)]; exact hlow q hq⟩
/-- what the tables say at a call -/
def pCallee (mi : pMI) (k : Nat) : Prop := mi.2.2.2.2 = [] ∧ pWd (.initialized mi.1.cls) ∧ (mi.1.cls ≠ "java/lang/invoke/MethodHandle" ∧ mi.1.cls ≠ "java/lang/invoke/VarHandle") ∧ (parseMethodDescriptor mi.1.desc).map (fun d => d.parameters.length) = some k
theorem pcode_nil {mi : pMI} (h : mi.2.2.2.2 = []) : pcode mi = Cond.code mi.1 mi.2.1 mi.2.2.1 mi.2.2.2.1 := by unfold pcode; rw [h]
theorem room_ok {ml d d' L : Nat} (h2 : ml ≤ 21) (hd : d' ≤ d) (hl : 40 * (d + 10) ≤ L) : 8 + (ml + 11) + 40 * (d' + 9) ≤ L := by
  have h3 : 40 * (d' + 10) ≤ 40 * (d + 10) := Nat.mul_le_mul_left 40 (Nat.add_le_add_right hd 10)
  have h4 : 40 * (d' + 10) = 40 * (d' + 9) + 40 := Nat.mul_succ 40 (d' + 9)
  have h5 : 8 + (ml + 11) ≤ 40 := by omega
  refine Nat.le_trans ?_ (Nat.le_trans h3 hl)
  rw [h4, Nat.add_comm (40 * (d' + 9)) 40]
  exact Nat.add_le_add_right h5 _
theorem call_base {w : pW} {s : State} {R : Room} {args : Array Value} (hw : pWOK w) (hW : (pW0 w).WarmedH s.vm) {mi : pMI} {k d d' : Nat} {res : Nat × Nat} (hok : pMIok mi) (hd : d' ≤ d) (hfr : d + 10 ≤ R.frames) (hlo : 40 * (d + 10) ≤ R.locals) (hce : pCallee mi k) :
    ((pRm d' res).cells = res.1 ∧ (pRm d' res).slots = res.2 ∧ (pRm d' res).frames + 1 ≤ R.frames ∧ 8 + (mi.2.2.1 + 11) + (pRm d' res).locals ≤ R.locals ∧ (∀ c ∈ [pcode mi], ∀ (a' : Array Value) (U : State), s.WarmedH U.vm → c.before a' U = true) ∧ Cond.code mi.1 mi.2.1 mi.2.2.1 mi.2.2.2.1 ∈ [pcode mi]) ∧
    (Cond.code mi.1 mi.2.1 mi.2.2.1 mi.2.2.2.1).before args s = true ∧ (Cond.initialized mi.1.cls).before args s = true ∧ (mi.1.cls ≠ "java/lang/invoke/MethodHandle" ∧ mi.1.cls ≠ "java/lang/invoke/VarHandle") ∧ (∀ sig, parseMethodDescriptor mi.1.desc = some sig → k = sig.parameters.length) := by
  obtain ⟨h1, h2, h3⟩ := hok
  obtain ⟨q1, q2, q3, q4⟩ := hce
  have e1 := pcode_nil q1
  refine ⟨⟨rfl, rfl, Nat.le_trans (show d' + 9 + 1 ≤ d + 10 by omega) hfr, room_ok h2 hd hlo, fun c hc a' U hU => ?_, by rw [e1]; exact List.mem_cons_self⟩, ?_, act_w hw hW q2, q3, fun sig h => ?_⟩
  · rw [List.mem_singleton.mp hc]
    exact act_w hw (State.WarmedH.trans hW hU) h3
  · rw [← e1]; exact act_w hw hW h3
  · rw [h] at q4
    exact (Option.some.inj q4).symm
theorem aft_nx {X : Nat → pF → pM → Prop} {n : Nat} {L : List (Option Value)} {r : List Value} {c s : Nat} : ∀ E M, ¬ pAft X n L r c s (.inr E) M := fun _ _ h => h
theorem aft_mono {X X' : Nat → pF → pM → Prop} {n : Nat} {L : List (Option Value)} {r : List Value} {c s : Nat} (h : ∀ pc f M, X pc f M → X' pc f M) : ∀ a M, pAft X n L r c s a M → pAft X' n L r c s a M := fun a M q => by
  cases a with
  | inl v => exact h _ _ _ q
  | inr E => exact q
theorem s_callV {mi y : pMI} {pc idx ci k N : Nat} {T : u_T} (hce : pCallee y k) (hcl : pCls ci y.1.cls T N) (hl : pWd (.methodLink mi.1.cls idx y.1) ∨ ∃ host, pWd (.methodLinkNest mi.1.cls idx y.1 host)) (hin : pWd (.instanceMethod y.1)) (hsel : (Cond.selects y.1.cls y.1 y.1) ∈ pTs) (hd : decode mi.2.1 pc = .ok (.invokevirtual idx, 3)) : OpS mi pc (o_callV y ci k (pc + 3)) := by
  refine ⟨fun C C' X X' Q Q' f M hC hC' hCC hX hQ h => ?_, fun w hw d C hC p e R s m args below meth c Z Q A f M h => ?_⟩
  · obtain ⟨res, as, r, a, h1, h2, h3, h4, h5, h6, h7⟩ := h
    exact ⟨res, as, r, a, h1, h2, h3, h4, h5, h6, hCC _ _ _ _ _ (hC _ _ _ _ _ _ (aft_mono hX) h7)⟩
  · obtain ⟨res, as, r, a, h1, h2, h3, h4, h5, h6, h7⟩ := h
    intro H locs cells slots ls hH hL hc hs hS
    obtain ⟨hx, hb, hml, hown, hlocks, hrt, hnm, htab, hW, hlow, hfr, hlo, hsz, hend⟩ := A
    obtain ⟨hok, d', hd', hM⟩ := sc_met hC aft_nx h7
    obtain ⟨b1, b2, b3, b4, b5⟩ := call_base (args := args) (res := res) hw hW hok hd' hfr hlo hce
    have hPre : PreV s H y.1.cls (pAd w a) (pPc w (.ref a :: as) M) (as.map (ptr w)) := by
      refine ⟨pPc_blind, ?_, pPc_of hH hW hlow hsz hS⟩
      obtain ⟨r9, g0, cell, g1, g2, g3, -⟩ := hH.2.2.2.1 a ci h3
      rw [hH.ad h3]
      exact ⟨cell, g1, by rw [g3]; rfl, by rw [g2]; exact ((act_K hw hW).1 ci _ hcl.1).2.1⟩
    have hst : (f.2.1.map (ptr w)) = (as.map (ptr w)).reverse ++ .ref (pAd w a) :: r.map (ptr w) := by rw [h1, List.map_append, List.map_reverse]; rfl
    have hrm : 2 * (F0 m pc ls (f.2.1.map (ptr w))).monitorRoom + ((r.map (ptr w)).map fun v => v.category).sum ≤ 8 := lv_room (by rw [ptr_sum]; exact h4)
    have hf : cells + res.1 ≤ R.cells ∧ slots + res.2 ≤ R.slots := ⟨by omega, by omega⟩
    have hfix : CallFix p m c mi.2.1 mi.2.2.1 s args pTs mi.1.cls := ⟨hx, hb, hml, hown, act_ts hw hW⟩
    have fin : ∀ (r1 : Option Value) (M1 : pM) (H1 : Heap) (locs1 : List Loc), pAft (pWG w mi p e R s m args below meth c Z) (pc + 3) f.1 r (f.2.2.1 - res.1) (f.2.2.2 - res.2) (.inl r1) M1 → pRel w M1 H1 → va_S (pFree w) s.heap H1 locs1 → W p (pWl w) e R s m args below meth c H1 locs1 (cells + res.1) (slots + res.2) Z (F0 m (pc + 3) ls ((r1.map (ptr w)).toList ++ r.map (ptr w))) := by
      intro r1 M1 H1 locs1 hq hR hS1
      have := hq H1 locs1 (cells + res.1) (slots + res.2) ls hR hL (by dsimp only; omega) (by dsimp only; omega) hS1
      cases r1 <;> exact this
    rcases hl with hl | ⟨host, hl⟩
    · exact p_run (va_runV hfix hM ⟨⟨b1.1, b1.2.1, b1.2.2.1, b1.2.2.2.1, b1.2.2.2.2.1, b1.2.2.2.2.2, b2, b3, b4, b5, act_w hw hW hl⟩, act_w hw hW hin, act_w hw hW (pTs_of hsel)⟩ hPre rfl (by rw [List.length_map]; exact h2) hL.1 hst hrm hd hf) (by rw [hH.1]; omega) hsz hS fin
    · exact p_run (va_runVN (host := host) hfix hM ⟨⟨b1, b2, b3, b4, b5, act_w hw hW hl⟩, act_w hw hW hin, act_w hw hW (pTs_of hsel)⟩ hPre rfl (by rw [List.length_map]; exact h2) hL.1 hst hrm hd hf) (by rw [hH.1]; omega) hsz hS fin
theorem s_callI {mi y : pMI} {pc idx k : Nat} (hce : pCallee y k) (hyn : y.1.name = "<init>") (hyr : y.2.2.2.1 = none) (hl : pWd (.methodLink mi.1.cls idx y.1) ∨ ∃ host, pWd (.methodLinkNest mi.1.cls idx y.1 host)) (hin : pWd (.instanceMethod y.1)) (hd : decode mi.2.1 pc = .ok (.invokespecial idx, 3)) : OpS mi pc (o_callI y k (pc + 3)) := by
  refine ⟨fun C C' X X' Q Q' f M hC hC' hCC hX hQ h => ?_, fun w hw d C hC p e R s m args below meth c Z Q A f M h => ?_⟩
  · obtain ⟨res, as, r, a, h1, h2, h4, h5, h6, h7⟩ := h
    exact ⟨res, as, r, a, h1, h2, h4, h5, h6, hCC _ _ _ _ _ (hC _ _ _ _ _ _ (aft_mono hX) h7)⟩
  · obtain ⟨res, as, r, a, h1, h2, h4, h5, h6, h7⟩ := h
    intro H locs cells slots ls hH hL hc hs hS
    obtain ⟨hx, hb, hml, hown, hlocks, hrt, hnm, htab, hW, hlow, hfr, hlo, hsz, hend⟩ := A
    obtain ⟨hok, d', hd', hM⟩ := sc_met hC aft_nx h7
    obtain ⟨b1, b2, b3, b4, b5⟩ := call_base (args := args) (res := res) hw hW hok hd' hfr hlo hce
    rw [hyr] at b1 b2
    have hPre : PreS s H (pPc w (.ref a :: as) M) (.ref (pAd w a) :: as.map (ptr w)) := ⟨pPc_blind, pPc_of hH hW hlow hsz hS⟩
    have hst : (f.2.1.map (ptr w)) = (as.map (ptr w)).reverse ++ .ref (pAd w a) :: r.map (ptr w) := by rw [h1, List.map_append, List.map_reverse]; rfl
    have hrm : 2 * (F0 m pc ls (f.2.1.map (ptr w))).monitorRoom + ((r.map (ptr w)).map fun v => v.category).sum ≤ 8 := lv_room (by rw [ptr_sum]; exact h4)
    have hf : cells + res.1 ≤ R.cells ∧ slots + res.2 ≤ R.slots := ⟨by omega, by omega⟩
    have hfix : CallFix p m c mi.2.1 mi.2.2.1 s args pTs mi.1.cls := ⟨hx, hb, hml, hown, act_ts hw hW⟩
    have fin : ∀ (r1 : Option Value) (M1 : pM) (H1 : Heap) (locs1 : List Loc), pAft (pWG w mi p e R s m args below meth c Z) (pc + 3) f.1 r (f.2.2.1 - res.1) (f.2.2.2 - res.2) (.inl r1) M1 → pRel w M1 H1 → va_S (pFree w) s.heap H1 locs1 → W p (pWl w) e R s m args below meth c H1 locs1 (cells + res.1) (slots + res.2) Z (F0 m (pc + 3) ls ((r1.map (ptr w)).toList ++ r.map (ptr w))) := by
      intro r1 M1 H1 locs1 hq hR hS1
      have := hq H1 locs1 (cells + res.1) (slots + res.2) ls hR hL (by dsimp only; omega) (by dsimp only; omega) hS1
      cases r1 <;> exact this
    rcases hl with hl | ⟨host, hl⟩
    · exact p_run (va_runI hfix hM ⟨⟨b1.1, b1.2.1, b1.2.2.1, b1.2.2.2.1, b1.2.2.2.2.1, b1.2.2.2.2.2, b2, b3, b4, b5, act_w hw hW hl⟩, hyn, act_w hw hW hin⟩ hPre rfl (by rw [List.length_map]; exact h2) hL.1 hst hrm hd hf) (by rw [hH.1]; omega) hsz hS fin
    · exact p_run (va_runIN (host := host) hfix hM ⟨⟨b1, b2, b3, b4, b5, act_w hw hW hl⟩, hyn, act_w hw hW hin⟩ hPre rfl (by rw [List.length_map]; exact h2) hL.1 hst hrm hd hf) (by rw [hH.1]; omega) hsz hS fin
theorem s_callS {mi y : pMI} {pc idx k : Nat} (hce : pCallee y k) (hl : pWd (.methodLink mi.1.cls idx y.1) ∨ ∃ host, pWd (.methodLinkNest mi.1.cls idx y.1 host)) (hin : pWd (.static y.1)) (hd : decode mi.2.1 pc = .ok (.invokestatic idx, 3)) : OpS mi pc (o_callS y k (pc + 3)) := by
  refine ⟨fun C C' X X' Q Q' f M hC hC' hCC hX hQ h => ?_, fun w hw d C hC p e R s m args below meth c Z Q A f M h => ?_⟩
  · obtain ⟨res, as, r, h1, h2, h4, h5, h6, h7⟩ := h
    exact ⟨res, as, r, h1, h2, h4, h5, h6, hCC _ _ _ _ _ (hC _ _ _ _ _ _ (aft_mono hX) h7)⟩
  · obtain ⟨res, as, r, h1, h2, h4, h5, h6, h7⟩ := h
    intro H locs cells slots ls hH hL hc hs hS
    obtain ⟨hx, hb, hml, hown, hlocks, hrt, hnm, htab, hW, hlow, hfr, hlo, hsz, hend⟩ := A
    obtain ⟨hok, d', hd', hM⟩ := sc_met hC aft_nx h7
    obtain ⟨b1, b2, b3, b4, b5⟩ := call_base (args := args) (res := res) hw hW hok hd' hfr hlo hce
    have hPre : PreS s H (pPc w as M) (as.map (ptr w)) := ⟨pPc_blind, pPc_of hH hW hlow hsz hS⟩
    have hst : (f.2.1.map (ptr w)) = (as.map (ptr w)).reverse ++ r.map (ptr w) := by rw [h1, List.map_append, List.map_reverse]
    have hrm : 2 * (F0 m pc ls (f.2.1.map (ptr w))).monitorRoom + ((r.map (ptr w)).map fun v => v.category).sum ≤ 8 := lv_room (by rw [ptr_sum]; exact h4)
    have hf : cells + res.1 ≤ R.cells ∧ slots + res.2 ≤ R.slots := ⟨by omega, by omega⟩
    have hfix : CallFix p m c mi.2.1 mi.2.2.1 s args pTs mi.1.cls := ⟨hx, hb, hml, hown, act_ts hw hW⟩
    have fin : ∀ (r1 : Option Value) (M1 : pM) (H1 : Heap) (locs1 : List Loc), pAft (pWG w mi p e R s m args below meth c Z) (pc + 3) f.1 r (f.2.2.1 - res.1) (f.2.2.2 - res.2) (.inl r1) M1 → pRel w M1 H1 → va_S (pFree w) s.heap H1 locs1 → W p (pWl w) e R s m args below meth c H1 locs1 (cells + res.1) (slots + res.2) Z (F0 m (pc + 3) ls ((r1.map (ptr w)).toList ++ r.map (ptr w))) := by
      intro r1 M1 H1 locs1 hq hR hS1
      have := hq H1 locs1 (cells + res.1) (slots + res.2) ls hR hL (by dsimp only; omega) (by dsimp only; omega) hS1
      cases r1 <;> exact this
    rcases hl with hl | ⟨host, hl⟩
    · exact p_run (va_runS hfix hM ⟨⟨b1.1, b1.2.1, b1.2.2.1, b1.2.2.2.1, b1.2.2.2.2.1, b1.2.2.2.2.2, b2, b3, b4, b5, act_w hw hW hl⟩, act_w hw hW hin⟩ hPre rfl (by rw [List.length_map]; exact h2) hL.1 hst hrm hd hf) (by rw [hH.1]; omega) hsz hS fin
    · exact p_run (va_runSN (host := host) hfix hM ⟨⟨b1, b2, b3, b4, b5, act_w hw hW hl⟩, act_w hw hW hin, trivial⟩ hPre rfl (by rw [List.length_map]; exact h2) hL.1 hst hrm hd hf) (by rw [hH.1]; omega) hsz hS fin
/-- THE SOUNDNESS of the contracts -/
theorem CP_sound {w : pW} (hw : pWOK w) : ∀ d, pSC w d (CP d)
  | 0 => fun _ _ _ _ _ h => h.elim
  | d + 1 => fun mi res as M Q h => by
    rcases h with h | ⟨hok, hlen, hgo⟩
    · obtain ⟨h1, d', h2, h3⟩ := CP_sound hw d mi res as M Q h
      exact ⟨h1, d', by omega, h3⟩
    · refine ⟨hok, d + 1, Nat.le_refl _, ?_⟩
      have body : ∀ p e s m args below meth c s₁, BodyLoose p (pWl w) mi.1 (headSpec [pcode mi] (pRm (d + 1) res)) mi.2.1 mi.2.2.1 mi.2.2.2.1 e s m args below meth c s₁ → c.maxLocals = mi.2.2.1 → c.exceptionTable.toList = tableOf mi.2.2.2.2 → pPc w as M args s →
          W p (pWl w) e (headSpec [pcode mi] (pRm (d + 1) res)).room s m args below meth c s.heap [] 0 0 (vx_MQ below (pQc w Q) (pXC w Q) args s res.1 res.2 (pFree w)) (entryFrame m args mi.2.2.1) := by
        intro p e s m args below meth c s₁ B hml htab hP
        obtain ⟨rfl, hrel, hW, hlow⟩ := hP
        have hsz : pB w ≤ s.heap.size := by rw [hrel.1]; omega
        have key := hgo (pWG w mi p e (pRm (d + 1) res) s m (as.map (ptr w)).toArray below meth c (vx_MQ below (pQc w Q) (pXC w Q) (as.map (ptr w)).toArray s res.1 res.2 (pFree w))) (fun pc op f M hs ho => hs.2 w hw d (CP d) (CP_sound hw d) p e (pRm (d + 1) res) s m (as.map (ptr w)).toArray below meth c _ Q
          ⟨B.exec, B.bytes, hml, findClass_of_methodNamed B.named, B.notSynchronized, B.returns, (name_of_methodNamed B.named B.method).1, htab, hW, hlow, (by show d + 10 ≤ d + 1 + 9; omega), (by show 40 * (d + 10) ≤ 40 * (d + 1 + 9); omega), hsz, Or.inl rfl⟩ f M ho) (fun pc L L2 S c9 s9 M9 hw9 g H locs cells slots ls h1 h2 h3 h4 h5 => g H locs cells slots ls h1 ⟨h2.1, h2.2.1, fun k v hk => h2.2.2 k v (hw9 k v hk)⟩ h3 h4 h5)
        rw [lg_entry_eq]
        exact key s.heap [] 0 0 _ hrel (pLR_entry hlen) (by show 0 + res.1 ≤ res.1; omega) (by show 0 + res.2 ≤ res.2; omega) va_S.rf
      cases hh : mi.2.2.2.2 with
      | nil =>
        refine vx_ofW (cc := mi.2.1) (maxL := mi.2.2.1) (ret := mi.2.2.2.1) (ws' := []) hok.1 (by rw [pcode_nil hh]) ?_
        intro p e s m args below meth c s₁ B hml ht hP
        refine body p e s m args below meth c s₁ B hml ?_ hP
        rw [hh]
        exact List.eq_nil_iff_forall_not_mem.mpr fun x hx => ht x hx
      | cons q l =>
        have hpc : pcode mi = Cond.codeWith mi.1 mi.2.1 mi.2.2.1 mi.2.2.2.1 mi.2.2.2.2 := by unfold pcode; rw [hh]
        refine vx_ofWH (cc := mi.2.1) (maxL := mi.2.2.1) (ret := mi.2.2.2.1) (hh := mi.2.2.2.2) (ws' := []) hok.1 (by rw [hpc]) ?_
        intro p e s m args below meth c s₁ B hml hP
        refine body p e s m args below meth c s₁ B hml ?_ hP
        exact vx_table (x := mi.1) B (bytes := mi.2.1) (maxL' := mi.2.2.1) (ret' := mi.2.2.2.1) (hh := mi.2.2.2.2) (args := args) (by rw [← hpc]; exact act_w hw hP.2.2.1 hok.2.2)
