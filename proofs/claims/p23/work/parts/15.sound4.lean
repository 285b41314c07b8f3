/-! memory: what a row of the kit changes -/
theorem act_w {w : pW} {s : State} (hw : pWOK w) (hW : (pW0 w).WarmedH s.vm) {args : Array Value} {c : Cond} (h : pWd c) : c.before args s = true := by
  obtain ⟨-, -, ⟨a0, h0⟩, -⟩ := hw
  exact pGW_at hW h.2 (h0 c h.1)
theorem act_K {w : pW} {s : State} (hw : pWOK w) (hW : (pW0 w).WarmedH s.vm) : va_K (pWD w) vwCl [((pWc w).1, .int), ((pWc w).1, .int), ((pWc w).2.2, .object "WordPad$Row")] s := va_K.moved hW.alike hw.1
def pTs : List Cond := lw_tbl.filter pGW
theorem pTs_in {c : Cond} (h : pWd c) : c ∈ pTs := List.mem_filter.mpr h
theorem pTs_of {c : Cond} (h : c ∈ pTs) : pWd c := List.mem_filter.mp h
theorem act_ts {w : pW} {s : State} (hw : pWOK w) (hW : (pW0 w).WarmedH s.vm) {args : Array Value} : ∀ c ∈ pTs, c.before args s = true := fun _ h => act_w hw hW (pTs_of h)
/-- what the tables say of a class of the system -/
def pCls (ci : Nat) (C : String) (T : u_T) (N : Nat) : Prop := vwCl[ci]? = some (C, T, N) ∧ (∀ c ∈ u_ws C T N, c ∈ pTs) ∧ (∀ k, k < N → parseFieldDescriptor (T k).2.2.1 = some (pTy ci k)) ∧ (∀ a, a < N → ∀ b, b < N → a ≠ b → (T a).2.1 ≠ (T b).2.1)
theorem pAd_lt {w : pW} {n : Nat} (h : n < pBIG) : pAd w n = pB w + n := by unfold pAd; rw [if_pos h]
theorem pRel.ltK {w : pW} {M : pM} {H : Heap} (h : pRel w M H) {a t n : Nat} (hk : pK M a = (t + 1, n)) (ht : t < 4 := by omega) : a < pN M := by
  rcases Nat.lt_or_ge a (pN M) with q | q
  · exact q
  · rcases h.2.2.1 a q with e | e
    · rw [hk] at e; cases e
    · rw [hk] at e
      have e2 : t + 1 = 5 := e
      omega
theorem pRel.ad {w : pW} {M : pM} {H : Heap} (h : pRel w M H) {a t n : Nat} (hk : pK M a = (t + 1, n)) (ht : t < 4 := by omega) : pAd w a = pB w + a := pAd_lt (Nat.lt_of_lt_of_le (h.ltK hk ht) h.2.1)
theorem pObj.kept {w : pW} {M M' : pM} {H H' : Heap} {a ci : Nat} (h : pObj w M H a ci) (hq : H'[pB w + a]? = H[pB w + a]?) (hI : ∀ j, pI M' a j = pI M a j) (hP : ∀ j, pP M' a j = pP M a j) : pObj w M' H' a ci := by
  obtain ⟨r, h1, h2⟩ := h
  refine ⟨r, h1, (h2.kept hq).to (fun k _ => ?_)⟩
  simp only [pfv, hI, hP]
theorem pRel.upd {w : pW} {M M' : pM} {H H' : Heap} {a t n : Nat} (h : pRel w M H) (hka : pK M a = (t + 1, n)) (ht : t < 4) (z : H'.size = H.size) (oq : ∀ q, q ≠ pB w + a → H'[q]? = H[q]?) (hN : pN M' = pN M) (hK : pK M' = pK M)
    (hI : ∀ b, b ≠ a → ∀ j, pI M' b j = pI M b j) (hL : ∀ b, b ≠ a → ∀ j, pL M' b j = pL M b j) (hP : ∀ b, b ≠ a → ∀ j, pP M' b j = pP M b j)
    (h1 : t = 0 → pObj w M' H' a n) (h2 : t = 1 → H'[pB w + a]? = some (vp_cell (pWc w).1 (n, .inl (fun j => pI M' a j)))) (h3 : t = 2 → H'[pB w + a]? = some (vp_cell (pWc w).2.1 (n, .inr (.inl (fun j => pL M' a j)))))
    (h4 : t = 3 → H'[pB w + a]? = some (vp_cell (pWc w).2.2 (n, .inr (.inr (.inr (.inr (fun j => pOpt w (pP M' a j)))))))) : pRel w M' H' := by
  obtain ⟨r1, r2, r3, r4, r5, r6, r7, r8⟩ := h
  have ne : ∀ {b : Nat}, b ≠ a → pB w + b ≠ pB w + a := fun hb e => hb (by omega)
  have key : ∀ {b t' n' : Nat}, pK M b = (t', n') → b = a → t' = t + 1 ∧ n' = n := by
    intro b t' n' hb e
    subst e
    rw [hka] at hb
    cases hb
    exact ⟨rfl, rfl⟩
  refine ⟨by rw [z, hN]; exact r1, by rw [hN]; exact r2, fun b hb => by rw [hK]; exact r3 b (by rw [← hN]; exact hb), fun b ci hb => ?_, fun b m hb => ?_, fun b m hb => ?_, fun b m hb => ?_, fun b m hb => ?_⟩
  · rw [hK] at hb
    by_cases e : b = a
    · obtain ⟨e1, e2⟩ := key hb e
      subst e; subst e2
      exact h1 (by omega)
    · exact (r4 b ci hb).kept (oq _ (ne e)) (hI b e) (hP b e)
  · rw [hK] at hb
    by_cases e : b = a
    · obtain ⟨e1, e2⟩ := key hb e
      subst e; subst e2
      exact h2 (by omega)
    · rw [oq _ (ne e), r5 b m hb]
      simp only [hI b e]
  · rw [hK] at hb
    by_cases e : b = a
    · obtain ⟨e1, e2⟩ := key hb e
      subst e; subst e2
      exact h3 (by omega)
    · rw [oq _ (ne e), r6 b m hb]
      simp only [hL b e]
  · rw [hK] at hb
    by_cases e : b = a
    · obtain ⟨e1, e2⟩ := key hb e
      subst e; subst e2
      exact h4 (by omega)
    · rw [oq _ (ne e), r7 b m hb]
      simp only [hP b e]
  · rw [hK] at hb
    obtain ⟨e, q1, scr, q2, q3, q4, q5, q6⟩ := r8 b m hb
    subst e
    have hne : pSCR ≠ a := by
      intro e
      obtain ⟨e1, -⟩ := key hb e
      omega
    exact ⟨rfl, q1, scr, by rw [oq (pWsp w 1000) (Nat.ne_of_lt (Nat.lt_of_lt_of_le q1 (Nat.le_add_right _ _)))]; exact q2, q3, q4, q5, fun j hj => by rw [hI _ hne]; exact q6 j hj⟩
theorem pRel.push {w : pW} {M : pM} {H H' : Heap} {k : Nat × Nat} (h : pRel w M H) (hlt : pN M < pBIG) (z : H'.size = H.size + 1) (oq : ∀ q, q < H.size → H'[q]? = H[q]?)
    (hk5 : k.1 ≠ 5) (h1 : ∀ n, k = (1, n) → pObj w (pnew M k) H' (pN M) n) (h2 : ∀ n, k = (2, n) → H'[pB w + pN M]? = some (vp_cell (pWc w).1 (n, .inl (fun _ => 0)))) (h3 : ∀ n, k = (3, n) → H'[pB w + pN M]? = some (vp_cell (pWc w).2.1 (n, .inr (.inl (fun _ => 0)))))
    (h4 : ∀ n, k = (4, n) → H'[pB w + pN M]? = some (vp_cell (pWc w).2.2 (n, .inr (.inr (.inr (.inr (fun _ => none))))))) : pRel w (pnew M k) H' := by
  have hlt' : ∀ {a t n : Nat}, pK M a = (t + 1, n) → t < 4 → a < pN M := fun hk ht => h.ltK hk ht
  obtain ⟨r1, r2, r3, r4, r5, r6, r7, r8⟩ := h
  have eN : pN (pnew M k) = pN M + 1 := rfl
  have eK : ∀ b, pK (pnew M k) b = if b = pN M then k else pK M b := fun _ => rfl
  have eI : ∀ b j, pI (pnew M k) b j = if b = pN M then 0 else pI M b j := fun _ _ => rfl
  have eL : ∀ b j, pL (pnew M k) b j = if b = pN M then 0 else pL M b j := fun _ _ => rfl
  have eP : ∀ b j, pP (pnew M k) b j = if b = pN M then 0 else pP M b j := fun _ _ => rfl
  have old : ∀ {b : Nat}, b ≠ pN M → b < pN M → H'[pB w + b]? = H[pB w + b]? := fun _ hb => oq _ (by omega)
  refine ⟨by rw [z, eN, r1]; omega, by rw [eN]; omega, fun b hb => ?_, fun b ci hb => ?_, fun b m hb => ?_, fun b m hb => ?_, fun b m hb => ?_, fun b m hb => ?_⟩
  · rw [eN] at hb
    rw [eK, if_neg (by omega)]
    exact r3 b (by omega)
  · rw [eK] at hb
    by_cases e : b = pN M
    · rw [if_pos e] at hb
      rw [e]
      exact h1 ci hb
    · rw [if_neg e] at hb
      exact (r4 b ci hb).kept (old e (hlt' hb (by omega))) (fun j => by rw [eI, if_neg e]) (fun j => by rw [eP, if_neg e])
  · rw [eK] at hb
    by_cases e : b = pN M
    · rw [if_pos e] at hb
      rw [e, h2 m hb]
      simp only [eI, if_true]
    · rw [if_neg e] at hb
      rw [old e (hlt' hb (by omega)), r5 b m hb]
      simp only [eI, if_neg e]
  · rw [eK] at hb
    by_cases e : b = pN M
    · rw [if_pos e] at hb
      rw [e, h3 m hb]
      simp only [eL, if_true]
    · rw [if_neg e] at hb
      rw [old e (hlt' hb (by omega)), r6 b m hb]
      simp only [eL, if_neg e]
  · rw [eK] at hb
    by_cases e : b = pN M
    · rw [if_pos e] at hb
      rw [e, h4 m hb]
      simp only [eP, if_true, pOpt]
    · rw [if_neg e] at hb
      rw [old e (hlt' hb (by omega)), r7 b m hb]
      simp only [eP, if_neg e]
  · rw [eK] at hb
    by_cases e : b = pN M
    · rw [if_pos e] at hb
      exact absurd (by rw [hb]) hk5
    · rw [if_neg e] at hb
      obtain ⟨e2, q1, scr, q2, q3, q4, q5, q6⟩ := r8 b m hb
      subst e2
      exact ⟨rfl, q1, scr, by rw [oq (pWsp w 1000) (by rw [r1]; exact Nat.lt_of_lt_of_le q1 (Nat.le_add_right _ _))]; exact q2, q3, q4, q5, fun j hj => by rw [eI, if_neg e]; exact q6 j hj⟩
section PF
variable {w : pW} {p : Program} {e : Env} {R : Room} {s : State} {m : MethodId} {args : Array Value} {below : List Frame} {meth : Method} {c : Code} {H : Heap} {locs : List Loc} {cells slots : Nat} {Z : State → Prop} {H0 : Heap}
variable {cc : ByteArray} {pc : Nat} {ls : Array Slot} {rest : List Value} {M : pM} {a : Nat}
/-- a field's value, by either kind of link -/
theorem r_get (hw : pWOK w) (hW : (pW0 w).WarmedH s.vm) (hx : p.tables.exec = Jvm.exec) (hb : c.code = cc) {own C : String} {T : u_T} {N ci idx k : Nat} (hcl : pCls ci C T N) (hown : s.vm.findClass own = some m.cls) (hH : pRel w M H) (ha : pK M a = (1, ci)) (hk : k < N) (hdc : (T k).1 = C)
    (hl : pWd (.fieldLink own idx C (T k).2.1 (T k).2.2.1) ∨ ∃ host, pWd (.fieldLinkNest own idx C (T k).2.1 (T k).2.2.1 host)) (hd : decode cc pc = .ok (.getfield idx, 3))
    (kk : W p (pWl w) e R s m args below meth c H locs cells slots Z (F0 m (pc + 3) ls (pfv w M a ci k :: rest))) : W p (pWl w) e R s m args below meth c H locs cells slots Z (F0 m pc ls (.ref (pB w + a) :: rest)) := by
  obtain ⟨c1, c2, c3, c4⟩ := hcl
  obtain ⟨r, h1, cell, q1, q2, q3, q4⟩ := hH.2.2.2.1 a ci ha
  have hr : r = (C, T, N) := Option.some.inj (h1.symm.trans c1)
  subst hr
  obtain ⟨hS, hfc, kC, hkC, hkind⟩ := (act_K hw hW).1 ci _ c1
  obtain ⟨cf, kf, fi, f, hi, hsl⟩ := hS k hk
  have hst := (u_facts hfc hkC (u_lays (act_ts hw hW (args := args)) c2 hk) hi).1
  have hv : cell.slots[f.slot]? = some (pfv w M a ci k) := by rw [hsl]; exact q4 k hk
  have hi' : s.fieldFound? C (T k).2.1 (T k).2.2.1 = some (cf, kf, fi, f) := by rw [← hdc]; exact hi
  rcases hl with hl | ⟨host, hl⟩
  · exact W.getf hx hb hown (act_w hw hW hl) hi' hst q1 (by rw [q3]; exact fun h => by cases h) hv rfl rfl hd kk
  · exact va_Wgetf hx hb hown (act_w hw hW hl) hi' hst q1 (by rw [q3]; exact fun h => by cases h) hv rfl rfl hd kk
/-- a field is written -/
theorem r_put (hw : pWOK w) (hW : (pW0 w).WarmedH s.vm) (hx : p.tables.exec = Jvm.exec) (hb : c.code = cc) {own C : String} {T : u_T} {N ci idx k : Nat} {M' : pM} {v : Value} (hcl : pCls ci C T N) (hown : s.vm.findClass own = some m.cls) (hH : pRel w M H) (hS0 : va_S (pFree w) H0 H locs) (ha : pK M a = (1, ci)) (hk : k < N) (hdc : (T k).1 = C)
    (hl : (pWd (.fieldLink own idx C (T k).2.1 (T k).2.2.1) ∧ ((T k).2.2.2 = false ∨ ((T k).2.2.2 = true ∧ meth.name = "<init>" ∧ C = own))) ∨ ((T k).2.2.2 = false ∧ ∃ host, pWd (.fieldLinkNest own idx C (T k).2.1 (T k).2.2.1 host))) (hd : decode cc pc = .ok (.putfield idx, 3))
    (hn : narrow (pTy ci k) v = v) (hfit : fits (pTy ci k) v = true) (eN : pN M' = pN M) (eK : pK M' = pK M) (eI : ∀ b, b ≠ a → ∀ j, pI M' b j = pI M b j) (eL : ∀ b, b ≠ a → ∀ j, pL M' b j = pL M b j) (eP : ∀ b, b ≠ a → ∀ j, pP M' b j = pP M b j) (eV : ∀ j, j < N → pfv w M' a ci j = if j = k then v else pfv w M a ci j)
    (kk : ∀ (H1 : Heap) (locs1 : List Loc), pRel w M' H1 → va_S (pFree w) H0 H1 locs1 → W p (pWl w) e R s m args below meth c H1 locs1 cells slots Z (F0 m (pc + 3) ls rest)) : W p (pWl w) e R s m args below meth c H locs cells slots Z (F0 m pc ls (v :: .ref (pB w + a) :: rest)) := by
  obtain ⟨c1, c2, c3, c4⟩ := id hcl
  have hts := act_ts hw hW (args := args)
  have hap := va_apart (own := own) hts c2 (pTy ci) c3 c4 (act_K hw hW) c1
  obtain ⟨r, h1, cell, q1, q2, q3, q4⟩ := hH.2.2.2.1 a ci ha
  have hr : r = (C, T, N) := Option.some.inj (h1.symm.trans c1)
  subst hr
  obtain ⟨hS, hfc, kC, hkC, hkind⟩ := (act_K hw hW).1 ci _ c1
  obtain ⟨cf, kf, fi, f, hi, hsl⟩ := hS k hk
  have hi' : s.fieldFound? C (T k).2.1 (T k).2.2.1 = some (cf, kf, fi, f) := by rw [← hdc]; exact hi
  have hlay := hts _ (c2 _ (u_in_lay hk))
  unfold u_lay at hlay
  have hst := (u_facts hfc hkC (u_lays hts c2 hk) hi).1
  have go : ∀ H' : Heap, H'[pB w + a]? = some (cell.setSlot f.slot v) → H'.size = H.size → (∀ q, q ≠ pB w + a → H'[q]? = H[q]?) → W p (pWl w) e R s m args below meth c H' (locs ++ [⟨pB w + a, f.slot⟩]) cells slots Z (F0 m (pc + 3) ls rest) := by
    intro H' e1 e2 e3
    rw [hsl] at e1
    refine kk H' _ (hH.upd ha (by omega) e2 e3 eN eK eI eL eP (fun _ => ⟨_, c1, ?_⟩) (fun h => by omega) (fun h => by omega) (fun h => by omega)) (hS0.put e2 e3 (show pB w ≤ pB w + a by omega))
    refine t_OB.to (V := updV (fun k => pfv w M a ci k) k v) ⟨_, e1, q2, q3, t_set q4 hap hk v⟩ (fun j hj => ?_)
    rw [eV j hj]
    simp only [updV]
  rcases hl with ⟨hl, hf | ⟨hf, hin2, hdecl⟩⟩ | ⟨hf, host, hl⟩
  · rw [if_neg (by rw [hf]; decide)] at hlay
    have h6 := u_store hfc hkC hkind hlay hi (c3 k hk) hn hfit
    exact W.putK hx hb (f := f) ⟨hown, act_w hw hW hl, ⟨_, _, _, hi'⟩, hst⟩ (by rw [q2]; exact h6) q1 q3 (by rw [hsl]; exact k2_hasslot (q4 k hk)) rfl rfl hd go
  · rw [if_pos hf] at hlay
    have hcf : m.cls = cf := by
      obtain ⟨_, _, c', _, _, _, -, -, hf', -, -, -, hown2, -⟩ := Cond.laysFinal_spec hlay
      have e1 : c' = cf := by have := hi.symm.trans hf'; simp at this; exact this.1.symm
      rw [hdc, hdecl] at hown2
      rw [← e1]; exact Option.some.inj (hown.symm.trans hown2)
    have h6 := u_fits hfc hkC hkind (Or.inr hlay) hi (c3 k hk) hn hfit
    exact W.putFinK hx hb hown (act_w hw hW hl) hi' hst hcf hin2 (by rw [q2]; exact h6) q1 q3 (by rw [hsl]; exact k2_hasslot (q4 k hk)) rfl rfl hd go
  · rw [if_neg (by rw [hf]; decide)] at hlay
    have h6 := u_store hfc hkC hkind hlay hi (c3 k hk) hn hfit
    exact va_WputK hx hb (f := f) hown (act_w hw hW hl) hi' hst (by rw [q2]; exact h6) q1 q3 (by rw [hsl]; exact k2_hasslot (q4 k hk)) rfl rfl hd go
end PF
