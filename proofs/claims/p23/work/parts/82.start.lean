/-! THE LAW'S RUN -/
def lwQ : pR → pM → Prop := fun r _ => r = .inl (some (.int 1))
theorem whole_start {p : Program} {e : Env} {s : State} {m : MethodId} {below : List Frame} {meth : Method} {c : Code} (l : Launch) (hflags : l.flags = flags0) {b L : Nat} {xs : Nat → Int32} (hL : L ≤ 260) (hnm : meth.name = "law") (htab : c.exceptionTable.toList = []) (C0 : lw_At p s m meth c b L xs) : W p l e room_1 s m #[Value.ref b] below meth c s.heap [] 0 0 (lw_Z below #[Value.ref b] s) (entryFrame m ([Value.ref b] : List Value).toArray 11) := by
  obtain ⟨hx, hb, hr, hml, hown, hts, hX, hbl, hlocks, hgv⟩ := id C0
  obtain ⟨w, hw, el, es, eb⟩ := w_world (b := b) hflags hts hgv
  subst el
  subst es
  have hB : pB w = (pW0 w).heap.size := rfl
  have hrel : pRel w (pset (lwB L) (lwJ xs)) (pW0 w).heap := by
    have hk : ∀ a k, pK (pset (lwB L) (lwJ xs)) a = k → k = (5, L) ∧ a = pSCR ∨ k = (0, 0) := fun a k e => by
      by_cases g : a = pSCR
      · exact Or.inl ⟨by rw [← e]; exact if_pos g, g⟩
      · exact Or.inr (by rw [← e]; exact if_neg g)
    refine ⟨rfl, Nat.zero_le _, fun a _ => ?_, fun a ci h => ?_, fun a n h => ?_, fun a n h => ?_, fun a n h => ?_, fun a n h => ?_⟩
    · rcases hk a _ rfl with ⟨h, -⟩ | h
      · rw [h]; exact Or.inr rfl
      · rw [h]; exact Or.inl rfl
    · rcases hk a _ h with ⟨h, -⟩ | h <;> cases h
    · rcases hk a _ h with ⟨h, -⟩ | h <;> cases h
    · rcases hk a _ h with ⟨h, -⟩ | h <;> cases h
    · rcases hk a _ h with ⟨h, -⟩ | h <;> cases h
    · rcases hk a _ h with ⟨h, g⟩ | h
      · cases h
        obtain ⟨scr, x1, x2, x3, x4, x5⟩ := hX
        refine ⟨g, by rw [eb]; exact hbl, scr, by rw [eb]; exact x1, x2, x3, x4, fun j hj => ?_⟩
        rw [x5 j hj]
        show _ = some (Value.int (lwJ xs pSCR j))
        unfold lwJ
        rw [if_pos rfl]
      · cases h
  have run : Go 2000 mL_law lwQ 0 ([some (.ref pSCR), none, none, none, none, none, none, none, none, none, none], [], 600086, 7301442) (pset (lwB L) (lwJ xs)) := law_run (by decide) (fun _ => rfl) hL (by decide) (by decide)
  have act : pAct w mL_law 2000 p e room_1 (pW0 w) m #[Value.ref b] below meth c (lw_Z below #[Value.ref b] (pW0 w)) lwQ := by
    refine ⟨hx, hb, hml, hown, hlocks, hr, hnm, htab, State.WarmedH.refl _, fun _ _ => rfl, by show 2000 + 10 ≤ 2048; decide, by show 40 * (2000 + 10) ≤ 84000; decide, Nat.le_refl _, Or.inr ⟨fun E M h => (nomatch h), fun r M H locs cells slots ls pc hq _ hS h1 h2 hdg _ => ?_⟩⟩
    cases Sum.inl.inj hq
    rw [hb] at hdg
    exact va_forget (fun q hq => hS.2.2 q hq) (W.widen h1 h2 (lw_ret hx hb hr hlocks hdg))
  have key := run (pWG w mL_law p e room_1 (pW0 w) m #[Value.ref b] below meth c (lw_Z below #[Value.ref b] (pW0 w))) (fun pc op f M hs ho => hs.2 w hw 2000 (CP 2000) (CP_sound hw 2000) p e room_1 (pW0 w) m #[Value.ref b] below meth c _ lwQ act f M ho) (fun pc L L2 S c9 s9 M9 hw9 g H locs cells slots ls h1 h2 h3 h4 h5 => g H locs cells slots ls h1 ⟨h2.1, h2.2.1, fun k v hk => h2.2.2 k v (hw9 k v hk)⟩ h3 h4 h5)
  rw [lg_entry_eq]
  have hLR : pLR w 11 [some (.ref pSCR), none, none, none, none, none, none, none, none, none, none] ((lg_sl [Value.ref b] ++ List.replicate (11 - (lg_sl [Value.ref b]).length) Slot.unset).toArray) := by
    have h := pLR_entry (w := w) (n := 11) (as := [.ref pSCR]) (Nat.le_of_ble_eq_true rfl)
    have ea : ([Value.ref pSCR].map (ptr w)) = [Value.ref b] := by
      show [Value.ref (pAd w pSCR)] = _
      unfold pAd
      rw [if_neg (by decide), show pSCR - pBIG = 1000 from rfl, eb]
    rw [ea] at h
    exact h
  exact key (pW0 w).heap [] 0 0 _ hrel hLR (by show 0 + 600086 ≤ 600086; decide) (by show 0 + 7301442 ≤ 7301442; decide) va_S.rf
