section PCOPY
variable {p : Program} {l : Launch} {e : Env} {R : Room} {s : State} {m : MethodId} {args : Array Value} {below : List Frame} {meth : Method} {c : Code} {H : Heap} {locs : List Loc} {cells slots : Nat} {Q : State → Prop}
variable {pc : Nat} {ls : Array Slot} {rest : List Value}
theorem p_copyi {cc : ByteArray} (hexec : p.tables.exec = Jvm.exec) (hb : c.code = cc) (hml : c.maxLocals = ls.size) {own : String} {index : Nat} (hown : s.vm.findClass own = some m.cls) (hlink : (Cond.methodLink own index arraycopyName).before args s = true) (hnat : (Cond.native arraycopyName).before args s = true) (hstat : (Cond.static arraycopyName).before args s = true) (hini : (Cond.initialized "java/lang/System").before args s = true)
    {a0 a : Nat} {c0 c1 : ClassId} {n0 n1 : Nat} {f g : Nat → Int32} (hc0 : H[a0]? = some (vp_cell c0 (n0, .inl f))) (hc1 : H[a]? = some (vp_cell c1 (n1, .inl g))) (hT0 : ArrOfT s c0 .int) (hT1 : ArrOfT s c1 .int)
    {sp dp n : Int32} (h1 : ¬ sp < 0) (h2 : ¬ dp < 0) (h3 : ¬ n < 0) (h4 : sp.toNatClampNeg + n.toNatClampNeg ≤ n0) (h5 : dp.toNatClampNeg + n.toNatClampNeg ≤ n1) (hfit : ∀ i, i < n.toNatClampNeg → fits .int (.int (f (sp.toNatClampNeg + i))) = true)
    (hframes : 1 ≤ R.frames) (hlocals : (rest.map fun v => v.category).sum + (nativeFrameWords "java/lang/System" "arraycopy" 5 + 11) ≤ R.locals) (hdg : decode cc pc = .ok (.invokestatic index, 3))
    (kk : ∀ (H1 : Heap) (L : List Loc), H1 = H.setIfInBounds a (vp_cell c1 (n1, .inl (va_cpy f g sp.toNatClampNeg dp.toNatClampNeg n.toNatClampNeg))) → (∀ q ∈ L, q.base = a) → W p l e R s m args below meth c H1 (locs ++ L) cells slots Q (F0 m (pc + 3) ls rest)) : W p l e R s m args below meth c H locs cells slots Q (F0 m pc ls (.int n :: .int dp :: .ref a :: .int sp :: .ref a0 :: rest)) := by
  have nn : ∀ z : Int32, ¬ z < 0 → z.toInt = (z.toNatClampNeg : Int) := by
    intro z hz
    have hz0 : (0 : Int) ≤ z.toInt := by
      have := Int32.not_lt.mp hz
      simpa using Int32.le_iff_toInt_le.mp this
    show z.toInt = ((z.toInt.toNat : Nat) : Int)
    omega
  intro T hT X
  obtain ⟨-, k0, hk0, cm0, hkk0⟩ := hT0 n0 (fun j => .int (f j))
  obtain ⟨-, k1, hk1, cm1, hkk1⟩ := hT1 n1 (fun j => .int (g j))
  obtain ⟨vm', X', step⟩ := X.arraycopy hexec hown hlink hnat hstat hini (src := a0) (dst := a) (cs := vp_cell c0 (n0, .inl f)) (cd := vp_cell c1 (n1, .inl g)) (srcPos := sp) (destPos := dp) (n := n) (by rw [hT]; exact hc0) (by rw [hT]; exact hc1)
    (fun _ h => by cases h) (fun _ h => by cases h) (fun h => by cases h) (fun h => by cases h) hk0 hk1 hkk0 hkk1 (by decide) h1 h2 h3
    (by rw [nn sp h1, nn n h3]; show ¬ _ > ((arrV c0 n0 (fun j => .int (f j))).slots.size : Int); rw [arrV_size]; omega)
    (by rw [nn dp h2, nn n h3]; show ¬ _ > ((arrV c1 n1 (fun j => .int (g j))).slots.size : Int); rw [arrV_size]; omega)
    (fun vm₁ _ i hi => by
      have e : (vp_cell c0 (n0, .inl f)).slots.getD (sp.toNatClampNeg + i) .null = .int (f (sp.toNatClampNeg + i)) := by
        show (arrV c0 n0 (fun j => .int (f j))).slots.getD _ _ = _
        rw [Array.getD_eq_getD_getElem?, arrV_read _ _ (by omega)]
        rfl
      refine ⟨?_, ?_⟩
      · rw [e]
        exact hfit i hi
      · rw [e]
        exact trivial)
    (g := F0 m pc ls (.int n :: .int dp :: .ref a :: .int sp :: .ref a0 :: rest)) rfl (by rw [hml]) (rest := rest) rfl (by rw [hb]; exact hdg) hframes (by show 2 * 0 + _ + _ ≤ _; omega)
  have e1 : copied (vp_cell c0 (n0, .inl f)) (vp_cell c1 (n1, .inl g)) sp dp n = vp_cell c1 (n1, .inl (va_cpy f g sp.toNatClampNeg dp.toNatClampNeg n.toNatClampNeg)) := va_copied (fun z => .int z) c0 c1 f g h4
  rw [e1] at X' step
  have hheap : ((T.setVm vm').setCell a (vp_cell c1 (n1, .inl (va_cpy f g sp.toNatClampNeg dp.toNatClampNeg n.toNatClampNeg)))).heap = H.setIfInBounds a (vp_cell c1 (n1, .inl (va_cpy f g sp.toNatClampNeg dp.toNatClampNeg n.toNatClampNeg))) := by rw [← hT]; rfl
  obtain ⟨t, a1, b1⟩ := kk _ _ rfl (fun q hq => by
      obtain ⟨z, -, hz⟩ := List.mem_map.mp hq
      rw [← hz]) _ hheap X'
  exact ⟨t, step t a1, b1⟩
end PCOPY
theorem s_copy {mi : pMI} {pc idx : Nat} (hl : pWd (.methodLink mi.1.cls idx arraycopyName)) (hnat : pWd (.native arraycopyName)) (hst : pWd (.static arraycopyName)) (hini : pWd (.initialized "java/lang/System")) (hd : decode mi.2.1 pc = .ok (.invokestatic idx, 3)) : OpS mi pc (o_copy (pc + 3)) := by
  refine ⟨fun C C' X X' Q Q' f M hC hC' hCC hX hQ h => ?_, fun w hw d C hC p e R s m args below meth c Z Q A f M h => ?_⟩
  · obtain ⟨L, S, c0, s0⟩ := f
    match S, h with
    | .int k :: .int dp :: .ref b :: .int sp :: .ref a :: r, h => exact ⟨h.1, h.2.1, hX _ _ _ h.2.2⟩
  · obtain ⟨L, S, c0, s0⟩ := f
    match S, h with
    | .int k :: .int dp :: .ref b :: .int sp :: .ref a :: r, h =>
      obtain ⟨h0, ⟨l0, l1, h1, h2, h3, h4, h5, h6, h7, h8⟩, h9⟩ := h
      intro H locs cells slots ls hH hL hc hs hS
      obtain ⟨hx, hb, hml, hown, hlocks, hrt, hnm, htab, hW, hlow, hfr, hlo, hsz, hend⟩ := A
      show W p (pWl w) e R s m args below meth c H locs cells slots Z (F0 m pc ls (.int k :: .int dp :: .ref (pAd w b) :: .int sp :: .ref (pAd w a) :: r.map (ptr w)))
      rw [hH.ad h1, hH.ad h2]
      have hT := ((act_K hw hW).2 0 _ rfl).1
      refine p_copyi hx hb (hml.trans hL.1.symm) hown (act_w hw hW hl) (act_w hw hW hnat) (act_w hw hW hst) (act_w hw hW hini) (hH.2.2.2.2.1 a l0 h1) (hH.2.2.2.2.1 b l1 h2) hT hT h4 h5 h6 h7 h8 (fun _ _ => rfl) (by omega) ?_ hd (fun H1 L1 e1 hL1 => ?_)
      · rw [ptr_sum]
        exact Nat.le_trans (Nat.add_le_add_right h0 _) (Nat.le_trans (show 8 + (nativeFrameWords "java/lang/System" "arraycopy" 5 + 11) ≤ 40 * 10 by decide) (Nat.le_trans (Nat.mul_le_mul_left 40 (Nat.le_add_left 10 d)) hlo))
      · have hbl : pB w + b < H.size := (Array.getElem?_eq_some_iff.mp (hH.2.2.2.2.1 b l1 h2)).1
        have oq : ∀ q : Nat, q ≠ pB w + b → H1[q]? = H[q]? := fun q hq => by rw [e1]; simp [Array.getElem?_setIfInBounds, Ne.symm hq]
        have z : H1.size = H.size := by rw [e1]; simp
        refine h9 H1 _ cells slots ls (hH.upd h2 (by omega) z oq rfl rfl (fun b' hb2 j => ?_) (fun _ _ _ => rfl) (fun _ _ _ => rfl) (fun q => by omega) (fun q => ?_) (fun q => by omega) (fun q => by omega)) hL hc hs ⟨by rw [z]; exact hS.1, fun q g1 g2 => ?_, fun q hq => ?_⟩
        · show (if b' = b ∧ _ then _ else _) = _
          rw [if_neg (fun q => hb2 q.1)]
          rfl
        · rw [e1]
          simp only [Array.getElem?_setIfInBounds, hbl, if_true]
          congr 4
          funext j
          show va_cpy _ _ _ _ _ _ = (if b = b ∧ _ then _ else _)
          unfold va_cpy
          simp only [true_and]
          rfl
        · rw [oq q (fun e => g2 (by rw [e]; exact Nat.le_add_right _ _))]
          exact hS.2.1 q g1 g2
        · rcases List.mem_append.mp hq with h | h
          · exact hS.2.2 q h
          · rw [hL1 q h]; exact Nat.le_add_right _ _
