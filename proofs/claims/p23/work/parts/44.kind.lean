/-! THE KIND OF A TOKEN -/
def keyw : List (List Int32) := [[116, 97, 103], [119, 111, 114, 100], [119, 101, 105, 103, 104, 116], [111, 102], [107, 101, 121, 115], [98, 111, 111, 115, 116], [98, 121], [119, 104, 101, 110], [116, 121, 112, 101, 100], [116, 97, 107, 101, 110], [108, 105, 109, 105, 116], [102, 97, 114], [108, 97, 115, 116], [98, 101, 103, 105, 110, 115], [110, 111, 116], [97, 110, 100], [111, 114], [109, 105, 110], [109, 97, 120]]
def kindI (tp : List Int32) (k n : Nat) : Int32 :=
  if rat tp (nI k) < 0 then 24
  else if isLt (rat tp (nI k)) = 0 then
    (if isDg (rat tp (nI k)) = 0 then (if n = 2 then (if rat tp (nI k) = 60 then 22 else 23) else (if fiI (rat tp (nI k)).toInt8.toInt32 (sB 1) 0 < 0 then 25 else rat tp (nI k)))
     else (if n ≤ 6 then 21 else 25))
  else (if n ≤ 10 then (if 0 ≤ fidx keyw (copyl tp (nI k) n) 0 then fidx keyw (copyl tp (nI k) n) 0 else 20) else 25)
theorem i2c_byte0 : ∀ j, j < 256 → ((nI j).toUInt32 % 65536).toInt32 = nI j := by decide +kernel
theorem i2c_byte {x : Int32} (h0 : 0 ≤ x) (h1 : x ≤ 255) : (x.toUInt32 % 65536).toInt32 = x := by
  obtain ⟨j, hj, rfl⟩ := nI_of (Int32.not_lt.mpr h0)
  exact i2c_byte0 j (by have := (nI_leI (b := 255) hj (by omega)).mp h1; omega)
def byteL (tp : List Int32) : Prop := ∀ x ∈ tp, 0 ≤ x ∧ x ≤ 255
theorem rat_byte {tp : List Int32} (h : byteL tp) (i : Int32) : rat tp i = -1 ∨ (0 ≤ rat tp i ∧ rat tp i ≤ 255) := by
  unfold rat
  split
  · exact Or.inl rfl
  · rw [List.getD_eq_getElem?_getD]
    cases hx : tp[i.toNatClampNeg]? with
    | none => exact Or.inl rfl
    | some x => exact Or.inr (h x (List.mem_of_getElem? hx))
theorem c_kindAt {d : Nat} (hd : 5 ≤ d) {B : pM} {I : pIm} {q qt nt k n : Nat} {tp : List Int32} {K : Int32 → pM → Prop} (hq : toksS B q) (hkw : Nm I (q + 1) 19 keyw) (ht : rowS B qt nt) (hnt : tp.length ≤ nt) (st : qt + 1 < q ∨ q + 51 ≤ qt) (lt : Rw I qt tp) (htb : byteL tp) (hn : n ≤ 2000)
    (h : ∀ J : pIm, Fr (q + 49) (q + 51) I J → K (kindI tp k n) (pset B J)) : pCall_i d mX10_kindAt (0, 0) [.ref q, .ref qt, .int (nI k), .int (nI n)] (pset B I) K := by
  refine CP_go (by omega) okX10_kindAt (Nat.le_of_ble_eq_true rfl) ?_
  obtain ⟨q0, ⟨p0, p1, p2, p3, p4⟩, r1, r2, r3, r4, r5⟩ := hq
  have hb := rat_byte htb (nI k)
  have hI := h I Fr.rf
  unfold kindI at h hI
  refine st_aload oX10_kindAt_0 rfl ?_
  refine st_iload oX10_kindAt_1 rfl ?_
  refine st_callV0_i [.int (nI k)] oX10_kindAt_2 rfl rfl ht.1 (ps8 rfl) (c_at (by omega) ht hnt lt ?_)
  generalize rat tp (nI k) = f at h hI hb ⊢
  refine st_istore (L2 := [some (.ref q), some (.ref qt), some (.int (nI k)), some (.int (nI n)), some (.int f), none]) oX10_kindAt_5 (by decide) rfl rfl ?_
  refine st_iload oX10_kindAt_7 rfl ?_
  refine st_if oX10_kindAt_9 (fun g0 => ?_) (fun g0 => ?_)
  rotate_left
  · rw [if_pos (Int32.not_le.mp g0)] at hI
    refine st_const oX10_kindAt_12 ?_
    exact st_iret oX10_kindAt_14 ⟨_, rfl, hI⟩
  rw [if_neg (Int32.not_lt.mpr g0)] at hI
  have h255 : f ≤ 255 := by
    rcases hb with e | e
    · rw [e] at g0; exact absurd g0 (by decide)
    · exact e.2
  refine st_iload oX10_kindAt_15 rfl ?_
  refine st_callS_i (res := (0, 0)) [.int f] oX10_kindAt_17 rfl rfl (ps8 rfl) (Nat.zero_le _) (Nat.zero_le _) (c_isLetter (by omega) ?_)
  refine st_if oX10_kindAt_20 (fun g1 => ?_) (fun g1 => ?_)
  rotate_left
  · rw [if_neg g1] at hI
    refine st_iload oX10_kindAt_23 rfl ?_
    refine st_const oX10_kindAt_24 ?_
    refine st_icmp oX10_kindAt_26 (fun g2 => ?_) (fun g2 => ?_)
    rotate_left
    · rw [if_neg (fun z => g2 (nI_le (b := 10) z (by omega)))] at hI
      refine st_const oX10_kindAt_29 ?_
      exact st_iret oX10_kindAt_31 ⟨_, rfl, hI⟩
    have hn10 := (nI_leI (b := 10) (by omega) (by omega)).mp g2
    refine st_aload oX10_kindAt_32 rfl ?_
    refine st_getP oX10_kindAt_33 q0 p4 ?_
    refine st_aload oX10_kindAt_36 rfl ?_
    refine st_iload oX10_kindAt_37 rfl ?_
    refine st_iload oX10_kindAt_38 rfl ?_
    refine st_callV0_v [.ref qt, .int (nI k), .int (nI n)] oX10_kindAt_39 rfl rfl r5.1 (ps8 rfl) (c_copy (by omega) r5 ht (by omega) hnt lt (fun J h1 f1 => ?_))
    have hJ := h J f1
    rw [if_neg (Int32.not_lt.mpr g0), if_neg g1, if_pos hn10] at hJ
    rw [nI_clamp (by omega), Nat.min_eq_left hn10] at h1
    refine st_aload oX10_kindAt_42 rfl ?_
    refine st_getP oX10_kindAt_43 q0 p0 ?_
    refine st_aload oX10_kindAt_46 rfl ?_
    refine st_getP oX10_kindAt_47 q0 p4 ?_
    refine st_callV0_i [.ref (q + 49)] oX10_kindAt_50 rfl rfl r1.1 (ps8 rfl) (c_nfind (by omega) r1 (hkw.f f1 (by omega)) r5 (by rw [copyl_len]; omega) h1 ?_)
    refine st_istore (L2 := [some (.ref q), some (.ref qt), some (.int (nI k)), some (.int (nI n)), some (.int f), some (.int (fidx keyw (copyl tp (nI k) n) 0))]) oX10_kindAt_53 (by decide) rfl rfl ?_
    refine st_iload oX10_kindAt_55 rfl ?_
    refine st_if oX10_kindAt_57 (fun g3 => ?_) (fun g3 => ?_)
    · rw [if_pos g3] at hJ
      refine st_iload oX10_kindAt_65 rfl ?_
      exact st_iret oX10_kindAt_67 ⟨_, rfl, hJ⟩
    · rw [if_neg g3] at hJ
      refine st_const oX10_kindAt_60 ?_
      refine st_goto oX10_kindAt_62 ?_
      exact st_iret oX10_kindAt_67 ⟨_, rfl, hJ⟩
  rw [if_pos g1] at hI
  refine st_iload oX10_kindAt_68 rfl ?_
  refine st_callS_i (res := (0, 0)) [.int f] oX10_kindAt_70 rfl rfl (ps8 rfl) (Nat.zero_le _) (Nat.zero_le _) (c_isDigit (by omega) ?_)
  refine st_if oX10_kindAt_73 (fun g2 => ?_) (fun g2 => ?_)
  rotate_left
  · rw [if_neg g2] at hI
    refine st_iload oX10_kindAt_76 rfl ?_
    refine st_const oX10_kindAt_77 ?_
    refine st_icmp oX10_kindAt_79 (fun g3 => ?_) (fun g3 => ?_)
    · rw [if_pos ((nI_leI (b := 6) (by omega) (by omega)).mp g3)] at hI
      refine st_const oX10_kindAt_87 ?_
      exact st_iret oX10_kindAt_89 ⟨_, rfl, hI⟩
    · rw [if_neg (fun z => g3 (nI_le (b := 6) z (by omega)))] at hI
      refine st_const oX10_kindAt_82 ?_
      refine st_goto oX10_kindAt_84 ?_
      exact st_iret oX10_kindAt_89 ⟨_, rfl, hI⟩
  rw [if_pos g2] at hI
  refine st_iload oX10_kindAt_90 rfl ?_
  refine st_const oX10_kindAt_91 ?_
  refine st_icmp oX10_kindAt_92 (fun g3 => ?_) (fun g3 => ?_)
  · have e2 : n = 2 := (nI_eq (b := 2) (by omega) (by omega)).mp g3
    rw [if_pos e2] at hI
    refine st_iload oX10_kindAt_95 rfl ?_
    refine st_const oX10_kindAt_97 ?_
    refine st_icmp oX10_kindAt_99 (fun g4 => ?_) (fun g4 => ?_)
    · rw [if_pos g4] at hI
      refine st_const oX10_kindAt_102 ?_
      refine st_goto oX10_kindAt_104 ?_
      exact st_iret oX10_kindAt_109 ⟨_, rfl, hI⟩
    · rw [if_neg g4] at hI
      refine st_const oX10_kindAt_107 ?_
      exact st_iret oX10_kindAt_109 ⟨_, rfl, hI⟩
  · have e2 : ¬ n = 2 := fun z => g3 (by rw [z]; rfl)
    rw [if_neg e2] at hI
    refine st_const oX10_kindAt_110 ?_
    refine st_iload oX10_kindAt_112 rfl ?_
    refine st_iun oX10_kindAt_114 ?_
    rw [i2c_byte g0 h255]
    refine st_callSt_i [.int f] oX10_kindAt_115 rfl rfl (by decide) (ps8 rfl) (c_siof (by omega) (Int32.not_lt.mpr g0) (Int32.not_lt.mpr h255) ?_)
    refine st_if oX10_kindAt_118 (fun g4 => ?_) (fun g4 => ?_)
    · rw [if_pos g4] at hI
      refine st_const oX10_kindAt_126 ?_
      exact st_iret oX10_kindAt_128 ⟨_, rfl, hI⟩
    · rw [if_neg g4] at hI
      refine st_iload oX10_kindAt_121 rfl ?_
      refine st_goto oX10_kindAt_123 ?_
      exact st_iret oX10_kindAt_128 ⟨_, rfl, hI⟩
/-! ALL TOKENS -/
def tkA (tp : List Int32) (at' : Nat) : Nat := at' + skb (tp.drop at')
def tkK (tp : List Int32) (i a : Nat) : Int32 := if i = 400 then (if kindI tp a (lenI tp a) = 24 then kindI tp a (lenI tp a) else 25) else kindI tp a (lenI tp a)
def tkR (tp : List Int32) : Nat → Nat → Nat → tK → tK
  | 0, _, _, t => t
  | m + 1, i, p, t => if tkK tp i (tkA tp p) = 24 ∨ tkK tp i (tkA tp p) = 25 then (t.1 ++ [tkK tp i (tkA tp p)], t.2.1 ++ [nI (tkA tp p)], t.2.2 ++ [nI (lenI tp (tkA tp p))])
    else tkR tp m (i + 1) (tkA tp p + lenI tp (tkA tp p)) (t.1 ++ [tkK tp i (tkA tp p)], t.2.1 ++ [nI (tkA tp p)], t.2.2 ++ [nI (lenI tp (tkA tp p))])
theorem tkA_le {tp : List Int32} {p : Nat} (h : p ≤ tp.length) : tkA tp p ≤ tp.length := by
  unfold tkA
  have := skb_le (l := tp.drop p)
  rw [List.length_drop] at this
  omega
theorem lenI_le {tp : List Int32} {a : Nat} (h2 : tp.length ≤ 2000) (h : a < tp.length) : a + lenI tp a ≤ tp.length := by
  unfold lenI
  split
  · split
    · rename_i g
      have : a + 1 < tp.length := by
        refine Nat.not_le.mp (fun z => ?_)
        have e := rat_out (l := tp) z (by omega)
        rw [e] at g
        exact absurd g.2 (by decide)
      omega
    · omega
  · have := rnl_le (f := isLt (rat tp (nI a))) (l := tp.drop a)
    rw [List.length_drop] at this
    omega
theorem lenI_2000 {tp : List Int32} {a : Nat} (h2 : tp.length ≤ 2000) (h : a ≤ tp.length) : lenI tp a ≤ 2000 := by
  unfold lenI
  split
  · split <;> omega
  · have := rnl_le (f := isLt (rat tp (nI a))) (l := tp.drop a)
    rw [List.length_drop] at this
    omega
theorem c_tread {d : Nat} (hd : 6 ≤ d) {B : pM} {I : pIm} {q qt nt : Nat} {tp : List Int32} {K : pM → Prop} (hq : toksS B q) (hkw : Nm I (q + 1) 19 keyw) (ht : rowS B qt nt) (hnt : tp.length ≤ nt) (h2000 : tp.length ≤ 2000) (sp : qt + 1 < q ∨ q + 51 ≤ qt) (lt : Rw I qt tp) (htb : byteL tp)
    (h : ∀ J : pIm, Tk J q (tkR tp 401 0 0 ([], [], [])) → Fr (q + 43) (q + 51) I J → K (pset B J)) : pCall_v d mX10_read (0, 0) [.ref q, .ref qt] (pset B I) K := by
  refine CP_go (by omega) okX10_read (Nat.le_of_ble_eq_true rfl) ?_
  generalize hT0 : tkR tp 401 0 0 ([], [], []) = T0 at h
  obtain ⟨q0, ⟨p0, p1, p2, p3, p4⟩, r1, r2, r3, r4, r5⟩ := id hq
  have key : ∀ (m i p : Nat) (t : tK) (J : pIm), i + m = 401 → p ≤ tp.length → (t.1.length = i ∧ t.2.1.length = i ∧ t.2.2.length = i) → Tk J q t → Fr (q + 43) (q + 51) I J → T0 = tkR tp m i p t → Go (d - 1) mX10_read (fun r M1 => r = .inl none ∧ K M1) 25 ([some (.ref q), some (.ref qt), some (.int (nI p)), some (.int (nI i)), none, none], [], 0, 0) (pset B J) := by
    intro m
    induction m with
    | zero =>
      intro i p t J hm hp hl hT hf he
      refine bX10_read_25 ⟨fun _ => ⟨rfl, ?_⟩, fun g => absurd (nI_lt (a := 400) (show 400 < i by omega) (by omega)) g⟩
      rw [tkR] at he
      rw [he] at h
      exact h J hT hf
    | succ m ih =>
      intro i p t J hm hp hl hT hf he
      have lt2 := lt.f hf (by omega)
      have ha := tkA_le hp
      have hln := lenI_2000 h2000 ha
      refine bX10_read_25 ⟨fun g => absurd g (nI_nlt (a := 400) (by omega) (by omega)), fun _ => c_skipBlanks (by omega) ht hnt hp lt2 (c_lengthAt (by omega) ht hnt ha lt2 ⟨q0, c_kindAt (by omega) hq (hkw.f hf (by omega)) ht hnt sp lt2 htb hln (fun J2 f2 => ?_)⟩)⟩
      have F2 := hf.tr (f2.mono (by omega) (by omega))
      have go : ∀ kd, kd = tkK tp i (tkA tp p) → Go (d - 1) mX10_read (fun r M1 => r = .inl none ∧ K M1) 73 ([some (.ref q), some (.ref qt), some (.int (nI (tkA tp p))), some (.int (nI i)), some (.int (nI (lenI tp (tkA tp p)))), some (.int kd)], [], 0, 0) (pset B J2) := by
        intro kd ek
        subst ek
        obtain ⟨t1, t2, t3, t4⟩ := hT.f f2 (by omega)
        refine bX10_read_73 ⟨q0, _, p1, r2.1, c_add' (by omega) r2 (by omega) t1 (fun J3 h3 f3 => ⟨q0, _, p2, r3.1, c_add' (by omega) r3 (by omega) (t2.f f3 (by omega)) (fun J4 h4 f4 => ⟨q0, _, p3, r4.1, c_add' (by omega) r4 (by omega) ((t3.f f3 (by omega)).f f4 (by omega)) (fun J5 h5 f5 => ?_)⟩)⟩)⟩
        have F5 := ((F2.tr (f3.mono (by omega) (by omega))).tr (f4.mono (by omega) (by omega))).tr (f5.mono (by omega) (by omega))
        have T5 : Tk J5 q (t.1 ++ [tkK tp i (tkA tp p)], t.2.1 ++ [nI (tkA tp p)], t.2.2 ++ [nI (lenI tp (tkA tp p))]) := ⟨(h3.f f4 (by omega)).f f5 (by omega), h4.f f5 (by omega), h5, by simp; omega⟩
        rw [tkR] at he
        refine ⟨fun g => ⟨rfl, ?_⟩, fun g => ⟨fun g2 => ⟨rfl, ?_⟩, fun g2 => ?_⟩⟩
        · rw [if_pos (Or.inl g)] at he
          rw [he] at h
          exact h J5 T5 F5
        · rw [if_pos (Or.inr g2)] at he
          rw [he] at h
          exact h J5 T5 F5
        · rw [if_neg (fun z => z.elim g g2)] at he
          rw [nI_add, nI_1]
          refine ih (i + 1) _ _ J5 (by omega) (lenI_le h2000 ?_) (by simp; omega) T5 F5 he
          refine Nat.not_le.mp (fun z => ?_)
          have e := rat_out (l := tp) z (by omega)
          have ek : kindI tp (tkA tp p) (lenI tp (tkA tp p)) = 24 := by unfold kindI; rw [e, if_pos (by decide)]
          refine g ?_
          unfold tkK
          rw [ek]
          split
          · rfl
          · rfl
      refine ⟨fun g => ⟨fun g2 => go _ ?_, fun g2 => go _ ?_⟩, fun g => go _ ?_⟩
      · have ei : i = 400 := (nI_eq (b := 400) (by omega) (by omega)).mp g
        unfold tkK; rw [if_pos ei]; exact (if_pos g2).symm
      · have ei : i = 400 := (nI_eq (b := 400) (by omega) (by omega)).mp g
        unfold tkK; rw [if_pos ei]; exact (if_neg g2).symm
      · have ei : ¬ i = 400 := fun z => g (by rw [z]; rfl)
        unfold tkK; rw [if_neg ei]; rfl
  refine bX10_read_0 ⟨q0, _, p1, r2.1, c_clear (by omega) r2 (fun J1 h1 f1 => ⟨q0, _, p2, r3.1, c_clear (by omega) r3 (fun J2 h2 f2 => ⟨q0, _, p3, r4.1, c_clear (by omega) r4 (fun J3 h3 f3 => ?_)⟩)⟩)⟩
  exact key 401 0 0 ([], [], []) J3 rfl (by omega) ⟨rfl, rfl, rfl⟩ ⟨(h1.f f2 (by omega)).f f3 (by omega), h2.f f3 (by omega), h3, by simp⟩ (((f1.mono (by omega) (by omega)).tr (f2.mono (by omega) (by omega))).tr (f3.mono (by omega) (by omega))) hT0.symm
