/-! STRINGS: the methods' contracts -/
def sB (i : Nat) : List Int32 := pSByt.getD i []
def sN (i : Nat) : Nat := pSLen.getD i 0
theorem sN_len : ∀ i, i < 21 → sN i = (sB i).length := by decide
theorem sN_lt : ∀ i, i < 21 → sN i < 100 := by decide
def sCh (b : Int32) : Int32 := ((b &&& 255).toUInt32 % 65536).toInt32
theorem sAsc0 : (pSByt.all fun l => l.all fun b => decide (0 ≤ b) && decide (b ≤ 127) && decide (sCh b = b)) = true := by decide +kernel
theorem sAsc {i j : Nat} : sCh ((sB i).getD j 0) = (sB i).getD j 0 := by
  rw [List.getD_eq_getElem?_getD]
  cases hj : (sB i)[j]? with
  | none => decide
  | some b =>
    have hb : b ∈ sB i := List.mem_of_getElem? hj
    unfold sB at hb
    rw [List.getD_eq_getElem?_getD] at hb
    cases hi : pSByt[i]? with
    | none => rw [hi] at hb; exact absurd hb List.not_mem_nil
    | some l =>
      rw [hi] at hb
      have h1 := List.all_eq_true.mp (List.all_eq_true.mp sAsc0 l (List.mem_of_getElem? hi)) b hb
      simp only [Bool.and_eq_true, decide_eq_true_eq] at h1
      exact h1.2
theorem narrow_ch {b : Int32} : narrow .char (.int (sCh b)) = .int (sCh b) := by
  have e : ∀ y : UInt32, y % 65536 % 65536 = y % 65536 := fun y => UInt32.toNat_inj.mp (by simp)
  unfold sCh
  simp [narrow, e]
theorem ishr0 {x : Int32} : x >>> ((0 : Int32) &&& 31) = x := by
  have e : ((0 : Int32) &&& 31) = 0 := by decide
  rw [e]
  exact Int32.shiftRight_zero
theorem c_scoder {d : Nat} (hd : 1 ≤ d) {M : pM} {i : Nat} {K : Int32 → pM → Prop} (hi : i < 21) (h : K 0 M) : pCall_i d mJ0_coder_7d493 (0, 0) [.ref (pBIG + i)] M K := by
  refine CP_go hd okJ0_coder_7d493 (Nat.le_of_ble_eq_true rfl) ?_
  refine st_const oJ0_coder_7d493_0 ?_
  refine st_if oJ0_coder_7d493_3 (fun g => absurd g (by decide)) (fun _ => ?_)
  refine st_aload oJ0_coder_7d493_6 rfl ?_
  refine st_scod oJ0_coder_7d493_7 hi ?_
  refine st_goto oJ0_coder_7d493_10 ?_
  exact st_nret oJ0_coder_7d493_14 rfl ⟨_, rfl, h⟩
theorem c_slength {d : Nat} (hd : 2 ≤ d) {M : pM} {i : Nat} {K : Int32 → pM → Prop} (hi : i < 21) (h : K (nI (sN i)) M) : pCall_i d mJ0_length_8abf5 (0, 0) [.ref (pBIG + i)] M K := by
  refine CP_go (by omega) okJ0_length_8abf5 (Nat.le_of_ble_eq_true rfl) ?_
  refine st_aload oJ0_length_8abf5_0 rfl ?_
  refine st_sval oJ0_length_8abf5_1 hi ?_
  refine st_salen oJ0_length_8abf5_4 hi ?_
  refine st_aload oJ0_length_8abf5_5 rfl ?_
  refine st_callSt_i [] oJ0_length_8abf5_6 rfl rfl hi (ps8 rfl) (c_scoder (by omega) hi ?_)
  refine st_ibin oJ0_length_8abf5_9 ?_
  refine st_iret oJ0_length_8abf5_10 ⟨_, rfl, ?_⟩
  show K (nI (sN i) >>> ((0 : Int32) &&& 31)) M
  rw [ishr0]
  exact h
theorem c_slatin {d : Nat} (hd : 1 ≤ d) {M : pM} {i : Nat} {K : Int32 → pM → Prop} (hi : i < 21) (h : K 1 M) : pCall_i d mJ0_isLatin1_aae02 (0, 0) [.ref (pBIG + i)] M K := by
  refine CP_go hd okJ0_isLatin1_aae02 (Nat.le_of_ble_eq_true rfl) ?_
  refine st_const oJ0_isLatin1_aae02_0 ?_
  refine st_if oJ0_isLatin1_aae02_3 (fun g => absurd g (by decide)) (fun _ => ?_)
  refine st_aload oJ0_isLatin1_aae02_6 rfl ?_
  refine st_scod oJ0_isLatin1_aae02_7 hi ?_
  refine st_if oJ0_isLatin1_aae02_10 (fun _ => ?_) (fun g => absurd rfl g)
  refine st_const oJ0_isLatin1_aae02_13 ?_
  refine st_goto oJ0_isLatin1_aae02_14 ?_
  exact st_zret oJ0_isLatin1_aae02_18 (Or.inr rfl) ⟨_, rfl, h⟩
theorem c_pchk {d : Nat} (hd : 1 ≤ d) {M : pM} {j n : Int32} {v : Value} {K : Int32 → pM → Prop} (hv : v = .null ∨ v = .ref (pBIG + 600)) (h0 : ¬ j < 0) (h1 : j < n) (h : K j M) : pCall_i d mJ3_checkIndex_8e157 (0, 0) [.int j, .int n, v] M K := by
  rcases hv with rfl | rfl
  · refine CP_go hd okJ3_checkIndex_8e157 (Nat.le_of_ble_eq_true rfl) ?_
    refine st_iload oJ3_checkIndex_8e157_0 rfl ?_
    refine st_if oJ3_checkIndex_8e157_1 (fun g => absurd g h0) (fun _ => ?_)
    refine st_iload oJ3_checkIndex_8e157_4 rfl ?_
    refine st_iload oJ3_checkIndex_8e157_5 rfl ?_
    refine st_icmp oJ3_checkIndex_8e157_6 (fun _ => ?_) (fun g => absurd h1 g)
    refine st_iload oJ3_checkIndex_8e157_16 rfl ?_
    exact st_iret oJ3_checkIndex_8e157_17 ⟨_, rfl, h⟩
  · refine CP_go hd okJ3_checkIndex_8e157 (Nat.le_of_ble_eq_true rfl) ?_
    refine st_iload oJ3_checkIndex_8e157_0 rfl ?_
    refine st_if oJ3_checkIndex_8e157_1 (fun g => absurd g h0) (fun _ => ?_)
    refine st_iload oJ3_checkIndex_8e157_4 rfl ?_
    refine st_iload oJ3_checkIndex_8e157_5 rfl ?_
    refine st_icmp oJ3_checkIndex_8e157_6 (fun _ => ?_) (fun g => absurd h1 g)
    refine st_iload oJ3_checkIndex_8e157_16 rfl ?_
    exact st_iret oJ3_checkIndex_8e157_17 ⟨_, rfl, h⟩
theorem c_schk {d : Nat} (hd : 2 ≤ d) {M : pM} {j n : Int32} {K : pM → Prop} (h0 : ¬ j < 0) (h1 : j < n) (h : K M) : pCall_v d mJ0_checkIndex_df160 (0, 0) [.int j, .int n] M K := by
  refine CP_go (by omega) okJ0_checkIndex_df160 (Nat.le_of_ble_eq_true rfl) ?_
  refine st_iload oJ0_checkIndex_df160_0 rfl ?_
  refine st_iload oJ0_checkIndex_df160_1 rfl ?_
  refine st_fmt oJ0_checkIndex_df160_2 (fun v hv => ?_)
  refine st_callS_i (res := (0, 0)) [.int j, .int n, v] oJ0_checkIndex_df160_5 rfl rfl (ps8 rfl) (Nat.zero_le _) (Nat.zero_le _) (c_pchk (by omega) hv h0 h1 ?_)
  refine st_pop oJ0_checkIndex_df160_8 rfl ?_
  exact st_vret oJ0_checkIndex_df160_9 ⟨rfl, h⟩
theorem c_lcharAt {d : Nat} (hd : 3 ≤ d) {M : pM} {i j : Nat} {K : Int32 → pM → Prop} (hi : i < 21) (hj : j < sN i) (h : K ((sB i).getD j 0) M) : pCall_i d mJ1_charAt_3b067 (0, 0) [.ref (pBIG + (100 + i)), .int (nI j)] M K := by
  have hn := sN_lt i hi
  refine CP_go (by omega) okJ1_charAt_3b067 (Nat.le_of_ble_eq_true rfl) ?_
  refine st_iload oJ1_charAt_3b067_0 rfl ?_
  refine st_aload oJ1_charAt_3b067_1 rfl ?_
  refine st_salen oJ1_charAt_3b067_2 hi ?_
  refine st_callS_v (res := (0, 0)) [.int (nI j), .int (nI (sN i))] oJ1_charAt_3b067_3 rfl rfl (ps8 rfl) (Nat.zero_le _) (Nat.zero_le _) (c_schk (by omega) (nI_pos (by omega)) (nI_lt hj (by omega)) ?_)
  refine st_aload oJ1_charAt_3b067_6 rfl ?_
  refine st_iload oJ1_charAt_3b067_7 rfl ?_
  refine st_sbald oJ1_charAt_3b067_8 hi (show vp_in (nI j) (sN i) from vp_in_nI hj (by omega)) ?_
  refine st_const oJ1_charAt_3b067_9 ?_
  refine st_ibin oJ1_charAt_3b067_12 ?_
  refine st_iun oJ1_charAt_3b067_13 ?_
  rw [nI_clamp (by omega)]
  refine st_nret oJ1_charAt_3b067_14 narrow_ch ⟨_, rfl, ?_⟩
  have e := sAsc (i := i) (j := j)
  show K (sCh ((sB i).getD j 0)) M
  rw [e]
  exact h
theorem c_scharAt {d : Nat} (hd : 4 ≤ d) {M : pM} {i j : Nat} {K : Int32 → pM → Prop} (hi : i < 21) (hj : j < sN i) (h : K ((sB i).getD j 0) M) : pCall_i d mJ0_charAt_5068e (0, 0) [.ref (pBIG + i), .int (nI j)] M K := by
  refine CP_go (by omega) okJ0_charAt_5068e (Nat.le_of_ble_eq_true rfl) ?_
  refine st_aload oJ0_charAt_5068e_0 rfl ?_
  refine st_callSt_i [] oJ0_charAt_5068e_1 rfl rfl hi (ps8 rfl) (c_slatin (by omega) hi ?_)
  refine st_if oJ0_charAt_5068e_4 (fun g => absurd g (by decide)) (fun _ => ?_)
  refine st_aload oJ0_charAt_5068e_7 rfl ?_
  refine st_sval oJ0_charAt_5068e_8 hi ?_
  refine st_iload oJ0_charAt_5068e_11 rfl ?_
  refine st_callS_i (res := (0, 0)) [.ref (pBIG + (100 + i)), .int (nI j)] oJ0_charAt_5068e_12 rfl rfl (ps8 rfl) (Nat.zero_le _) (Nat.zero_le _) (c_lcharAt (by omega) hi hj ?_)
  refine st_nret oJ0_charAt_5068e_15 ?_ ⟨_, rfl, h⟩
  rw [← sAsc]
  exact narrow_ch
theorem c_canEnc {d : Nat} (hd : 1 ≤ d) {M : pM} {c : Int32} {K : Int32 → pM → Prop} (h0 : ¬ c < 0) (h1 : ¬ 255 < c) (h : K 1 M) : pCall_i d mJ1_canEncode_9a6ad (0, 0) [.int c] M K := by
  refine CP_go hd okJ1_canEncode_9a6ad (Nat.le_of_ble_eq_true rfl) ?_
  refine st_iload oJ1_canEncode_9a6ad_0 rfl ?_
  refine st_if oJ1_canEncode_9a6ad_1 (fun g => absurd g h0) (fun _ => ?_)
  refine st_iload oJ1_canEncode_9a6ad_4 rfl ?_
  refine st_const oJ1_canEncode_9a6ad_5 ?_
  refine st_icmp oJ1_canEncode_9a6ad_8 (fun g => absurd g h1) (fun _ => ?_)
  refine st_const oJ1_canEncode_9a6ad_11 ?_
  refine st_goto oJ1_canEncode_9a6ad_12 ?_
  exact st_zret oJ1_canEncode_9a6ad_16 (Or.inr rfl) ⟨_, rfl, h⟩
def fiI (c : Int32) : List Int32 → Nat → Int32
  | [], _ => -1
  | b :: r, k => if b = c then nI k else fiI c r (k + 1)
theorem c_iochar {d : Nat} (hd : 1 ≤ d) {M : pM} {c : Int32} {i : Nat} {K : Int32 → pM → Prop} (hi : i < 21) (h : K (fiI c.toInt8.toInt32 (sB i) 0) M) : pCall_i d mJ1_indexOfChar_4cfef (0, 0) [.ref (pBIG + (100 + i)), .int c, .int 0, .int (nI (sN i))] M K := by
  have hn := sN_lt i hi
  have hl := sN_len i hi
  refine CP_go hd okJ1_indexOfChar_4cfef (Nat.le_of_ble_eq_true rfl) ?_
  have key : ∀ (m k : Nat), (sB i).length - k = m → k ≤ (sB i).length → fiI c.toInt8.toInt32 (sB i) 0 = fiI c.toInt8.toInt32 ((sB i).drop k) k → Go (d - 1) mJ1_indexOfChar_4cfef (fun r M1 => ∃ v, r = .inl (some (.int v)) ∧ K v M1) 7 ([some (.ref (pBIG + (100 + i))), some (.int c), some (.int 0), some (.int (nI (sN i))), some (.int c.toInt8.toInt32), some (.int (nI k))], [], 0, 0) M := by
    intro m
    induction m with
    | zero =>
      intro k hm hk he
      refine st_iload oJ1_indexOfChar_4cfef_7 rfl ?_
      refine st_iload oJ1_indexOfChar_4cfef_9 rfl ?_
      refine st_icmp oJ1_indexOfChar_4cfef_10 (fun _ => ?_) (fun g => absurd (nI_le (show sN i ≤ k by omega) (by omega)) g)
      refine st_const oJ1_indexOfChar_4cfef_31 ?_
      refine st_iret oJ1_indexOfChar_4cfef_32 ⟨_, rfl, ?_⟩
      rw [List.drop_of_length_le (by omega), fiI] at he
      rw [he] at h
      exact h
    | succ m ih =>
      intro k hm hk he
      have hlt : k < (sB i).length := by omega
      have eg : (sB i).getD k 0 = (sB i)[k] := by rw [List.getD_eq_getElem?_getD, List.getElem?_eq_getElem hlt]; rfl
      refine st_iload oJ1_indexOfChar_4cfef_7 rfl ?_
      refine st_iload oJ1_indexOfChar_4cfef_9 rfl ?_
      refine st_icmp oJ1_indexOfChar_4cfef_10 (fun g => absurd ((nI_leI (by omega) (by omega)).mp g) (by omega)) (fun _ => ?_)
      refine st_aload oJ1_indexOfChar_4cfef_13 rfl ?_
      refine st_iload oJ1_indexOfChar_4cfef_14 rfl ?_
      refine st_sbald oJ1_indexOfChar_4cfef_16 hi (show vp_in (nI k) (sN i) from vp_in_nI (by omega) (by omega)) ?_
      rw [nI_clamp (by omega)]
      refine st_iload oJ1_indexOfChar_4cfef_17 rfl ?_
      rw [List.drop_eq_getElem_cons hlt, fiI, ← eg] at he
      refine st_icmp oJ1_indexOfChar_4cfef_19 (fun g => ?_) (fun g => ?_)
      · refine st_iload oJ1_indexOfChar_4cfef_22 rfl ?_
        refine st_iret oJ1_indexOfChar_4cfef_24 ⟨_, rfl, ?_⟩
        rw [if_pos (show (sB i).getD k 0 = c.toInt8.toInt32 from g)] at he
        rw [he] at h
        exact h
      · rw [if_neg (show ¬ (sB i).getD k 0 = c.toInt8.toInt32 from g)] at he
        refine st_iinc (L2 := [some (.ref (pBIG + (100 + i))), some (.int c), some (.int 0), some (.int (nI (sN i))), some (.int c.toInt8.toInt32), some (.int (nI (k + 1)))]) oJ1_indexOfChar_4cfef_25 rfl (by decide) rfl (by rw [nI_1]; rfl) ?_
        refine st_goto oJ1_indexOfChar_4cfef_28 ?_
        exact ih (k + 1) (by omega) (by omega) he
  refine st_iload oJ1_indexOfChar_4cfef_0 rfl ?_
  refine st_iun oJ1_indexOfChar_4cfef_1 ?_
  refine st_istore (L2 := [some (.ref (pBIG + (100 + i))), some (.int c), some (.int 0), some (.int (nI (sN i))), some (.int c.toInt8.toInt32), none]) oJ1_indexOfChar_4cfef_2 (by decide) rfl rfl ?_
  refine st_iload oJ1_indexOfChar_4cfef_4 rfl ?_
  refine st_istore (L2 := [some (.ref (pBIG + (100 + i))), some (.int c), some (.int 0), some (.int (nI (sN i))), some (.int c.toInt8.toInt32), some (.int (nI 0))]) oJ1_indexOfChar_4cfef_5 (by decide) rfl rfl ?_
  exact key _ 0 rfl (by omega) rfl
theorem c_liof {d : Nat} (hd : 2 ≤ d) {M : pM} {c : Int32} {K : Int32 → pM → Prop} (h0 : ¬ c < 0) (h1 : ¬ 255 < c) (h : K (fiI c.toInt8.toInt32 (sB 1) 0) M) : pCall_i d mJ1_indexOf_4cfef (0, 0) [.ref (pBIG + (100 + 1)), .int c, .int 0, .int (nI (sN 1))] M K := by
  refine CP_go (by omega) okJ1_indexOf_4cfef (Nat.le_of_ble_eq_true rfl) ?_
  refine st_iload oJ1_indexOf_4cfef_0 rfl ?_
  refine st_callS_i (res := (0, 0)) [.int c] oJ1_indexOf_4cfef_1 rfl rfl (ps8 rfl) (Nat.zero_le _) (Nat.zero_le _) (c_canEnc (by omega) h0 h1 ?_)
  refine st_if oJ1_indexOf_4cfef_4 (fun g => absurd g (by decide)) (fun _ => ?_)
  refine st_iload oJ1_indexOf_4cfef_9 rfl ?_
  refine st_const oJ1_indexOf_4cfef_10 ?_
  refine st_max oJ1_indexOf_4cfef_11 (ps8 rfl) ?_
  refine st_istore (L2 := [some (.ref (pBIG + (100 + 1))), some (.int c), some (.int 0), some (.int (nI (sN 1)))]) oJ1_indexOf_4cfef_14 (by decide) rfl (by rw [if_neg (by decide)]; rfl) ?_
  refine st_iload oJ1_indexOf_4cfef_15 rfl ?_
  refine st_aload oJ1_indexOf_4cfef_16 rfl ?_
  refine st_salen oJ1_indexOf_4cfef_17 (by decide) ?_
  refine st_min oJ1_indexOf_4cfef_18 (ps8 rfl) ?_
  refine st_istore (L2 := [some (.ref (pBIG + (100 + 1))), some (.int c), some (.int 0), some (.int (nI (sN 1)))]) oJ1_indexOf_4cfef_21 (by decide) rfl (by rw [if_neg (by decide)]; rfl) ?_
  refine st_iload oJ1_indexOf_4cfef_22 rfl ?_
  refine st_iload oJ1_indexOf_4cfef_23 rfl ?_
  refine st_icmp oJ1_indexOf_4cfef_24 (fun _ => ?_) (fun g => absurd (by decide) g)
  refine st_aload oJ1_indexOf_4cfef_29 rfl ?_
  refine st_iload oJ1_indexOf_4cfef_30 rfl ?_
  refine st_iload oJ1_indexOf_4cfef_31 rfl ?_
  refine st_iload oJ1_indexOf_4cfef_32 rfl ?_
  refine st_callS_i (res := (0, 0)) [.ref (pBIG + (100 + 1)), .int c, .int 0, .int (nI (sN 1))] oJ1_indexOf_4cfef_33 rfl rfl (ps8 rfl) (Nat.zero_le _) (Nat.zero_le _) (c_iochar (by omega) (by decide) ?_)
  exact st_iret oJ1_indexOf_4cfef_36 ⟨_, rfl, h⟩
theorem c_siof2 {d : Nat} (hd : 3 ≤ d) {M : pM} {c : Int32} {K : Int32 → pM → Prop} (h0 : ¬ c < 0) (h1 : ¬ 255 < c) (h : K (fiI c.toInt8.toInt32 (sB 1) 0) M) : pCall_i d mJ0_indexOf_7cf53 (0, 0) [.ref (pBIG + 1), .int c, .int 0] M K := by
  refine CP_go (by omega) okJ0_indexOf_7cf53 (Nat.le_of_ble_eq_true rfl) ?_
  refine st_aload oJ0_indexOf_7cf53_0 rfl ?_
  refine st_callSt_i [] oJ0_indexOf_7cf53_1 rfl rfl (by decide) (ps8 rfl) (c_slatin (by omega) (by decide) ?_)
  refine st_if oJ0_indexOf_7cf53_4 (fun g => absurd g (by decide)) (fun _ => ?_)
  refine st_aload oJ0_indexOf_7cf53_7 rfl ?_
  refine st_sval oJ0_indexOf_7cf53_8 (by decide) ?_
  refine st_iload oJ0_indexOf_7cf53_11 rfl ?_
  refine st_iload oJ0_indexOf_7cf53_12 rfl ?_
  refine st_aload oJ0_indexOf_7cf53_13 rfl ?_
  refine st_callSt_i [] oJ0_indexOf_7cf53_14 rfl rfl (by decide) (ps8 rfl) (c_slength (by omega) (by decide) ?_)
  refine st_callS_i (res := (0, 0)) [.ref (pBIG + (100 + 1)), .int c, .int 0, .int (nI (sN 1))] oJ0_indexOf_7cf53_17 rfl rfl (ps8 rfl) (Nat.zero_le _) (Nat.zero_le _) (c_liof (by omega) h0 h1 ?_)
  refine st_goto oJ0_indexOf_7cf53_20 ?_
  exact st_iret oJ0_indexOf_7cf53_36 ⟨_, rfl, h⟩
theorem c_siof {d : Nat} (hd : 4 ≤ d) {M : pM} {c : Int32} {K : Int32 → pM → Prop} (h0 : ¬ c < 0) (h1 : ¬ 255 < c) (h : K (fiI c.toInt8.toInt32 (sB 1) 0) M) : pCall_i d mJ0_indexOf_0f7a4 (0, 0) [.ref (pBIG + 1), .int c] M K := by
  refine CP_go (by omega) okJ0_indexOf_0f7a4 (Nat.le_of_ble_eq_true rfl) ?_
  refine st_aload oJ0_indexOf_0f7a4_0 rfl ?_
  refine st_iload oJ0_indexOf_0f7a4_1 rfl ?_
  refine st_const oJ0_indexOf_0f7a4_2 ?_
  refine st_callSt_i [.int c, .int 0] oJ0_indexOf_0f7a4_3 rfl rfl (by decide) (ps8 rfl) (c_siof2 (by omega) h0 h1 ?_)
  exact st_iret oJ0_indexOf_0f7a4_6 ⟨_, rfl, h⟩
