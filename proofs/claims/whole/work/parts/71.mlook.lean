/-! THE REFERENCE: look -/
/-- what a ranking of the reference may change -/
def LkF (r : Nat) (I J : pIm) : Prop := (∀ x, x ≠ r → (x < r + 32 ∨ r + 36 ≤ x) → J x = I x) ∧ ∀ f, f ≠ 27 → J r f = I r f
theorem LkF.rf {r : Nat} {I : pIm} : LkF r I I := ⟨fun _ _ _ => rfl, fun _ _ => rfl⟩
theorem LkF.tr {r : Nat} {I J K : pIm} (h : LkF r I J) (g : LkF r J K) : LkF r I K := ⟨fun x h1 h2 => (g.1 x h1 h2).trans (h.1 x h1 h2), fun f hf => (g.2 f hf).trans (h.2 f hf)⟩
theorem LkF.c {r q f : Nat} {I : pIm} {v : Int32} (h1 : r + 32 ≤ q) (h2 : q < r + 36) : LkF r I (u2 I q f v) := ⟨fun x _ hx => u2_a (by omega), fun g _ => by rw [u2_a (by omega)]⟩
theorem LkF.u {r : Nat} {I : pIm} {v : Int32} : LkF r I (u2 I r 27 v) := ⟨fun x hx _ => u2_a hx, fun f hf => u2_j hf⟩
theorem LkF.f {r lo hi : Nat} {I J : pIm} (f : Fr lo hi I J) (h1 : r + 32 ≤ lo) (h2 : hi ≤ r + 36) : LkF r I J := ⟨fun x _ hx => f x (by omega), fun g _ => by rw [f r (by omega)]⟩
theorem LkF.sc {r td : Nat} {I J : pIm} (h : LkF r I J) (ht : td = r + 6 ∨ td = r + 17) : Sc r td I J := ⟨fun f hf => h.2 f (by omega), h.1 _ (by omega) (by omega), h.1 _ (by omega) (by omega), fun x h1 h2 => h.1 x (by omega) (by omega), fun x hx => h.1 x (by omega) (by omega)⟩
theorem mbD.sc {I J : pIm} {r td : Nat} {b : bK} (h : mbD I td b) (f : Sc r td I J) : mbD J td b := h.cg f.2.2.2.1
theorem mhD.sc {I J : pIm} {r td : Nat} {x : List Int32 × Int32 × Int32 × Int32} (h : mhD I r x) (f : Sc r td I J) : mhD J r x := h.cg (fun y hy => f.1 y (by omega)) f.2.2.1
theorem lat_at {I : pIm} {td x : Nat} {b : bK} (hb : mbD I td b) (hx : x < b.2.1.length) : I (td + 2) x = nI (lat b.2.1 (nI x)).length ∧ (lat b.2.1 (nI x)).length ≤ 10 ∧ 1 ≤ (lat b.2.1 (nI x)).length ∧ b.2.1[x]? = some (lat b.2.1 (nI x)) := by
  have e := List.getElem?_eq_getElem hx
  obtain ⟨h1, h2, h3, h4⟩ := wlen hb e
  rw [lat_in e (by omega)]
  exact ⟨h1, h3, h2, e⟩
theorem c_misAhead {d : Nat} (hd : 1 ≤ d) {B : pM} {I : pIm} {r td dr a c : Nat} {b : bK} {sc : List Int32} {v : Int32} {K : Int32 → pM → Prop} (hq : mdS B r td dr) (hb : mbD I td b) (ha : a < b.2.1.length) (hc : c < b.2.1.length) (hv : v = rat sc (nI a)) (hs : I (r + 34) c = rat sc (nI c)) (h1 : Ah b.2.1 sc a c → K 1 (pset B I)) (h0 : ¬ Ah b.2.1 sc a c → K 0 (pset B I)) : pCall_i d mX13_isAhead (0, 0) [.ref r, .int (nI a), .int v, .int (nI c)] (pset B I) K := by
  refine CP_go hd okX13_isAhead (Nat.le_of_ble_eq_true rfl) ?_
  have sb := hq.2.2.2.2.1
  have p8 := hq.2.1.2.2.2.2.2.1
  have p25 := hq.2.2.1.2.2.2.2.2.2.1
  have K34 := hq.2.2.2.1.2.2.2.2.2.2.2.2.2.2.2.1
  have h40 := hb.2.2.2.2.2.1.2.1
  have ca : (nI a).toNatClampNeg = a := nI_clamp (by omega)
  have cc : (nI c).toNatClampNeg = c := nI_clamp (by omega)
  have va : vp_in (nI a) 40 := vp_inN (by omega) (by omega)
  have vc : vp_in (nI c) 40 := vp_inN (by omega) (by omega)
  obtain ⟨la, la2, -⟩ := lat_at hb ha
  obtain ⟨lc, lc2, -⟩ := lat_at hb hc
  have la' : pI (pset B I) (td + 2) a = nI (lat b.2.1 (nI a)).length := la
  have lc' : pI (pset B I) (td + 2) c = nI (lat b.2.1 (nI c)).length := lc
  have hs' : pI (pset B I) (r + 34) c = rat sc (nI c) := hs
  subst hv
  refine bX13_isAhead_0 ⟨hq.1, r + 34, p25, 40, K34, vc, ?_⟩
  rw [ca, cc, hs']
  refine ⟨fun g => ⟨hq.1, td, p8, sb.1, td + 2, sb.2.1.2.1, 40, sb.2.2.2.1, va, hq.1, td, p8, sb.1, td + 2, sb.2.1.2.1, 40, sb.2.2.2.1, vc, ?_⟩, fun g => ⟨hq.1, r + 34, p25, 40, K34, vc, ?_⟩⟩
  · rw [la', lc']
    refine ⟨fun g2 => ⟨fun g3 => ⟨_, rfl, h0 ?_⟩, fun g3 => ⟨_, rfl, h1 ?_⟩⟩, fun g2 => ⟨hq.1, td, p8, sb.1, td + 2, sb.2.1.2.1, 40, sb.2.2.2.1, va, hq.1, td, p8, sb.1, td + 2, sb.2.1.2.1, 40, sb.2.2.2.1, vc, ?_⟩⟩
    · have e2 := (nI_eq (by omega) (by omega)).mp g2
      have e3 := (nI_leI (by omega) (by omega)).mp g3
      unfold Ah; rw [g]; intro z
      rcases z with z | z
      · exact Int32.lt_irrefl z
      · omega
    · have e2 := (nI_eq (by omega) (by omega)).mp g2
      have e3 : ¬ c ≤ a := fun z => g3 (nI_le z (by omega))
      exact Or.inr ⟨g, Or.inr ⟨e2, by omega⟩⟩
    · rw [la', lc']
      refine ⟨fun g3 => ⟨_, rfl, h0 ?_⟩, fun g3 => ⟨_, rfl, h1 ?_⟩⟩
      · have e2 : (lat b.2.1 (nI a)).length ≠ (lat b.2.1 (nI c)).length := fun z => g2 (by rw [z])
        have e3 := (nI_leI (by omega) (by omega)).mp g3
        unfold Ah; rw [g]; intro z
        rcases z with z | z
        · exact Int32.lt_irrefl z
        · omega
      · have e3 : ¬ (lat b.2.1 (nI c)).length ≤ (lat b.2.1 (nI a)).length := fun z => g3 (nI_le z (by omega))
        exact Or.inr ⟨g, Or.inl (by omega)⟩
  · rw [hs']
    refine ⟨fun g2 => ⟨_, rfl, h0 ?_⟩, fun g2 => ⟨_, rfl, h1 ?_⟩⟩
    · intro z
      rcases z with z | z
      · exact absurd g2 (Int32.not_le.mpr z)
      · exact g z.1
    · exact Or.inl (Int32.not_le.mp g2)
/-- what a look leaves -/
def lkD (J : pIm) (r : Nat) (b : bK) (h : List Int32 × Int32 × Int32 × Int32) : Prop := Ar (J (r + 33)) (rkO b h.1 h.2.1 h.2.2.1 h.2.2.2).1 ∧ Ar (J (r + 34)) (rkO b h.1 h.2.1 h.2.2.1 h.2.2.2).2.1 ∧ ∃ O : List Nat, J r 27 = nI O.length ∧ Ar (J (r + 35)) (O.map nI) ∧ O.Perm (nearL (rkO b h.1 h.2.1 h.2.2.1 h.2.2.2).1 h.2.2.2 b.2.1.length) ∧ O.Pairwise (Ah b.2.1 (rkO b h.1 h.2.1 h.2.2.1 h.2.2.2).2.1)
theorem map_at {α : Type} {f : Nat → α} {n k : Nat} (h : k < n) : ((List.range n).map f)[k]? = some (f k) := by rw [List.getElem?_map, List.getElem?_range h]; rfl
theorem c_mlook {d : Nat} (hd : 407 ≤ d) {B : pM} {I : pIm} {r td dr : Nat} {b : bK} {hn : List Int32 × Int32 × Int32 × Int32} {K : pM → Prop} (hq : mdS B r td dr) (hb : mbD I td b) (hh : mhD I r hn) (h : ∀ J, LkF r I J → lkD J r b hn → K (pset B J)) : pCall_v d mX13_look (0, 0) [.ref r] (pset B I) K := by
  refine CP_go (by omega) okX13_look (Nat.le_of_ble_eq_true rfl) ?_
  have hy := hq.lay
  have hy2 : td = r + 6 ∨ td = r + 17 := by omega
  have sb := hq.2.2.2.2.1
  have p8 := hq.2.1.2.2.2.2.2.1
  have p24 := hq.2.2.1.2.2.2.2.2.1
  have p25 := hq.2.2.1.2.2.2.2.2.2.1
  have p26 := hq.2.2.1.2.2.2.2.2.2.2
  have K33 := hq.2.2.2.1.2.2.2.2.2.2.2.2.2.2.1
  have K34 := hq.2.2.2.1.2.2.2.2.2.2.2.2.2.2.2.1
  have K35 := hq.2.2.2.1.2.2.2.2.2.2.2.2.2.2.2.2
  have h40 := hb.2.2.2.2.2.1.2.1
  have d4 : 4 ≤ d - 1 := by omega
  have d405 : 405 ≤ d - 1 := by omega
  have d1 : 1 ≤ d - 1 := by omega
  clear hd
  unfold lkD at h
  generalize hfa : (rkO b hn.1 hn.2.1 hn.2.2.1 hn.2.2.2).1 = fa at h
  generalize hsc : (rkO b hn.1 hn.2.1 hn.2.2.1 hn.2.2.2).2.1 = sc at h
  have hfa' : fa = (List.range b.2.1.length).map (faO b hn.1) := hfa.symm
  have hsc' : sc = (List.range b.2.1.length).map (scO b hn.1 hn.2.1 hn.2.2.1 hn.2.2.2) := hsc.symm
  have fa_at : ∀ k, k < b.2.1.length → rat fa (nI k) = faO b hn.1 k := fun k hk => rat_in (by rw [hfa']; exact map_at hk) (by rw [hfa', List.length_map, List.length_range]; omega)
  have sc_at : ∀ k, k < b.2.1.length → rat sc (nI k) = scO b hn.1 hn.2.1 hn.2.2.1 hn.2.2.2 k := fun k hk => rat_in (by rw [hsc']; exact map_at hk) (by rw [hsc', List.length_map, List.length_range]; omega)
  clear hfa hsc
  have key : ∀ (m k : Nat) (O : List Nat) (J : pIm), b.2.1.length - k = m → k ≤ b.2.1.length → LkF r I J → (∀ x, x < k → J (r + 33) x = rat fa (nI x) ∧ J (r + 34) x = rat sc (nI x)) → J r 27 = nI O.length → Ar (J (r + 35)) (O.map nI) → O.Perm (nearL fa hn.2.2.2 k) → O.Pairwise (Ah b.2.1 sc) → Go (d - 1) mX13_look (fun r M1 => r = .inl none ∧ K M1) 7 ([some (.ref r), some (.int (nI k)), none], [], 0, 0) (pset B J) := by
    intro m
    induction m with
    | zero =>
      intro k O J hm hk hf hA h27 h35 hP hS
      have e1 : pI (pset B J) td 1 = nI b.2.1.length := (hb.sc (hf.sc hy2)).1.2.1
      refine bX13_look_7 ⟨hq.1, td, p8, sb.1, fun _ => ⟨rfl, ?_⟩, fun g => absurd (by rw [e1]; exact nI_le (by omega) (by omega)) g⟩
      have e : k = b.2.1.length := by omega
      subst e
      refine h J hf ⟨fun j x hx => ?_, fun j x hx => ?_, O, h27, h35, hP, hS⟩
      · have hj : j < b.2.1.length := by
          have := (List.getElem?_eq_some_iff.mp hx).1
          rw [hfa', List.length_map, List.length_range] at this
          exact this
        rw [(hA j hj).1]
        exact rat_in hx (by rw [hfa', List.length_map, List.length_range]; omega)
      · have hj : j < b.2.1.length := by
          have := (List.getElem?_eq_some_iff.mp hx).1
          rw [hsc', List.length_map, List.length_range] at this
          exact this
        rw [(hA j hj).2]
        exact rat_in hx (by rw [hsc', List.length_map, List.length_range]; omega)
    | succ m ih =>
      intro k O J hm hk hf hA h27 h35 hP hS
      have hkn : k < b.2.1.length := by omega
      have hOl : O.length ≤ k := by
        have h1 := hP.length_eq
        have h2 := nearL_len (fa := fa) (li := hn.2.2.2) (n := k)
        omega
      have hOm : ∀ x ∈ O, x < k := fun x hx => (nearL_mem.mp (hP.mem_iff.mp hx)).1
      have e1 : pI (pset B J) td 1 = nI b.2.1.length := (hb.sc (hf.sc hy2)).1.2.1
      have ck : (nI k).toNatClampNeg = k := nI_clamp (by omega)
      have vk : vp_in (nI k) 40 := vp_inN (by omega) (by omega)
      have next : ∀ (O2 : List Nat) (J2 : pIm), LkF r I J2 → (∀ x, x < k + 1 → J2 (r + 33) x = rat fa (nI x) ∧ J2 (r + 34) x = rat sc (nI x)) → J2 r 27 = nI O2.length → Ar (J2 (r + 35)) (O2.map nI) → O2.Perm (nearL fa hn.2.2.2 (k + 1)) → O2.Pairwise (Ah b.2.1 sc) → Go (d - 1) mX13_look (fun r M1 => r = .inl none ∧ K M1) 130 ([some (.ref r), some (.int (nI k)), none], [], 0, 0) (pset B J2) := by
        intro O2 J2 a1 a2 a3 a4 a5 a6
        refine bX13_look_130 ?_
        rw [nI_1]
        exact ih (k + 1) O2 J2 (by omega) (by omega) a1 a2 a3 a4 a5 a6
      refine bX13_look_7 ⟨hq.1, td, p8, sb.1, fun g => ?_, fun g => ⟨hq.1, r + 33, p24, hq.1, c_mfar d4 hq (hb.sc (hf.sc hy2)) (hh.sc (hf.sc hy2)) hkn (fun J1 f1 => ⟨40, K33, vk, hq.1, r + 34, p25, hq.1, r + 33, p24, 40, K33, vk, hq.1, ?_⟩)⟩⟩
      · exfalso
        rw [e1] at g
        have := (nI_leI (by omega) (by omega)).mp g
        omega
      rw [ck, psI_set]
      have g1 : LkF r I (u2 J1 (r + 33) k (faO b hn.1 k)) := (hf.tr (LkF.f f1 (by omega) (by omega))).tr (LkF.c (by omega) (by omega))
      have ef : pI (pset B (u2 J1 (r + 33) k (faO b hn.1 k))) (r + 33) k = faO b hn.1 k := u2_same
      rw [ef]
      refine c_mscore d405 hq (hb.sc (g1.sc hy2)) (hh.sc (g1.sc hy2)) hkn ⟨40, K34, vk, hq.1, r + 33, p24, 40, K33, vk, hq.1, ?_⟩
      rw [psI_set]
      have g2 : LkF r I (u2 (u2 J1 (r + 33) k (faO b hn.1 k)) (r + 34) k (scO b hn.1 hn.2.1 hn.2.2.1 hn.2.2.2 k)) := g1.tr (LkF.c (by omega) (by omega))
      generalize hJ2 : u2 (u2 J1 (r + 33) k (faO b hn.1 k)) (r + 34) k (scO b hn.1 hn.2.1 hn.2.2.1 hn.2.2.2 k) = J2 at g2
      have hJ2' : u2 (u2 J1 (r + 33) k (faO b hn.1 k)) (r + 34) k (rat b.2.2.1 (nI k) + boostI (envB b hn.1 hn.2.1 hn.2.2.1 hn.2.2.2 (faO b hn.1 k)) b.2.2.2.2.2 (rat b.2.2.2.1 (nI k)) b.2.2.2.2.2.1.length - 10 * faO b hn.1 k) = J2 := hJ2
      rw [hJ2']
      have A2 : ∀ x, x < k + 1 → J2 (r + 33) x = rat fa (nI x) ∧ J2 (r + 34) x = rat sc (nI x) := by
        intro x hx
        rw [← hJ2]
        by_cases e : x = k
        · subst e
          rw [fa_at x hkn, sc_at x hkn]
          exact ⟨by rw [u2_a (by omega)]; exact u2_same, u2_same⟩
        · obtain ⟨q1, q2⟩ := hA x (by omega)
          refine ⟨?_, ?_⟩
          · rw [u2_a (by omega), u2_j e, f1 (r + 33) (by omega)]; exact q1
          · rw [u2_j e, u2_a (by omega), f1 (r + 34) (by omega)]; exact q2
      have h27' : J2 r 27 = nI O.length := by
        rw [← hJ2, u2_a (by omega), u2_a (by omega), f1 r (by omega)]; exact h27
      have h35' : Ar (J2 (r + 35)) (O.map nI) := by
        rw [← hJ2, u2_a (by omega), u2_a (by omega), f1 (r + 35) (by omega)]; exact h35
      clear hJ2 hJ2'
      have eli : pI (pset B J2) r 21 = hn.2.2.2 := (hh.sc (g2.sc hy2)).2.2.2.2.2
      have ef2 : pI (pset B J2) (r + 33) k = rat fa (nI k) := (A2 k (by omega)).1
      rw [eli, ef2]
      refine ⟨fun g3 => ⟨hq.1, ?_⟩, fun g3 => next O J2 g2 A2 h27' h35' (by rw [nearL_succ, if_neg g3]; exact hP) hS⟩
      have e27 : pI (pset B J2) r 27 = nI O.length := h27'
      rw [e27]
      have hb2 := hb.sc (g2.sc hy2)
      -- down to the place
      have fin : ∀ (p : Nat) (J3 : pIm), p ≤ O.length → LkF r I J3 → (∀ x, x < k + 1 → J3 (r + 33) x = rat fa (nI x) ∧ J3 (r + 34) x = rat sc (nI x)) → J3 r 27 = nI O.length → (∀ j x, O[j]? = some x → j < p → J3 (r + 35) j = nI x) → (∀ j x, O[j]? = some x → p ≤ j → J3 (r + 35) (j + 1) = nI x ∧ Ah b.2.1 sc k x) → (∀ x, O[p - 1]? = some x → 0 < p → Ah b.2.1 sc x k) → Go (d - 1) mX13_look (fun r M1 => r = .inl none ∧ K M1) 113 ([some (.ref r), some (.int (nI k)), some (.int (nI p))], [], 0, 0) (pset B J3) := by
        intro p J3 hp a1 a2 a3 a4 a5 a6
        have e27' : pI (psI (pset B J3) (r + 35) p (nI k)) r 27 = nI O.length := by
          show u2 J3 (r + 35) p (nI k) r 27 = _
          rw [u2_a (by omega)]; exact a3
        refine bX13_look_113 ⟨hq.1, r + 35, p26, 40, K35, vp_inN (by omega) (by omega), hq.1, hq.1, ?_⟩
        rw [nI_clamp (show p < 2 ^ 31 by omega), e27', nI_1, psI_set, psI_set]
        have hlen : (O.take p ++ k :: O.drop p).length = O.length + 1 := by
          rw [List.length_append, List.length_cons, List.length_take, List.length_drop]
          omega
        have hperm : (O.take p ++ k :: O.drop p).Perm (nearL fa hn.2.2.2 (k + 1)) := by
          rw [nearL_succ, if_pos g3]
          refine List.perm_middle.trans ?_
          rw [List.take_append_drop]
          exact (List.Perm.cons k hP).trans (List.perm_append_singleton k _).symm
        refine next (O.take p ++ k :: O.drop p) _ ((a1.tr (LkF.c (by omega) (by omega))).tr LkF.u) (fun x hx => ?_) (by rw [hlen]; exact u2_same) (fun j x hx => ?_) hperm ?_
        · rw [u2_a (by omega), u2_a (by omega), u2_a (by omega), u2_a (by omega)]
          exact a2 x hx
        · rw [u2_a (by omega)]
          rw [List.getElem?_map] at hx
          by_cases c1 : j < p
          · rw [u2_j (by omega)]
            rw [List.getElem?_append_left (by rw [List.length_take]; omega), List.getElem?_take, if_pos c1] at hx
            cases ho : O[j]? with
            | none => rw [ho] at hx; exact nomatch hx
            | some y =>
              rw [ho] at hx
              rw [a4 j y ho c1]
              exact Option.some.inj hx
          · rw [List.getElem?_append_right (by rw [List.length_take]; omega), List.length_take, Nat.min_eq_left hp] at hx
            by_cases c2 : j = p
            · subst c2
              rw [Nat.sub_self] at hx
              rw [u2_same]
              exact Option.some.inj hx
            · rw [u2_j c2]
              have e3 : j - p = (j - 1 - p) + 1 := by omega
              rw [e3, List.getElem?_cons_succ, List.getElem?_drop] at hx
              have e4 : p + (j - 1 - p) = j - 1 := by omega
              rw [e4] at hx
              cases ho : O[j - 1]? with
              | none => rw [ho] at hx; exact nomatch hx
              | some y =>
                rw [ho] at hx
                have := (a5 (j - 1) y ho (by omega)).1
                rw [show j - 1 + 1 = j by omega] at this
                rw [this]
                exact Option.some.inj hx
        · rw [List.pairwise_append, List.pairwise_cons]
          have hTD := hS
          rw [← List.take_append_drop p O, List.pairwise_append] at hTD
          refine ⟨hTD.1, ⟨fun x hx => ?_, hTD.2.1⟩, fun x hx y hy => ?_⟩
          · obtain ⟨i, hi⟩ := List.getElem?_of_mem hx
            rw [List.getElem?_drop] at hi
            exact (a5 _ x hi (by omega)).2
          · have hxk : Ah b.2.1 sc x k := by
              obtain ⟨i, hi⟩ := List.getElem?_of_mem hx
              have hip : i < p := by
                have := (List.getElem?_eq_some_iff.mp hi).1
                rw [List.length_take] at this
                omega
              rw [List.getElem?_take, if_pos hip] at hi
              have ez : O[p - 1]? = some (O[p - 1]'(by omega)) := List.getElem?_eq_getElem (by omega)
              have az := a6 _ ez (by omega)
              by_cases e : i = p - 1
              · subst e
                rw [hi] at ez
                rw [Option.some.inj ez]
                exact az
              · have := List.pairwise_iff_getElem.mp hS i (p - 1) (by omega) (by omega) (by omega)
                rw [(List.getElem?_eq_some_iff.mp hi).2] at this
                exact this.trans az
            rcases List.mem_cons.mp hy with rfl | hy
            · exact hxk
            · exact hTD.2.2 x hx y hy
      have down : ∀ (p : Nat) (J3 : pIm), p ≤ O.length → LkF r I J3 → (∀ x, x < k + 1 → J3 (r + 33) x = rat fa (nI x) ∧ J3 (r + 34) x = rat sc (nI x)) → J3 r 27 = nI O.length → (∀ j x, O[j]? = some x → j < p → J3 (r + 35) j = nI x) → (∀ j x, O[j]? = some x → p ≤ j → J3 (r + 35) (j + 1) = nI x ∧ Ah b.2.1 sc k x) → Go (d - 1) mX13_look (fun r M1 => r = .inl none ∧ K M1) 67 ([some (.ref r), some (.int (nI k)), some (.int (nI p))], [], 0, 0) (pset B J3) := by
        intro p
        induction p with
        | zero =>
          intro J3 hp a1 a2 a3 a4 a5
          exact bX13_look_67 ⟨fun _ => fin 0 J3 hp a1 a2 a3 a4 a5 (fun x _ z => absurd z (by omega)), fun g => absurd (by decide) g⟩
        | succ p ihp =>
          intro J3 hp a1 a2 a3 a4 a5
          have eo : O[p]? = some (O[p]'(by omega)) := List.getElem?_eq_getElem (by omega)
          have hop := hOm _ (List.mem_of_getElem? eo)
          have ep : nI (p + 1) - 1 = nI p := nI_sub (b := 1) (by omega)
          have ep2 : nI (p + 1) + -1 = nI p := by rw [← ep]; exact (Int32.sub_eq_add_neg _ _).symm
          refine bX13_look_67 ⟨fun g => absurd g (nI_nle (by omega) (by omega)), fun _ => ⟨hq.1, r + 34, p25, 40, K34, vk, hq.1, r + 35, p26, 40, K35, by rw [ep]; exact vp_inN (by omega) (by omega), hq.1, ?_⟩⟩
          rw [ep, ep2, ck, nI_clamp (show p < 2 ^ 31 by omega), nI_clamp (show p + 1 < 2 ^ 31 by omega)]
          have eor : pI (pset B J3) (r + 35) p = nI (O[p]'(by omega)) := a4 p _ eo (by omega)
          rw [eor]
          refine c_misAhead d1 hq (hb.sc (a1.sc hy2)) hkn (by omega) (a2 k (by omega)).2 (a2 _ (by omega)).2 (fun z => ⟨fun y => absurd y (by decide), fun _ => ⟨hq.1, r + 35, p26, hq.1, r + 35, p26, 40, K35, vp_inN (by omega) (by omega), 40, K35, vp_inN (by omega) (by omega), ?_⟩⟩) (fun z => ⟨fun _ => fin (p + 1) J3 hp a1 a2 a3 a4 a5 (fun x hx _ => ?_), fun y => absurd rfl y⟩)
          · rw [eor, psI_set]
            refine ihp _ (by omega) (a1.tr (LkF.c (by omega) (by omega))) (fun x hx => by rw [u2_a (by omega), u2_a (by omega)]; exact a2 x hx) (by rw [u2_a (by omega)]; exact a3) (fun j x hx hj => by rw [u2_j (by omega)]; exact a4 j x hx (by omega)) (fun j x hx hj => ?_)
            by_cases e : j = p
            · subst e
              rw [eo] at hx
              rw [← Option.some.inj hx]
              exact ⟨u2_same, z⟩
            · rw [u2_j (by omega)]
              exact a5 j x hx (by omega)
          · have hx' : O[p]? = some x := hx
            rw [eo] at hx'
            rw [← Option.some.inj hx']
            refine (Ah.tot (fun e => ?_)).resolve_left z
            omega
      refine down O.length J2 (Nat.le_refl _) g2 A2 h27' (fun j x hx hj => ?_) (fun j x hx hj => absurd (List.getElem?_eq_some_iff.mp hx).1 (by omega))
      refine h35' j (nI x) ?_
      rw [List.getElem?_map, hx]
      rfl
  refine bX13_look_0 ⟨hq.1, ?_⟩
  rw [psI_set]
  exact key _ 0 [] _ rfl (by omega) LkF.u (fun x hx => absurd hx (by omega)) u2_same (fun j x hx => nomatch hx) (List.Perm.refl _) List.Pairwise.nil
