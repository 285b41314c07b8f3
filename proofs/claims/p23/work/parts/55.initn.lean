theorem c_namesInit {d : Nat} (hd : 2 ≤ d) {B : pM} {I : pIm} {q : Nat} (n : Nat) {K : pM → Prop} (hk : pK B q = (1, 5)) (hN : pN B = q + 1) (hB : q + 4 + 2 * n < pBIG) (hn : n < 1000)
    (h : ∀ C J, At q B C → pN C = q + 4 + 2 * n → namesS C q n → Nm J q n [] → (∀ x, x < q → J x = I x) → K (pset C J)) : pCall_v d mX5_init (2 * n + 3, 13 * n + 2) [.ref q, .int (nI n)] (pset B I) K := by
  refine CP_go (by omega) okX5_init (Nat.le_of_ble_eq_true rfl) ?_
  have d1 : 1 ≤ d - 1 := by omega
  clear hd
  have e0 := mx0 (n := n) (by omega)
  have key : ∀ (m i : Nat) (D : pM) (J : pIm), n - i = m → i ≤ n → At q B D → pN D = q + 4 + 2 * i → pK D q = (1, 5) → pP D q 0 = (q + 3) + 1 → pP D q 1 = (q + 1) + 1 → rowS D (q + 1) 0 → pK D (q + 3) = (4, n) → (∀ k, k < i → pP D (q + 3) k = (q + 4 + 2 * k) + 1 ∧ rowS D (q + 4 + 2 * k) 10) → Rw J (q + 1) [] → J q 2 = 0 → (∀ x, x < q → J x = I x) → Go (d - 1) mX5_init (fun r M1 => r = .inl none ∧ K M1) 35 ([some (.ref q), none, some (.int (nI i))], [], 2 * (n - i), 12 * (n - i)) (pset D J) := by
    intro m
    induction m with
    | zero =>
      intro i D J hm hi a1 a2 a3 a4 a5 a6 a7 a8 a9 a10 a11
      have e : i = n := by omega
      subst e
      refine bX5_init_35 ⟨a3, q + 3, a4, i, a7, fun _ => ⟨rfl, ?_⟩, fun g => absurd (nI_le (Nat.le_refl _) (by omega)) g⟩
      exact h D J a1 a2 ⟨a3, a4, a5, a6, a7, hn, a8⟩ ⟨a10, by simp, a9, fun k l hl => nomatch hl⟩ a11
    | succ m ih =>
      intro i D J hm hi a1 a2 a3 a4 a5 a6 a7 a8 a9 a10 a11
      have hlt : i < n := by omega
      have e1 : 2 * (n - i) - 1 - 1 = 2 * (n - (i + 1)) := by omega
      have e2 : 12 * (n - i) - 2 - 10 = 12 * (n - (i + 1)) := by omega
      refine bX5_init_35 ⟨a3, q + 3, a4, n, a7, fun g => absurd ((nI_leI (by omega) (by omega)).mp (show nI n ≤ nI i from g)) (by omega), fun _ => ⟨a3, q + 3, a4, by omega, by omega, by show pN D < pBIG; omega, fun N1 x1 => ⟨(1, 10), by show 1 ≤ 2 * (n - i) - 1; omega, by show 10 ≤ 12 * (n - i) - 2; omega, ?_⟩⟩⟩
      rw [x1]
      refine c_newRow (B := D) (I := J) d1 10 (by omega) (by decide) (fun C J2 b1 b2 b3 b4 b5 => ⟨n, (b1 _ (by omega)).1.trans a7, b3.1, vp_in_nI hlt (by omega), fun N2 x2 => ?_⟩)
      rw [x2, psP_pset, nI_1, nI_clamp (by omega)]
      show Go (d - 1) mX5_init _ 35 ([some (.ref q), none, some (.int (nI (i + 1)))], [], 2 * (n - i) - 1 - 1, 12 * (n - i) - 2 - 10) _
      rw [e1, e2]
      have eq0 := b1 q (by omega)
      have eq3 := b1 (q + 3) (by omega)
      refine ih (i + 1) _ J2 (by omega) (by omega) ((a1.tr (b1.le (by omega))).tr (At.putP (by omega))) (by show pN C = _; omega) (eq0.1.trans a3) ?_ ?_ ((a6.at b1 (by omega)).put (by omega)) (eq3.1.trans a7) (fun k hk => ?_) (a9.fr (b5 _ (by omega)) (b5 _ (by omega))) (by rw [b5 q (by omega)]; exact a10) (fun x hx => by rw [b5 x (by omega)]; exact a11 x hx)
      · rw [psP_at, if_neg (fun z => by omega), eq0.2.1]; exact a4
      · rw [psP_at, if_neg (fun z => by omega), eq0.2.1]; exact a5
      · by_cases ek : k = i
        · subst ek
          refine ⟨?_, ?_⟩
          · rw [psP_at, if_pos ⟨rfl, rfl⟩]
            show pN D + 1 = _
            omega
          · rw [a2] at b3
            exact b3.put (by omega)
        · obtain ⟨c1, c2⟩ := a8 k (by omega)
          refine ⟨?_, (c2.at b1 (by omega)).put (by omega)⟩
          rw [psP_at, if_neg (fun z => ek z.2), eq3.2.1]
          exact c1
  refine bX5_init_0 ⟨by show 1 ≤ 2 * n + 3; omega, by show 2 ≤ 13 * n + 2; omega, by show pN B < pBIG; omega, fun N1 x1 => ⟨(1, 0), by show 1 ≤ 2 * n + 3 - 1; omega, Nat.zero_le _, ?_⟩⟩
  rw [x1]
  refine c_newRow (B := B) (I := I) d1 0 (by omega) (by decide) (fun C J b1 b2 b3 b4 b5 => ?_)
  have eq0 := b1 q (by omega)
  have kq : pK C q = (1, 5) := eq0.1.trans hk
  refine ⟨kq, fun N2 x2 => ⟨by rw [x2]; exact kq, fun N3 x3 => ?_⟩⟩
  rw [e0, nI_clamp (by omega)]
  refine ⟨nI_pos (by omega), by omega, by show 1 ≤ 2 * n + 3 - 1 - 1; omega, by show n ≤ 13 * n + 2 - 2 - 0; omega, by rw [x3, x2, psP_pset, psI_set]; show pN C < pBIG; omega, fun N4 x4 => ?_⟩
  have kn : ∀ (D : pM), pK D q = (1, 5) → pN D = q + 3 → pK (pnew D (4, n)) q = (1, 5) := fun D h1 h2 => (if_neg (show q ≠ pN D by omega)).trans h1
  rw [x4, x3, x2, psP_pset, psI_set, pnew_pset]
  refine ⟨kn _ kq (by show pN C = q + 3; omega), fun N5 x5 => ?_⟩
  rw [x5, psP_pset]
  have hNC : pN C = q + 3 := by omega
  show Go (d - 1) mX5_init _ 35 ([some (.ref q), none, some (.int (nI 0))], [], 2 * n + 3 - 1 - 1 - 1, 13 * n + 2 - 2 - 0 - n) _
  rw [show 2 * n + 3 - 1 - 1 - 1 = 2 * (n - 0) by omega, show 13 * n + 2 - 2 - 0 - n = 12 * (n - 0) by omega]
  rw [hN] at b3 b4
  have hnP : pN (psP C q 1 (pN B + 1)) = q + 3 := hNC
  have atC : At q B (psP (pnew (psP C q 1 (pN B + 1)) (4, n)) q 0 (pN C + 1)) := (((b1.le (by omega)).tr (At.putP (Nat.le_refl _))).tr ((At.new (B := psP C q 1 (pN B + 1)) (k := (4, n))).le (by omega))).tr (At.putP (Nat.le_refl _))
  have r1 : rowS (psP (pnew (psP C q 1 (pN B + 1)) (4, n)) q 0 (pN C + 1)) (q + 1) 0 := ((b3.put (by omega)).at (At.new (B := psP C q 1 (pN B + 1)) (k := (4, n))) (by omega)).put (by omega)
  refine key n 0 _ _ rfl (by omega) atC (by show pN C + 1 = q + 4 + 2 * 0; omega) (kn _ kq hNC) ?_ ?_ r1 ?_ (fun k hk => absurd hk (by omega)) ?_ ?_ (fun x hx => ?_)
  · rw [psP_at, if_pos ⟨rfl, rfl⟩]
    show pN C + 1 = q + 3 + 1
    rw [hNC]
  · rw [psP_at, if_neg (fun z => by omega)]
    show (if q = pN C then 0 else pP (psP C q 1 (pN B + 1)) q 1) = q + 1 + 1
    rw [if_neg (by omega), psP_at, if_pos ⟨rfl, rfl⟩, hN]
  · show (if q + 3 = pN C then (4, n) else pK C (q + 3)) = (4, n)
    rw [if_pos hNC.symm]
  · refine b4.fr ?_ ?_
    · funext y
      show (if q + 1 = pN C then 0 else u2 J q 2 0 (q + 1) y) = J (q + 1) y
      rw [if_neg (by omega), u2_a (by omega)]
    · funext y
      show (if q + 1 + 1 = pN C then 0 else u2 J q 2 0 (q + 1 + 1) y) = J (q + 1 + 1) y
      rw [if_neg (by omega), u2_a (by omega)]
  · show (if q = pN C then 0 else u2 J q 2 0 q 2) = 0
    rw [if_neg (by omega), u2_same]
  · rw [← b5 x (by omega)]
    funext y
    show (if x = pN C then 0 else u2 J q 2 0 x y) = J x y
    rw [if_neg (by omega), u2_a (by omega)]
