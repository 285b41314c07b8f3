/-! THE LAW: its helpers -/
theorem okf_feed {s : wS} {a b c2 e f : Int32} : okO (feedO s a b c2 e f).1 xISE xISE := by
  unfold feedO okO
  (repeat' split) <;> first | exact Or.inl ⟨_, rfl⟩ | exact Or.inr (Or.inl rfl) | exact Or.inr (Or.inr rfl)
theorem hl_feed {d : Nat} (hd : 8 ≤ d) {B : pM} {I : pIm} {p r q n : Nat} {sc : Nat → Int32} {s : wS} {a b c2 e f : Int32} {K : Int32 → pM → Prop} (hI : lawI B I p r q n sc s) (hb : pN B < pBIG) (hK : hlpO B I p q cdS (feedO s a b c2 e f).1 (feedO s a b c2 e f).2 K) : pCall_i d mL_feed (1, 6) [.ref p, .int a, .int b, .int c2, .int e, .int f, .ref q] (pset B I) K := by
  obtain ⟨⟨td, dr, h1, h2⟩, -, h3, -, -, -, -, h8, -⟩ := id hI
  refine CP_go (by omega) okL_feed (Nat.le_of_ble_eq_true rfl) (bL_feed_0 ⟨h1.1, (1, 6), Nat.le_refl _, Nat.le_refl _, ?_⟩)
  refine pad_x (p := p) (w := (feedO s a b c2 e f).1) (s' := (feedO s a b c2 e f).2) (fun Q hp => o_feed (by omega) h1 h2 hb hp) ?_ (fun C J td2 dr2 hx hn hs hd2 hf => ⟨fun v hv => ?_, fun E hE => ?_⟩)
  · rcases (okf_feed : okO (feedO s a b c2 e f).1 xISE xISE) with ⟨v, h⟩ | h | h <;> rw [h] <;> exact fun z => nomatch z
  · obtain ⟨x, rfl⟩ : ∃ x, v = .int x := by
      rcases (okf_feed : okO (feedO s a b c2 e f).1 xISE xISE) with ⟨x, h⟩ | h | h
      · rw [h] at hv; exact ⟨x, (Option.some.inj (Sum.inl.inj hv)).symm⟩
      · rw [h] at hv; exact nomatch hv
      · rw [h] at hv; exact nomatch hv
    exact ⟨x, rfl, 1, (hx.2 q h8).1.trans h3, vp_inN (j := 0) (n := 1) (by decide) (by decide), 0, rfl, (hK C J td2 dr2 hx hn hs hd2 hf).1 x hv⟩
  · have hk := (hK C J td2 dr2 hx hn hs hd2 hf).2 E hE
    rcases (okf_feed : okO (feedO s a b c2 e f).1 xISE xISE) with ⟨x, h⟩ | h | h
    · rw [h] at hE; exact nomatch hE
    · rw [h] at hE; cases Sum.inr.inj hE; exact ⟨rfl, 1, rfl, by rw [cdS_1] at hk; exact hk⟩
    · rw [h] at hE; cases Sum.inr.inj hE; exact ⟨rfl, 1, rfl, by rw [cdS_1] at hk; exact hk⟩
theorem nz_feed {s : wS} {a b c2 e f : Int32} : ∀ E, (feedO s a b c2 e f).1 = .inr E → ¬ cdS E = 0 := fun E hE => by
  rcases (okf_feed : okO (feedO s a b c2 e f).1 xISE xISE) with ⟨x, h⟩ | h | h
  · rw [h] at hE; exact nomatch hE
  · rw [h] at hE; cases Sum.inr.inj hE; rw [cdS_1]; decide
  · rw [h] at hE; cases Sum.inr.inj hE; rw [cdS_1]; decide
theorem okf_trim {s : wS} {a : Int32} : okO (trimO s a).1 xIAE xIAE := by
  unfold trimO okO
  (repeat' split) <;> first | exact Or.inl ⟨_, rfl⟩ | exact Or.inr (Or.inl rfl) | exact Or.inr (Or.inr rfl)
theorem hl_trim {d : Nat} (hd : 8 ≤ d) {B : pM} {I : pIm} {p r q n : Nat} {sc : Nat → Int32} {s : wS} {a : Int32} {K : Int32 → pM → Prop} (hI : lawI B I p r q n sc s) (hb : pN B < pBIG) (hK : hlpO B I p q cdA (trimO s a).1 (trimO s a).2 K) : pCall_i d mL_trim (1, 6) [.ref p, .int a, .ref q] (pset B I) K := by
  obtain ⟨⟨td, dr, h1, h2⟩, -, h3, -, -, -, -, h8, -⟩ := id hI
  refine CP_go (by omega) okL_trim (Nat.le_of_ble_eq_true rfl) (bL_trim_0 ⟨h1.1, (1, 6), Nat.le_refl _, Nat.le_refl _, ?_⟩)
  refine pad_x (p := p) (w := (trimO s a).1) (s' := (trimO s a).2) (fun Q hp => o_trim (by omega) h1 h2 hb hp) ?_ (fun C J td2 dr2 hx hn hs hd2 hf => ⟨fun v hv => ?_, fun E hE => ?_⟩)
  · rcases (okf_trim : okO (trimO s a).1 xIAE xIAE) with ⟨v, h⟩ | h | h <;> rw [h] <;> exact fun z => nomatch z
  · obtain ⟨x, rfl⟩ : ∃ x, v = .int x := by
      rcases (okf_trim : okO (trimO s a).1 xIAE xIAE) with ⟨x, h⟩ | h | h
      · rw [h] at hv; exact ⟨x, (Option.some.inj (Sum.inl.inj hv)).symm⟩
      · rw [h] at hv; exact nomatch hv
      · rw [h] at hv; exact nomatch hv
    exact ⟨x, rfl, 1, (hx.2 q h8).1.trans h3, vp_inN (j := 0) (n := 1) (by decide) (by decide), 0, rfl, (hK C J td2 dr2 hx hn hs hd2 hf).1 x hv⟩
  · have hk := (hK C J td2 dr2 hx hn hs hd2 hf).2 E hE
    rcases (okf_trim : okO (trimO s a).1 xIAE xIAE) with ⟨x, h⟩ | h | h
    · rw [h] at hE; exact nomatch hE
    · rw [h] at hE; cases Sum.inr.inj hE; exact ⟨rfl, 1, rfl, by rw [cdA_1] at hk; exact hk⟩
    · rw [h] at hE; cases Sum.inr.inj hE; exact ⟨rfl, 1, rfl, by rw [cdA_1] at hk; exact hk⟩
theorem nz_trim {s : wS} {a : Int32} : ∀ E, (trimO s a).1 = .inr E → ¬ cdA E = 0 := fun E hE => by
  rcases (okf_trim : okO (trimO s a).1 xIAE xIAE) with ⟨x, h⟩ | h | h
  · rw [h] at hE; exact nomatch hE
  · rw [h] at hE; cases Sum.inr.inj hE; rw [cdA_1]; decide
  · rw [h] at hE; cases Sum.inr.inj hE; rw [cdA_1]; decide
theorem okf_count {s : wS} {a : Int32} : okO (countO s a).1 xIOB xIOB := by
  unfold countO okO
  (repeat' split) <;> first | exact Or.inl ⟨_, rfl⟩ | exact Or.inr (Or.inl rfl) | exact Or.inr (Or.inr rfl)
theorem hl_count {d : Nat} (hd : 8 ≤ d) {B : pM} {I : pIm} {p r q n : Nat} {sc : Nat → Int32} {s : wS} {a : Int32} {K : Int32 → pM → Prop} (hI : lawI B I p r q n sc s) (hb : pN B < pBIG) (hK : hlpO B I p q cdB (countO s a).1 (countO s a).2 K) : pCall_i d mL_count (1, 6) [.ref p, .int a, .ref q] (pset B I) K := by
  obtain ⟨⟨td, dr, h1, h2⟩, -, h3, -, -, -, -, h8, -⟩ := id hI
  refine CP_go (by omega) okL_count (Nat.le_of_ble_eq_true rfl) (bL_count_0 ⟨h1.1, (1, 6), Nat.le_refl _, Nat.le_refl _, ?_⟩)
  refine pad_x (p := p) (w := (countO s a).1) (s' := (countO s a).2) (fun Q hp => o_count (by omega) h1 h2 hb hp) ?_ (fun C J td2 dr2 hx hn hs hd2 hf => ⟨fun v hv => ?_, fun E hE => ?_⟩)
  · rcases (okf_count : okO (countO s a).1 xIOB xIOB) with ⟨v, h⟩ | h | h <;> rw [h] <;> exact fun z => nomatch z
  · obtain ⟨x, rfl⟩ : ∃ x, v = .int x := by
      rcases (okf_count : okO (countO s a).1 xIOB xIOB) with ⟨x, h⟩ | h | h
      · rw [h] at hv; exact ⟨x, (Option.some.inj (Sum.inl.inj hv)).symm⟩
      · rw [h] at hv; exact nomatch hv
      · rw [h] at hv; exact nomatch hv
    exact ⟨x, rfl, 1, (hx.2 q h8).1.trans h3, vp_inN (j := 0) (n := 1) (by decide) (by decide), 0, rfl, (hK C J td2 dr2 hx hn hs hd2 hf).1 x hv⟩
  · have hk := (hK C J td2 dr2 hx hn hs hd2 hf).2 E hE
    rcases (okf_count : okO (countO s a).1 xIOB xIOB) with ⟨x, h⟩ | h | h
    · rw [h] at hE; exact nomatch hE
    · rw [h] at hE; cases Sum.inr.inj hE; exact ⟨rfl, 1, rfl, by rw [cdB_1] at hk; exact hk⟩
    · rw [h] at hE; cases Sum.inr.inj hE; exact ⟨rfl, 1, rfl, by rw [cdB_1] at hk; exact hk⟩
theorem nz_count {s : wS} {a : Int32} : ∀ E, (countO s a).1 = .inr E → ¬ cdB E = 0 := fun E hE => by
  rcases (okf_count : okO (countO s a).1 xIOB xIOB) with ⟨x, h⟩ | h | h
  · rw [h] at hE; exact nomatch hE
  · rw [h] at hE; cases Sum.inr.inj hE; rw [cdB_1]; decide
  · rw [h] at hE; cases Sum.inr.inj hE; rw [cdB_1]; decide
theorem okf_type {s : wS} {a : Int32} : okO (typeO s a).1 xIAE xISE := by
  unfold typeO okO
  (repeat' split) <;> first | exact Or.inl ⟨_, rfl⟩ | exact Or.inr (Or.inl rfl) | exact Or.inr (Or.inr rfl)
theorem hl_type {d : Nat} (hd : 8 ≤ d) {B : pM} {I : pIm} {p r q n : Nat} {sc : Nat → Int32} {s : wS} {a : Int32} {K : Int32 → pM → Prop} (hI : lawI B I p r q n sc s) (hb : pN B < pBIG) (hK : hlpO B I p q cdA (typeO s a).1 (typeO s a).2 K) : pCall_i d mL_type (1, 6) [.ref p, .int a, .ref q] (pset B I) K := by
  obtain ⟨⟨td, dr, h1, h2⟩, -, h3, -, -, -, -, h8, -⟩ := id hI
  refine CP_go (by omega) okL_type (Nat.le_of_ble_eq_true rfl) (bL_type_0 ⟨h1.1, (1, 6), Nat.le_refl _, Nat.le_refl _, ?_⟩)
  refine pad_x (p := p) (w := (typeO s a).1) (s' := (typeO s a).2) (fun Q hp => o_type (by omega) h1 h2 hb hp) ?_ (fun C J td2 dr2 hx hn hs hd2 hf => ⟨fun v hv => ?_, fun E hE => ?_⟩)
  · rcases (okf_type : okO (typeO s a).1 xIAE xISE) with ⟨v, h⟩ | h | h <;> rw [h] <;> exact fun z => nomatch z
  · obtain ⟨x, rfl⟩ : ∃ x, v = .int x := by
      rcases (okf_type : okO (typeO s a).1 xIAE xISE) with ⟨x, h⟩ | h | h
      · rw [h] at hv; exact ⟨x, (Option.some.inj (Sum.inl.inj hv)).symm⟩
      · rw [h] at hv; exact nomatch hv
      · rw [h] at hv; exact nomatch hv
    exact ⟨x, rfl, 1, (hx.2 q h8).1.trans h3, vp_inN (j := 0) (n := 1) (by decide) (by decide), 0, rfl, (hK C J td2 dr2 hx hn hs hd2 hf).1 x hv⟩
  · have hk := (hK C J td2 dr2 hx hn hs hd2 hf).2 E hE
    rcases (okf_type : okO (typeO s a).1 xIAE xISE) with ⟨x, h⟩ | h | h
    · rw [h] at hE; exact nomatch hE
    · rw [h] at hE; cases Sum.inr.inj hE; exact Or.inl ⟨rfl, 1, rfl, by rw [cdA_1] at hk; exact hk⟩
    · rw [h] at hE; cases Sum.inr.inj hE; exact Or.inr ⟨rfl, 2, rfl, by rw [cdA_2] at hk; exact hk⟩
theorem nz_type {s : wS} {a : Int32} : ∀ E, (typeO s a).1 = .inr E → ¬ cdA E = 0 := fun E hE => by
  rcases (okf_type : okO (typeO s a).1 xIAE xISE) with ⟨x, h⟩ | h | h
  · rw [h] at hE; exact nomatch hE
  · rw [h] at hE; cases Sum.inr.inj hE; rw [cdA_1]; decide
  · rw [h] at hE; cases Sum.inr.inj hE; rw [cdA_2]; decide
theorem okf_back {s : wS} : okO (backO s).1 xISE xISE := by
  unfold backO okO
  (repeat' split) <;> first | exact Or.inl ⟨_, rfl⟩ | exact Or.inr (Or.inl rfl) | exact Or.inr (Or.inr rfl)
theorem hl_back {d : Nat} (hd : 8 ≤ d) {B : pM} {I : pIm} {p r q n : Nat} {sc : Nat → Int32} {s : wS} {K : Int32 → pM → Prop} (hI : lawI B I p r q n sc s) (hb : pN B < pBIG) (hK : hlpO B I p q cdS (backO s).1 (backO s).2 K) : pCall_i d mL_back (1, 6) [.ref p, .ref q] (pset B I) K := by
  obtain ⟨⟨td, dr, h1, h2⟩, -, h3, -, -, -, -, h8, -⟩ := id hI
  refine CP_go (by omega) okL_back (Nat.le_of_ble_eq_true rfl) (bL_back_0 ⟨h1.1, (1, 6), Nat.le_refl _, Nat.le_refl _, ?_⟩)
  refine pad_x (p := p) (w := (backO s).1) (s' := (backO s).2) (fun Q hp => o_back (by omega) h1 h2 hb hp) ?_ (fun C J td2 dr2 hx hn hs hd2 hf => ⟨fun v hv => ?_, fun E hE => ?_⟩)
  · rcases (okf_back : okO (backO s).1 xISE xISE) with ⟨v, h⟩ | h | h <;> rw [h] <;> exact fun z => nomatch z
  · obtain ⟨x, rfl⟩ : ∃ x, v = .int x := by
      rcases (okf_back : okO (backO s).1 xISE xISE) with ⟨x, h⟩ | h | h
      · rw [h] at hv; exact ⟨x, (Option.some.inj (Sum.inl.inj hv)).symm⟩
      · rw [h] at hv; exact nomatch hv
      · rw [h] at hv; exact nomatch hv
    exact ⟨x, rfl, 1, (hx.2 q h8).1.trans h3, vp_inN (j := 0) (n := 1) (by decide) (by decide), 0, rfl, (hK C J td2 dr2 hx hn hs hd2 hf).1 x hv⟩
  · have hk := (hK C J td2 dr2 hx hn hs hd2 hf).2 E hE
    rcases (okf_back : okO (backO s).1 xISE xISE) with ⟨x, h⟩ | h | h
    · rw [h] at hE; exact nomatch hE
    · rw [h] at hE; cases Sum.inr.inj hE; exact ⟨rfl, 1, rfl, by rw [cdS_1] at hk; exact hk⟩
    · rw [h] at hE; cases Sum.inr.inj hE; exact ⟨rfl, 1, rfl, by rw [cdS_1] at hk; exact hk⟩
theorem nz_back {s : wS} : ∀ E, (backO s).1 = .inr E → ¬ cdS E = 0 := fun E hE => by
  rcases (okf_back : okO (backO s).1 xISE xISE) with ⟨x, h⟩ | h | h
  · rw [h] at hE; exact nomatch hE
  · rw [h] at hE; cases Sum.inr.inj hE; rw [cdS_1]; decide
  · rw [h] at hE; cases Sum.inr.inj hE; rw [cdS_1]; decide
theorem okf_take {s : wS} {a : Int32} : okO (takeO s a).1 xIOB xISE := by
  unfold takeO okO
  (repeat' split) <;> first | exact Or.inl ⟨_, rfl⟩ | exact Or.inr (Or.inl rfl) | exact Or.inr (Or.inr rfl)
theorem hl_take {d : Nat} (hd : 8 ≤ d) {B : pM} {I : pIm} {p r q n : Nat} {sc : Nat → Int32} {s : wS} {a : Int32} {K : Int32 → pM → Prop} (hI : lawI B I p r q n sc s) (hb : pN B < pBIG) (hK : hlpO B I p q cdB (takeO s a).1 (takeO s a).2 K) : pCall_i d mL_take (1, 6) [.ref p, .int a, .ref q] (pset B I) K := by
  obtain ⟨⟨td, dr, h1, h2⟩, -, h3, -, -, -, -, h8, -⟩ := id hI
  refine CP_go (by omega) okL_take (Nat.le_of_ble_eq_true rfl) (bL_take_0 ⟨h1.1, (1, 6), Nat.le_refl _, Nat.le_refl _, ?_⟩)
  refine pad_x (p := p) (w := (takeO s a).1) (s' := (takeO s a).2) (fun Q hp => o_take (by omega) h1 h2 hb hp) ?_ (fun C J td2 dr2 hx hn hs hd2 hf => ⟨fun v hv => ?_, fun E hE => ?_⟩)
  · rcases (okf_take : okO (takeO s a).1 xIOB xISE) with ⟨v, h⟩ | h | h <;> rw [h] <;> exact fun z => nomatch z
  · obtain ⟨x, rfl⟩ : ∃ x, v = .int x := by
      rcases (okf_take : okO (takeO s a).1 xIOB xISE) with ⟨x, h⟩ | h | h
      · rw [h] at hv; exact ⟨x, (Option.some.inj (Sum.inl.inj hv)).symm⟩
      · rw [h] at hv; exact nomatch hv
      · rw [h] at hv; exact nomatch hv
    exact ⟨x, rfl, 1, (hx.2 q h8).1.trans h3, vp_inN (j := 0) (n := 1) (by decide) (by decide), 0, rfl, (hK C J td2 dr2 hx hn hs hd2 hf).1 x hv⟩
  · have hk := (hK C J td2 dr2 hx hn hs hd2 hf).2 E hE
    rcases (okf_take : okO (takeO s a).1 xIOB xISE) with ⟨x, h⟩ | h | h
    · rw [h] at hE; exact nomatch hE
    · rw [h] at hE; cases Sum.inr.inj hE; exact Or.inl ⟨rfl, 1, rfl, by rw [cdB_1] at hk; exact hk⟩
    · rw [h] at hE; cases Sum.inr.inj hE; exact Or.inr ⟨rfl, 2, rfl, by rw [cdB_2] at hk; exact hk⟩
theorem nz_take {s : wS} {a : Int32} : ∀ E, (takeO s a).1 = .inr E → ¬ cdB E = 0 := fun E hE => by
  rcases (okf_take : okO (takeO s a).1 xIOB xISE) with ⟨x, h⟩ | h | h
  · rw [h] at hE; exact nomatch hE
  · rw [h] at hE; cases Sum.inr.inj hE; rw [cdB_1]; decide
  · rw [h] at hE; cases Sum.inr.inj hE; rw [cdB_2]; decide
theorem okf_say {s : wS} : okO (sayO s).1 xISE xISE := by
  unfold sayO okO
  (repeat' split) <;> first | exact Or.inl ⟨_, rfl⟩ | exact Or.inr (Or.inl rfl) | exact Or.inr (Or.inr rfl)
theorem hl_say {d : Nat} (hd : 8 ≤ d) {B : pM} {I : pIm} {p r q n : Nat} {sc : Nat → Int32} {s : wS} {K : Int32 → pM → Prop} (hI : lawI B I p r q n sc s) (hb : pN B < pBIG) (hK : hlpO B I p q cdS (sayO s).1 (sayO s).2 K) : pCall_i d mL_say (1, 6) [.ref p, .ref q] (pset B I) K := by
  obtain ⟨⟨td, dr, h1, h2⟩, -, h3, -, -, -, -, h8, -⟩ := id hI
  refine CP_go (by omega) okL_say (Nat.le_of_ble_eq_true rfl) (bL_say_0 ⟨h1.1, (1, 6), Nat.le_refl _, Nat.le_refl _, ?_⟩)
  refine pad_x (p := p) (w := (sayO s).1) (s' := (sayO s).2) (fun Q hp => o_say (by omega) h1 h2 hb hp) ?_ (fun C J td2 dr2 hx hn hs hd2 hf => ⟨fun v hv => ?_, fun E hE => ?_⟩)
  · rcases (okf_say : okO (sayO s).1 xISE xISE) with ⟨v, h⟩ | h | h <;> rw [h] <;> exact fun z => nomatch z
  · obtain ⟨x, rfl⟩ : ∃ x, v = .int x := by
      rcases (okf_say : okO (sayO s).1 xISE xISE) with ⟨x, h⟩ | h | h
      · rw [h] at hv; exact ⟨x, (Option.some.inj (Sum.inl.inj hv)).symm⟩
      · rw [h] at hv; exact nomatch hv
      · rw [h] at hv; exact nomatch hv
    exact ⟨x, rfl, 1, (hx.2 q h8).1.trans h3, vp_inN (j := 0) (n := 1) (by decide) (by decide), 0, rfl, (hK C J td2 dr2 hx hn hs hd2 hf).1 x hv⟩
  · have hk := (hK C J td2 dr2 hx hn hs hd2 hf).2 E hE
    rcases (okf_say : okO (sayO s).1 xISE xISE) with ⟨x, h⟩ | h | h
    · rw [h] at hE; exact nomatch hE
    · rw [h] at hE; cases Sum.inr.inj hE; exact ⟨rfl, 1, rfl, by rw [cdS_1] at hk; exact hk⟩
    · rw [h] at hE; cases Sum.inr.inj hE; exact ⟨rfl, 1, rfl, by rw [cdS_1] at hk; exact hk⟩
theorem nz_say {s : wS} : ∀ E, (sayO s).1 = .inr E → ¬ cdS E = 0 := fun E hE => by
  rcases (okf_say : okO (sayO s).1 xISE xISE) with ⟨x, h⟩ | h | h
  · rw [h] at hE; exact nomatch hE
  · rw [h] at hE; cases Sum.inr.inj hE; rw [cdS_1]; decide
  · rw [h] at hE; cases Sum.inr.inj hE; rw [cdS_1]; decide
theorem okf_setLimit {s : wS} {a : Int32} : okO (limO s a).1 xIAE xIAE := by
  unfold limO okO
  (repeat' split) <;> first | exact Or.inl ⟨_, rfl⟩ | exact Or.inr (Or.inl rfl) | exact Or.inr (Or.inr rfl)
theorem hl_setLimit {d : Nat} (hd : 8 ≤ d) {B : pM} {I : pIm} {p r q n : Nat} {sc : Nat → Int32} {s : wS} {a : Int32} {K : Int32 → pM → Prop} (hI : lawI B I p r q n sc s) (hb : pN B < pBIG) (hK : hlpO B I p q cdA (limO s a).1 (limO s a).2 K) : pCall_i d mL_setLimit (1, 6) [.ref p, .int a, .ref q] (pset B I) K := by
  obtain ⟨⟨td, dr, h1, h2⟩, -, h3, -, -, -, -, h8, -⟩ := id hI
  refine CP_go (by omega) okL_setLimit (Nat.le_of_ble_eq_true rfl) (bL_setLimit_0 ⟨h1.1, (1, 6), Nat.le_refl _, Nat.le_refl _, ?_⟩)
  refine pad_x (p := p) (w := (limO s a).1) (s' := (limO s a).2) (fun Q hp => o_setLimit (by omega) h1 h2 hb hp) ?_ (fun C J td2 dr2 hx hn hs hd2 hf => ⟨fun v hv => ?_, fun E hE => ?_⟩)
  · rcases (okf_setLimit : okO (limO s a).1 xIAE xIAE) with ⟨v, h⟩ | h | h <;> rw [h] <;> exact fun z => nomatch z
  · obtain ⟨x, rfl⟩ : ∃ x, v = .int x := by
      rcases (okf_setLimit : okO (limO s a).1 xIAE xIAE) with ⟨x, h⟩ | h | h
      · rw [h] at hv; exact ⟨x, (Option.some.inj (Sum.inl.inj hv)).symm⟩
      · rw [h] at hv; exact nomatch hv
      · rw [h] at hv; exact nomatch hv
    exact ⟨x, rfl, 1, (hx.2 q h8).1.trans h3, vp_inN (j := 0) (n := 1) (by decide) (by decide), 0, rfl, (hK C J td2 dr2 hx hn hs hd2 hf).1 x hv⟩
  · have hk := (hK C J td2 dr2 hx hn hs hd2 hf).2 E hE
    rcases (okf_setLimit : okO (limO s a).1 xIAE xIAE) with ⟨x, h⟩ | h | h
    · rw [h] at hE; exact nomatch hE
    · rw [h] at hE; cases Sum.inr.inj hE; exact ⟨rfl, 1, rfl, by rw [cdA_1] at hk; exact hk⟩
    · rw [h] at hE; cases Sum.inr.inj hE; exact ⟨rfl, 1, rfl, by rw [cdA_1] at hk; exact hk⟩
theorem nz_setLimit {s : wS} {a : Int32} : ∀ E, (limO s a).1 = .inr E → ¬ cdA E = 0 := fun E hE => by
  rcases (okf_setLimit : okO (limO s a).1 xIAE xIAE) with ⟨x, h⟩ | h | h
  · rw [h] at hE; exact nomatch hE
  · rw [h] at hE; cases Sum.inr.inj hE; rw [cdA_1]; decide
  · rw [h] at hE; cases Sum.inr.inj hE; rw [cdA_1]; decide
theorem okf_offer {s : wS} {a : Int32} : okO (offerO s a).1 xIOB xIOB := by
  unfold offerO okO
  (repeat' split) <;> first | exact Or.inl ⟨_, rfl⟩ | exact Or.inr (Or.inl rfl) | exact Or.inr (Or.inr rfl)
theorem hl_offer {d : Nat} (hd : 8 ≤ d) {B : pM} {I : pIm} {p r q n : Nat} {sc : Nat → Int32} {s : wS} {a : Int32} {K : Int32 → pM → Prop} (hI : lawI B I p r q n sc s) (hb : pN B < pBIG) (hK : hlpO B I p q cdB (offerO s a).1 (offerO s a).2 K) : pCall_i d mL_offer (1, 6) [.ref p, .int a, .ref q] (pset B I) K := by
  obtain ⟨⟨td, dr, h1, h2⟩, -, h3, -, -, -, -, h8, -⟩ := id hI
  refine CP_go (by omega) okL_offer (Nat.le_of_ble_eq_true rfl) (bL_offer_0 ⟨h1.1, (1, 6), Nat.le_refl _, Nat.le_refl _, ?_⟩)
  refine pad_x (p := p) (w := (offerO s a).1) (s' := (offerO s a).2) (fun Q hp => o_offer (by omega) h1 h2 hb hp) ?_ (fun C J td2 dr2 hx hn hs hd2 hf => ⟨fun v hv => ?_, fun E hE => ?_⟩)
  · rcases (okf_offer : okO (offerO s a).1 xIOB xIOB) with ⟨v, h⟩ | h | h <;> rw [h] <;> exact fun z => nomatch z
  · obtain ⟨x, rfl⟩ : ∃ x, v = .int x := by
      rcases (okf_offer : okO (offerO s a).1 xIOB xIOB) with ⟨x, h⟩ | h | h
      · rw [h] at hv; exact ⟨x, (Option.some.inj (Sum.inl.inj hv)).symm⟩
      · rw [h] at hv; exact nomatch hv
      · rw [h] at hv; exact nomatch hv
    exact ⟨x, rfl, 1, (hx.2 q h8).1.trans h3, vp_inN (j := 0) (n := 1) (by decide) (by decide), 0, rfl, (hK C J td2 dr2 hx hn hs hd2 hf).1 x hv⟩
  · have hk := (hK C J td2 dr2 hx hn hs hd2 hf).2 E hE
    rcases (okf_offer : okO (offerO s a).1 xIOB xIOB) with ⟨x, h⟩ | h | h
    · rw [h] at hE; exact nomatch hE
    · rw [h] at hE; cases Sum.inr.inj hE; exact ⟨rfl, 1, rfl, by rw [cdB_1] at hk; exact hk⟩
    · rw [h] at hE; cases Sum.inr.inj hE; exact ⟨rfl, 1, rfl, by rw [cdB_1] at hk; exact hk⟩
theorem nz_offer {s : wS} {a : Int32} : ∀ E, (offerO s a).1 = .inr E → ¬ cdB E = 0 := fun E hE => by
  rcases (okf_offer : okO (offerO s a).1 xIOB xIOB) with ⟨x, h⟩ | h | h
  · rw [h] at hE; exact nomatch hE
  · rw [h] at hE; cases Sum.inr.inj hE; rw [cdB_1]; decide
  · rw [h] at hE; cases Sum.inr.inj hE; rw [cdB_1]; decide
theorem okf_word {s : wS} {a b : Int32} : okO (wordO s a b).1 xIOB xIOB := by
  unfold wordO okO
  (repeat' split) <;> first | exact Or.inl ⟨_, rfl⟩ | exact Or.inr (Or.inl rfl) | exact Or.inr (Or.inr rfl)
theorem hl_word {d : Nat} (hd : 8 ≤ d) {B : pM} {I : pIm} {p r q n : Nat} {sc : Nat → Int32} {s : wS} {a b : Int32} {K : Int32 → pM → Prop} (hI : lawI B I p r q n sc s) (hb : pN B < pBIG) (hK : hlpO B I p q cdB (wordO s a b).1 (wordO s a b).2 K) : pCall_i d mL_word (1, 6) [.ref p, .int a, .int b, .ref q] (pset B I) K := by
  obtain ⟨⟨td, dr, h1, h2⟩, -, h3, -, -, -, -, h8, -⟩ := id hI
  refine CP_go (by omega) okL_word (Nat.le_of_ble_eq_true rfl) (bL_word_0 ⟨h1.1, (1, 6), Nat.le_refl _, Nat.le_refl _, ?_⟩)
  refine pad_x (p := p) (w := (wordO s a b).1) (s' := (wordO s a b).2) (fun Q hp => o_word (by omega) h1 h2 hb hp) ?_ (fun C J td2 dr2 hx hn hs hd2 hf => ⟨fun v hv => ?_, fun E hE => ?_⟩)
  · rcases (okf_word : okO (wordO s a b).1 xIOB xIOB) with ⟨v, h⟩ | h | h <;> rw [h] <;> exact fun z => nomatch z
  · obtain ⟨x, rfl⟩ : ∃ x, v = .int x := by
      rcases (okf_word : okO (wordO s a b).1 xIOB xIOB) with ⟨x, h⟩ | h | h
      · rw [h] at hv; exact ⟨x, (Option.some.inj (Sum.inl.inj hv)).symm⟩
      · rw [h] at hv; exact nomatch hv
      · rw [h] at hv; exact nomatch hv
    exact ⟨x, rfl, 1, (hx.2 q h8).1.trans h3, vp_inN (j := 0) (n := 1) (by decide) (by decide), 0, rfl, (hK C J td2 dr2 hx hn hs hd2 hf).1 x hv⟩
  · have hk := (hK C J td2 dr2 hx hn hs hd2 hf).2 E hE
    rcases (okf_word : okO (wordO s a b).1 xIOB xIOB) with ⟨x, h⟩ | h | h
    · rw [h] at hE; exact nomatch hE
    · rw [h] at hE; cases Sum.inr.inj hE; exact ⟨rfl, 1, rfl, by rw [cdB_1] at hk; exact hk⟩
    · rw [h] at hE; cases Sum.inr.inj hE; exact ⟨rfl, 1, rfl, by rw [cdB_1] at hk; exact hk⟩
theorem nz_word {s : wS} {a b : Int32} : ∀ E, (wordO s a b).1 = .inr E → ¬ cdB E = 0 := fun E hE => by
  rcases (okf_word : okO (wordO s a b).1 xIOB xIOB) with ⟨x, h⟩ | h | h
  · rw [h] at hE; exact nomatch hE
  · rw [h] at hE; cases Sum.inr.inj hE; rw [cdB_1]; decide
  · rw [h] at hE; cases Sum.inr.inj hE; rw [cdB_1]; decide
theorem okf_letter {s : wS} {a b : Int32} : okO (letterO s a b).1 xIOB xIOB := by
  unfold letterO okO
  (repeat' split) <;> first | exact Or.inl ⟨_, rfl⟩ | exact Or.inr (Or.inl rfl) | exact Or.inr (Or.inr rfl)
theorem hl_letter {d : Nat} (hd : 8 ≤ d) {B : pM} {I : pIm} {p r q n : Nat} {sc : Nat → Int32} {s : wS} {a b : Int32} {K : Int32 → pM → Prop} (hI : lawI B I p r q n sc s) (hb : pN B < pBIG) (hK : hlpO B I p q cdB (letterO s a b).1 (letterO s a b).2 K) : pCall_i d mL_letter (1, 6) [.ref p, .int a, .int b, .ref q] (pset B I) K := by
  obtain ⟨⟨td, dr, h1, h2⟩, -, h3, -, -, -, -, h8, -⟩ := id hI
  refine CP_go (by omega) okL_letter (Nat.le_of_ble_eq_true rfl) (bL_letter_0 ⟨h1.1, (1, 6), Nat.le_refl _, Nat.le_refl _, ?_⟩)
  refine pad_x (p := p) (w := (letterO s a b).1) (s' := (letterO s a b).2) (fun Q hp => o_letter (by omega) h1 h2 hb hp) ?_ (fun C J td2 dr2 hx hn hs hd2 hf => ⟨fun v hv => ?_, fun E hE => ?_⟩)
  · rcases (okf_letter : okO (letterO s a b).1 xIOB xIOB) with ⟨v, h⟩ | h | h <;> rw [h] <;> exact fun z => nomatch z
  · obtain ⟨x, rfl⟩ : ∃ x, v = .int x := by
      rcases (okf_letter : okO (letterO s a b).1 xIOB xIOB) with ⟨x, h⟩ | h | h
      · rw [h] at hv; exact ⟨x, (Option.some.inj (Sum.inl.inj hv)).symm⟩
      · rw [h] at hv; exact nomatch hv
      · rw [h] at hv; exact nomatch hv
    exact ⟨x, rfl, 1, (hx.2 q h8).1.trans h3, vp_inN (j := 0) (n := 1) (by decide) (by decide), 0, rfl, (hK C J td2 dr2 hx hn hs hd2 hf).1 x hv⟩
  · have hk := (hK C J td2 dr2 hx hn hs hd2 hf).2 E hE
    rcases (okf_letter : okO (letterO s a b).1 xIOB xIOB) with ⟨x, h⟩ | h | h
    · rw [h] at hE; exact nomatch hE
    · rw [h] at hE; cases Sum.inr.inj hE; exact ⟨rfl, 1, rfl, by rw [cdB_1] at hk; exact hk⟩
    · rw [h] at hE; cases Sum.inr.inj hE; exact ⟨rfl, 1, rfl, by rw [cdB_1] at hk; exact hk⟩
theorem nz_letter {s : wS} {a b : Int32} : ∀ E, (letterO s a b).1 = .inr E → ¬ cdB E = 0 := fun E hE => by
  rcases (okf_letter : okO (letterO s a b).1 xIOB xIOB) with ⟨x, h⟩ | h | h
  · rw [h] at hE; exact nomatch hE
  · rw [h] at hE; cases Sum.inr.inj hE; rw [cdB_1]; decide
  · rw [h] at hE; cases Sum.inr.inj hE; rw [cdB_1]; decide
theorem okf_strokes {s : wS} {a : Int32} : okO (strokesO s a).1 xIOB xIOB := by
  unfold strokesO okO
  (repeat' split) <;> first | exact Or.inl ⟨_, rfl⟩ | exact Or.inr (Or.inl rfl) | exact Or.inr (Or.inr rfl)
theorem hl_strokes {d : Nat} (hd : 8 ≤ d) {B : pM} {I : pIm} {p r q n : Nat} {sc : Nat → Int32} {s : wS} {a : Int32} {K : Int32 → pM → Prop} (hI : lawI B I p r q n sc s) (hb : pN B < pBIG) (hK : hlpO B I p q cdB (strokesO s a).1 (strokesO s a).2 K) : pCall_i d mL_strokes (1, 6) [.ref p, .int a, .ref q] (pset B I) K := by
  obtain ⟨⟨td, dr, h1, h2⟩, -, h3, -, -, -, -, h8, -⟩ := id hI
  refine CP_go (by omega) okL_strokes (Nat.le_of_ble_eq_true rfl) (bL_strokes_0 ⟨h1.1, (1, 6), Nat.le_refl _, Nat.le_refl _, ?_⟩)
  refine pad_x (p := p) (w := (strokesO s a).1) (s' := (strokesO s a).2) (fun Q hp => o_strokes (by omega) h1 h2 hb hp) ?_ (fun C J td2 dr2 hx hn hs hd2 hf => ⟨fun v hv => ?_, fun E hE => ?_⟩)
  · rcases (okf_strokes : okO (strokesO s a).1 xIOB xIOB) with ⟨v, h⟩ | h | h <;> rw [h] <;> exact fun z => nomatch z
  · obtain ⟨x, rfl⟩ : ∃ x, v = .int x := by
      rcases (okf_strokes : okO (strokesO s a).1 xIOB xIOB) with ⟨x, h⟩ | h | h
      · rw [h] at hv; exact ⟨x, (Option.some.inj (Sum.inl.inj hv)).symm⟩
      · rw [h] at hv; exact nomatch hv
      · rw [h] at hv; exact nomatch hv
    exact ⟨x, rfl, 1, (hx.2 q h8).1.trans h3, vp_inN (j := 0) (n := 1) (by decide) (by decide), 0, rfl, (hK C J td2 dr2 hx hn hs hd2 hf).1 x hv⟩
  · have hk := (hK C J td2 dr2 hx hn hs hd2 hf).2 E hE
    rcases (okf_strokes : okO (strokesO s a).1 xIOB xIOB) with ⟨x, h⟩ | h | h
    · rw [h] at hE; exact nomatch hE
    · rw [h] at hE; cases Sum.inr.inj hE; exact ⟨rfl, 1, rfl, by rw [cdB_1] at hk; exact hk⟩
    · rw [h] at hE; cases Sum.inr.inj hE; exact ⟨rfl, 1, rfl, by rw [cdB_1] at hk; exact hk⟩
theorem nz_strokes {s : wS} {a : Int32} : ∀ E, (strokesO s a).1 = .inr E → ¬ cdB E = 0 := fun E hE => by
  rcases (okf_strokes : okO (strokesO s a).1 xIOB xIOB) with ⟨x, h⟩ | h | h
  · rw [h] at hE; exact nomatch hE
  · rw [h] at hE; cases Sum.inr.inj hE; rw [cdB_1]; decide
  · rw [h] at hE; cases Sum.inr.inj hE; rw [cdB_1]; decide
theorem okf_needs {s : wS} {a : Int32} : okO (needsO s a).1 xIOB xIOB := by
  unfold needsO okO
  (repeat' split) <;> first | exact Or.inl ⟨_, rfl⟩ | exact Or.inr (Or.inl rfl) | exact Or.inr (Or.inr rfl)
theorem hl_needs {d : Nat} (hd : 8 ≤ d) {B : pM} {I : pIm} {p r q n : Nat} {sc : Nat → Int32} {s : wS} {a : Int32} {K : Int32 → pM → Prop} (hI : lawI B I p r q n sc s) (hb : pN B < pBIG) (hK : hlpO B I p q cdB (needsO s a).1 (needsO s a).2 K) : pCall_i d mL_needs (1, 6) [.ref p, .int a, .ref q] (pset B I) K := by
  obtain ⟨⟨td, dr, h1, h2⟩, -, h3, -, -, -, -, h8, -⟩ := id hI
  refine CP_go (by omega) okL_needs (Nat.le_of_ble_eq_true rfl) (bL_needs_0 ⟨h1.1, (1, 6), Nat.le_refl _, Nat.le_refl _, ?_⟩)
  refine pad_x (p := p) (w := (needsO s a).1) (s' := (needsO s a).2) (fun Q hp => o_needs (by omega) h1 h2 hb hp) ?_ (fun C J td2 dr2 hx hn hs hd2 hf => ⟨fun v hv => ?_, fun E hE => ?_⟩)
  · rcases (okf_needs : okO (needsO s a).1 xIOB xIOB) with ⟨v, h⟩ | h | h <;> rw [h] <;> exact fun z => nomatch z
  · obtain ⟨x, rfl⟩ : ∃ x, v = .int x := by
      rcases (okf_needs : okO (needsO s a).1 xIOB xIOB) with ⟨x, h⟩ | h | h
      · rw [h] at hv; exact ⟨x, (Option.some.inj (Sum.inl.inj hv)).symm⟩
      · rw [h] at hv; exact nomatch hv
      · rw [h] at hv; exact nomatch hv
    exact ⟨x, rfl, 1, (hx.2 q h8).1.trans h3, vp_inN (j := 0) (n := 1) (by decide) (by decide), 0, rfl, (hK C J td2 dr2 hx hn hs hd2 hf).1 x hv⟩
  · have hk := (hK C J td2 dr2 hx hn hs hd2 hf).2 E hE
    rcases (okf_needs : okO (needsO s a).1 xIOB xIOB) with ⟨x, h⟩ | h | h
    · rw [h] at hE; exact nomatch hE
    · rw [h] at hE; cases Sum.inr.inj hE; exact ⟨rfl, 1, rfl, by rw [cdB_1] at hk; exact hk⟩
    · rw [h] at hE; cases Sum.inr.inj hE; exact ⟨rfl, 1, rfl, by rw [cdB_1] at hk; exact hk⟩
theorem nz_needs {s : wS} {a : Int32} : ∀ E, (needsO s a).1 = .inr E → ¬ cdB E = 0 := fun E hE => by
  rcases (okf_needs : okO (needsO s a).1 xIOB xIOB) with ⟨x, h⟩ | h | h
  · rw [h] at hE; exact nomatch hE
  · rw [h] at hE; cases Sum.inr.inj hE; rw [cdB_1]; decide
  · rw [h] at hE; cases Sum.inr.inj hE; rw [cdB_1]; decide
theorem okf_closest {s : wS} {a : Int32} : okO (closestO s a).1 xIOB xIOB := by
  unfold closestO okO
  (repeat' split) <;> first | exact Or.inl ⟨_, rfl⟩ | exact Or.inr (Or.inl rfl) | exact Or.inr (Or.inr rfl)
theorem hl_closest {d : Nat} (hd : 8 ≤ d) {B : pM} {I : pIm} {p r q n : Nat} {sc : Nat → Int32} {s : wS} {a : Int32} {K : Int32 → pM → Prop} (hI : lawI B I p r q n sc s) (hb : pN B < pBIG) (hK : hlpO B I p q cdB (closestO s a).1 (closestO s a).2 K) : pCall_i d mL_closest (1, 6) [.ref p, .int a, .ref q] (pset B I) K := by
  obtain ⟨⟨td, dr, h1, h2⟩, -, h3, -, -, -, -, h8, -⟩ := id hI
  refine CP_go (by omega) okL_closest (Nat.le_of_ble_eq_true rfl) (bL_closest_0 ⟨h1.1, (1, 6), Nat.le_refl _, Nat.le_refl _, ?_⟩)
  refine pad_x (p := p) (w := (closestO s a).1) (s' := (closestO s a).2) (fun Q hp => o_closest (by omega) h1 h2 hb hp) ?_ (fun C J td2 dr2 hx hn hs hd2 hf => ⟨fun v hv => ?_, fun E hE => ?_⟩)
  · rcases (okf_closest : okO (closestO s a).1 xIOB xIOB) with ⟨v, h⟩ | h | h <;> rw [h] <;> exact fun z => nomatch z
  · obtain ⟨x, rfl⟩ : ∃ x, v = .int x := by
      rcases (okf_closest : okO (closestO s a).1 xIOB xIOB) with ⟨x, h⟩ | h | h
      · rw [h] at hv; exact ⟨x, (Option.some.inj (Sum.inl.inj hv)).symm⟩
      · rw [h] at hv; exact nomatch hv
      · rw [h] at hv; exact nomatch hv
    exact ⟨x, rfl, 1, (hx.2 q h8).1.trans h3, vp_inN (j := 0) (n := 1) (by decide) (by decide), 0, rfl, (hK C J td2 dr2 hx hn hs hd2 hf).1 x hv⟩
  · have hk := (hK C J td2 dr2 hx hn hs hd2 hf).2 E hE
    rcases (okf_closest : okO (closestO s a).1 xIOB xIOB) with ⟨x, h⟩ | h | h
    · rw [h] at hE; exact nomatch hE
    · rw [h] at hE; cases Sum.inr.inj hE; exact ⟨rfl, 1, rfl, by rw [cdB_1] at hk; exact hk⟩
    · rw [h] at hE; cases Sum.inr.inj hE; exact ⟨rfl, 1, rfl, by rw [cdB_1] at hk; exact hk⟩
theorem nz_closest {s : wS} {a : Int32} : ∀ E, (closestO s a).1 = .inr E → ¬ cdB E = 0 := fun E hE => by
  rcases (okf_closest : okO (closestO s a).1 xIOB xIOB) with ⟨x, h⟩ | h | h
  · rw [h] at hE; exact nomatch hE
  · rw [h] at hE; cases Sum.inr.inj hE; rw [cdB_1]; decide
  · rw [h] at hE; cases Sum.inr.inj hE; rw [cdB_1]; decide
