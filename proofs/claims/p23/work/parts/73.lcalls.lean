/-! THE LAW'S CALLS -/
theorem J_cnt {d : Nat} (hd : 7 ≤ d) {B : pM} {I : pIm} {p n : Nat} {sc : Nat → Int32} {s : wS} {k : Int32} {v : Int32} {K : Int32 → pM → Prop} (h : lawJ B I p n sc s) (hb : pN B < pBIG) (hv : countO s k = (rI v, s)) (hK : ∀ (M1 B' : pM) (I' : pIm), keepM (pset B I) M1 = pset B' I' → lawJ B' I' p n sc s → pN B ≤ pN B' → pN B' ≤ pN B + 1 → K v M1) : pCall_i d mX11_count (1, 6) [.ref p, .int k] (pset B I) K :=
  h.i hb (fun _ _ _ ps pd ho => o_count (by omega) ps pd hb (by rw [hv]; exact ho)) hK
theorem J_word {d : Nat} (hd : 7 ≤ d) {B : pM} {I : pIm} {p n : Nat} {sc : Nat → Int32} {s : wS} {a k : Int32} {v : Int32} {K : Int32 → pM → Prop} (h : lawJ B I p n sc s) (hb : pN B < pBIG) (hv : wordO s a k = (rI v, s)) (hK : ∀ (M1 B' : pM) (I' : pIm), keepM (pset B I) M1 = pset B' I' → lawJ B' I' p n sc s → pN B ≤ pN B' → pN B' ≤ pN B + 1 → K v M1) : pCall_i d mX11_word (1, 6) [.ref p, .int a, .int k] (pset B I) K :=
  h.i hb (fun _ _ _ ps pd ho => o_word (by omega) ps pd hb (by rw [hv]; exact ho)) hK
theorem J_offer {d : Nat} (hd : 7 ≤ d) {B : pM} {I : pIm} {p n : Nat} {sc : Nat → Int32} {s : wS} {k : Int32} {v : Int32} {K : Int32 → pM → Prop} (h : lawJ B I p n sc s) (hb : pN B < pBIG) (hv : offerO s k = (rI v, s)) (hK : ∀ (M1 B' : pM) (I' : pIm), keepM (pset B I) M1 = pset B' I' → lawJ B' I' p n sc s → pN B ≤ pN B' → pN B' ≤ pN B + 1 → K v M1) : pCall_i d mX11_offer (1, 6) [.ref p, .int k] (pset B I) K :=
  h.i hb (fun _ _ _ ps pd ho => o_offer (by omega) ps pd hb (by rw [hv]; exact ho)) hK
theorem J_needs {d : Nat} (hd : 7 ≤ d) {B : pM} {I : pIm} {p n : Nat} {sc : Nat → Int32} {s : wS} {a : Int32} {v : Int32} {K : Int32 → pM → Prop} (h : lawJ B I p n sc s) (hb : pN B < pBIG) (hv : needsO s a = (rI v, s)) (hK : ∀ (M1 B' : pM) (I' : pIm), keepM (pset B I) M1 = pset B' I' → lawJ B' I' p n sc s → pN B ≤ pN B' → pN B' ≤ pN B + 1 → K v M1) : pCall_i d mX11_needs (1, 6) [.ref p, .int a] (pset B I) K :=
  h.i hb (fun _ _ _ ps pd ho => o_needs (by omega) ps pd hb (by rw [hv]; exact ho)) hK
theorem J_strokes {d : Nat} (hd : 7 ≤ d) {B : pM} {I : pIm} {p n : Nat} {sc : Nat → Int32} {s : wS} {a : Int32} {v : Int32} {K : Int32 → pM → Prop} (h : lawJ B I p n sc s) (hb : pN B < pBIG) (hv : strokesO s a = (rI v, s)) (hK : ∀ (M1 B' : pM) (I' : pIm), keepM (pset B I) M1 = pset B' I' → lawJ B' I' p n sc s → pN B ≤ pN B' → pN B' ≤ pN B + 1 → K v M1) : pCall_i d mX11_strokes (1, 6) [.ref p, .int a] (pset B I) K :=
  h.i hb (fun _ _ _ ps pd ho => o_strokes (by omega) ps pd hb (by rw [hv]; exact ho)) hK
theorem J_closest {d : Nat} (hd : 7 ≤ d) {B : pM} {I : pIm} {p n : Nat} {sc : Nat → Int32} {s : wS} {a : Int32} {v : Int32} {K : Int32 → pM → Prop} (h : lawJ B I p n sc s) (hb : pN B < pBIG) (hv : closestO s a = (rI v, s)) (hK : ∀ (M1 B' : pM) (I' : pIm), keepM (pset B I) M1 = pset B' I' → lawJ B' I' p n sc s → pN B ≤ pN B' → pN B' ≤ pN B + 1 → K v M1) : pCall_i d mX11_closest (1, 6) [.ref p, .int a] (pset B I) K :=
  h.i hb (fun _ _ _ ps pd ho => o_closest (by omega) ps pd hb (by rw [hv]; exact ho)) hK
theorem J_type {d : Nat} (hd : 3 ≤ d) {B : pM} {I : pIm} {p n : Nat} {sc : Nat → Int32} {s : wS} {s2 : wS} {k : Int32} {v : Int32} {K : Int32 → pM → Prop} (h : lawJ B I p n sc s) (hb : pN B < pBIG) (hv : typeO s k = (rI v, s2)) (hK : ∀ (M1 B' : pM) (I' : pIm), keepM (pset B I) M1 = pset B' I' → lawJ B' I' p n sc s2 → pN B ≤ pN B' → pN B' ≤ pN B + 1 → K v M1) : pCall_i d mX11_type (1, 6) [.ref p, .int k] (pset B I) K :=
  h.i hb (fun _ _ _ ps pd ho => o_type (by omega) ps pd hb (by rw [hv]; exact ho)) hK
theorem J_back {d : Nat} (hd : 3 ≤ d) {B : pM} {I : pIm} {p n : Nat} {sc : Nat → Int32} {s : wS} {s2 : wS} {v : Int32} {K : Int32 → pM → Prop} (h : lawJ B I p n sc s) (hb : pN B < pBIG) (hv : backO s = (rI v, s2)) (hK : ∀ (M1 B' : pM) (I' : pIm), keepM (pset B I) M1 = pset B' I' → lawJ B' I' p n sc s2 → pN B ≤ pN B' → pN B' ≤ pN B + 1 → K v M1) : pCall_i d mX11_back (1, 6) [.ref p] (pset B I) K :=
  h.i hb (fun _ _ _ ps pd ho => o_back (by omega) ps pd hb (by rw [hv]; exact ho)) hK
theorem J_take {d : Nat} (hd : 7 ≤ d) {B : pM} {I : pIm} {p n : Nat} {sc : Nat → Int32} {s : wS} {s2 : wS} {k : Int32} {v : Int32} {K : Int32 → pM → Prop} (h : lawJ B I p n sc s) (hb : pN B < pBIG) (hv : takeO s k = (rI v, s2)) (hK : ∀ (M1 B' : pM) (I' : pIm), keepM (pset B I) M1 = pset B' I' → lawJ B' I' p n sc s2 → pN B ≤ pN B' → pN B' ≤ pN B + 1 → K v M1) : pCall_i d mX11_take (1, 6) [.ref p, .int k] (pset B I) K :=
  h.i hb (fun _ _ _ ps pd ho => o_take (by omega) ps pd hb (by rw [hv]; exact ho)) hK
theorem J_limit {d : Nat} (hd : 3 ≤ d) {B : pM} {I : pIm} {p n : Nat} {sc : Nat → Int32} {s : wS} {s2 : wS} {k : Int32} {v : Int32} {K : Int32 → pM → Prop} (h : lawJ B I p n sc s) (hb : pN B < pBIG) (hv : limO s k = (rI v, s2)) (hK : ∀ (M1 B' : pM) (I' : pIm), keepM (pset B I) M1 = pset B' I' → lawJ B' I' p n sc s2 → pN B ≤ pN B' → pN B' ≤ pN B + 1 → K v M1) : pCall_i d mX11_setLimit (1, 6) [.ref p, .int k] (pset B I) K :=
  h.i hb (fun _ _ _ ps pd ho => o_setLimit (by omega) ps pd hb (by rw [hv]; exact ho)) hK
theorem J_best {d : Nat} (hd : 7 ≤ d) {B : pM} {I : pIm} {p n : Nat} {sc : Nat → Int32} {s : wS} {K : Int32 → pM → Prop} (h : lawJ B I p n sc s) (hb : pN B < pBIG) (hK : ∀ (M1 B' : pM) (I' : pIm), keepM (pset B I) M1 = pset B' I' → lawJ B' I' p n sc s → pN B ≤ pN B' → pN B' ≤ pN B + 1 → K (bestI s 26).1 M1) : pCall_i d mX11_best (0, 0) [.ref p] (pset B I) K :=
  h.i hb (fun _ _ _ ps pd ho => o_best (by omega) ps pd ho) hK
theorem J_digest {d : Nat} (hd : 7 ≤ d) {B : pM} {I : pIm} {p n : Nat} {sc : Nat → Int32} {s : wS} {K : Int64 → pM → Prop} (h : lawJ B I p n sc s) (hb : pN B < pBIG) (hK : ∀ (M1 B' : pM) (I' : pIm), keepM (pset B I) M1 = pset B' I' → lawJ B' I' p n sc s → pN B ≤ pN B' → pN B' ≤ pN B + 1 → K (digI s) M1) : pCall_l d mX11_digest (0, 0) [.ref p] (pset B I) K :=
  h.go hb (fun _ _ _ ps pd ho => o_digest (by omega) ps pd ho) (fun _ _ B' I' e k a b => ⟨_, rfl, hK _ B' I' e k a b⟩)
/-- the pad of the law as it stands in a round -/
def lwS (tp : List Int32) (er : Int32) (sc : Nat → Int32) (n : Nat) (wt ty : List Int32) (tk la : Int32) (l : Nat) : wS := (tp, er, BKs sc n wt, ty, tk, la, nI l)
theorem lc_0 {tp : List Int32} {er : Int32} {sc : Nat → Int32} {n : Nat} {wt ty : List Int32} {tk la : Int32} {l : Nat} : countO (lwS tp er sc n wt ty tk la l) 0 = (rI (nI 6), lwS tp er sc n wt ty tk la l) := by
  unfold countO figI
  rw [if_neg (by decide), if_pos (by decide), if_pos rfl]
  rfl
theorem lc_4 {tp : List Int32} {er : Int32} {sc : Nat → Int32} {n : Nat} {wt ty : List Int32} {tk la : Int32} {l : Nat} : countO (lwS tp er sc n wt ty tk la l) 4 = (rI (nI ty.length), lwS tp er sc n wt ty tk la l) := by
  unfold countO figI
  rw [if_neg (by decide), if_pos (by decide), if_neg (by decide), if_neg (by decide), if_neg (by decide), if_neg (by decide), if_pos rfl]
  rfl
theorem lc_6 {tp : List Int32} {er : Int32} {sc : Nat → Int32} {n : Nat} {wt ty : List Int32} {tk la : Int32} {l : Nat} : countO (lwS tp er sc n wt ty tk la l) 6 = (rI (nI l), lwS tp er sc n wt ty tk la l) := by
  unfold countO figI
  rw [if_neg (by decide), if_pos (by decide), if_neg (by decide), if_neg (by decide), if_neg (by decide), if_neg (by decide), if_neg (by decide), if_neg (by decide), if_pos rfl]
  rfl
theorem lc_8 {tp : List Int32} {er : Int32} {sc : Nat → Int32} {n : Nat} {wt ty : List Int32} {tk la : Int32} {l : Nat} : countO (lwS tp er sc n wt ty tk la l) 8 = (rI ((rkB sc n wt ty tk la l).2.2.2.2), lwS tp er sc n wt ty tk la l) := by
  unfold countO figI
  rw [if_neg (by decide), if_pos (by decide), if_neg (by decide), if_neg (by decide), if_neg (by decide), if_neg (by decide), if_neg (by decide), if_neg (by decide), if_neg (by decide), if_neg (by decide), if_pos rfl]
  rfl
theorem lc_9 {tp : List Int32} {er : Int32} {sc : Nat → Int32} {n : Nat} {wt ty : List Int32} {tk la : Int32} {l : Nat} : countO (lwS tp er sc n wt ty tk la l) 9 = (rI (nI (begN ty (wsL sc n))), lwS tp er sc n wt ty tk la l) := by
  unfold countO figI
  rw [if_neg (by decide), if_pos (by decide), if_neg (by decide), if_neg (by decide), if_neg (by decide), if_neg (by decide), if_neg (by decide), if_neg (by decide), if_neg (by decide), if_neg (by decide), if_neg (by decide), if_pos rfl]
  rfl
theorem inW6 {k : Nat} (h : k < 6) : ¬ inW 6 (nI k) = 0 := by
  unfold inW
  rw [if_neg (nI_pos (by omega)), if_neg (nI_ge h (by omega))]
  decide
theorem ww_ok {tp : List Int32} {er : Int32} {sc : Nat → Int32} {n : Nat} {wt ty : List Int32} {tk la : Int32} {l : Nat} {k : Nat} {j : Int32} (hk : k < 6) (h0 : ¬ j < 0) (h6 : j < 6) : wordO (lwS tp er sc n wt ty tk la l) (nI k) j = (rI (wfI (lwS tp er sc n wt ty tk la l) (nI k) j), lwS tp er sc n wt ty tk la l) := by
  unfold wordO
  rw [if_neg (show ¬ inW (lwS tp er sc n wt ty tk la l).2.2.1.2.1.length (nI k) = 0 from inW6 hk), if_neg h0, if_pos h6]
theorem ww_0 {tp : List Int32} {er : Int32} {sc : Nat → Int32} {n : Nat} {wt ty : List Int32} {tk la : Int32} {l : Nat} {k : Nat} (hk : k < 6) : wordO (lwS tp er sc n wt ty tk la l) (nI k) 0 = (rI (rat wt (nI k)), lwS tp er sc n wt ty tk la l) := by
  rw [ww_ok hk (by decide) (by decide)]
  unfold wfI
  rw [if_pos rfl]
  rfl
theorem ww_2 {tp : List Int32} {er : Int32} {sc : Nat → Int32} {n : Nat} {wt ty : List Int32} {tk la : Int32} {l : Nat} {k : Nat} (hk : k < 6) : wordO (lwS tp er sc n wt ty tk la l) (nI k) 2 = (rI (nI (lat (wsL sc n) (nI k)).length), lwS tp er sc n wt ty tk la l) := by
  rw [ww_ok hk (by decide) (by decide)]
  unfold wfI
  rw [if_neg (by decide), if_neg (by decide), if_pos rfl]
  rfl
theorem ww_3 {tp : List Int32} {er : Int32} {sc : Nat → Int32} {n : Nat} {wt ty : List Int32} {tk la : Int32} {l : Nat} {k : Nat} (hk : k < 6) : wordO (lwS tp er sc n wt ty tk la l) (nI k) 3 = (rI (rat (rkB sc n wt ty tk la l).1 (nI k)), lwS tp er sc n wt ty tk la l) := by
  rw [ww_ok hk (by decide) (by decide)]
  unfold wfI
  rw [if_neg (by decide), if_neg (by decide), if_neg (by decide), if_pos rfl]
  rfl
theorem ww_4 {tp : List Int32} {er : Int32} {sc : Nat → Int32} {n : Nat} {wt ty : List Int32} {tk la : Int32} {l : Nat} {k : Nat} (hk : k < 6) : wordO (lwS tp er sc n wt ty tk la l) (nI k) 4 = (rI (rat (rkB sc n wt ty tk la l).2.1 (nI k)), lwS tp er sc n wt ty tk la l) := by
  rw [ww_ok hk (by decide) (by decide)]
  unfold wfI
  rw [if_neg (by decide), if_neg (by decide), if_neg (by decide), if_neg (by decide), if_pos rfl]
  rfl
theorem ww_5 {tp : List Int32} {er : Int32} {sc : Nat → Int32} {n : Nat} {wt ty : List Int32} {tk la : Int32} {l : Nat} {k : Nat} (hk : k < 6) : wordO (lwS tp er sc n wt ty tk la l) (nI k) 5 = (rI (rat (rkB sc n wt ty tk la l).2.2.1 (nI k)), lwS tp er sc n wt ty tk la l) := by
  rw [ww_ok hk (by decide) (by decide)]
  unfold wfI
  rw [if_neg (by decide), if_neg (by decide), if_neg (by decide), if_neg (by decide), if_neg (by decide)]
  rfl
theorem wo_ok {tp : List Int32} {er : Int32} {sc : Nat → Int32} {n : Nat} {wt ty : List Int32} {tk la : Int32} {l : Nat} {q : Nat} (hq : q < 5) : offerO (lwS tp er sc n wt ty tk la l) (nI q) = (rI (rat (rkB sc n wt ty tk la l).2.2.2.1 (nI q)), lwS tp er sc n wt ty tk la l) := by
  unfold offerO
  rw [if_neg (nI_pos (by omega)), if_pos (show nI q < 5 from nI_lt (b := 5) hq (by decide))]
  rfl
theorem wn_ok {tp : List Int32} {er : Int32} {sc : Nat → Int32} {n : Nat} {wt ty : List Int32} {tk la : Int32} {l : Nat} {k : Nat} (hk : k < 6) : needsO (lwS tp er sc n wt ty tk la l) (nI k) = (rI (needI (lwS tp er sc n wt ty tk la l) (nI k)), lwS tp er sc n wt ty tk la l) := if_neg (show ¬ inW (lwS tp er sc n wt ty tk la l).2.2.1.2.1.length (nI k) = 0 from inW6 hk)
theorem ws_ok {tp : List Int32} {er : Int32} {sc : Nat → Int32} {n : Nat} {wt ty : List Int32} {tk la : Int32} {l : Nat} {k : Nat} (hk : k < 6) : strokesO (lwS tp er sc n wt ty tk la l) (nI k) = (rI (stI (BKs sc n wt) tk la (nI l) (nI k) (lat (wsL sc n) (nI k)) (lat (wsL sc n) (nI k)).length 0), lwS tp er sc n wt ty tk la l) := if_neg (show ¬ inW (lwS tp er sc n wt ty tk la l).2.2.1.2.1.length (nI k) = 0 from inW6 hk)
theorem wc_ok {tp : List Int32} {er : Int32} {sc : Nat → Int32} {n : Nat} {wt ty : List Int32} {tk la : Int32} {l : Nat} {k : Nat} (hk : k < 6) : closestO (lwS tp er sc n wt ty tk la l) (nI k) = (rI (clI (BKs sc n wt) (nI k) 6), lwS tp er sc n wt ty tk la l) := if_neg (show ¬ inW (lwS tp er sc n wt ty tk la l).2.2.1.2.1.length (nI k) = 0 from inW6 hk)
