/-! THE MEAN IS A NUMBER -/
def okD : FP.Core.Datum → Prop
  | .nan => False
  | .inf _ => True
  | .fin _ c q => c < 9007199254740992 ∧ q ≤ FP.Core.b64.qmax
theorem b64_tails : FP.Core.b64.tails = 4503599627370496 := by decide +kernel
theorem b64_exps : FP.Core.b64.exps = 2048 := by decide +kernel
theorem b64_qmin : FP.Core.b64.qmin = -1074 := by decide +kernel
theorem b64_qmax : FP.Core.b64.qmax = 971 := by decide +kernel
theorem b64_p : 2 ^ FP.Core.b64.p = 9007199254740992 := by decide +kernel
theorem bool_le (s : Bool) : s.toNat = 0 ∨ s.toNat = 1 := by cases s <;> simp
theorem n64_of {r : UInt64} (h : r.toNat % 9223372036854775808 ≤ 9218868437227405312) : vf_n64 r := by
  unfold vf_n64
  rw [UInt64.le_iff_toNat_le, UInt64.toNat_and]
  have e1 : (0x7fffffffffffffff : UInt64).toNat = 2 ^ 63 - 1 := by decide +kernel
  have e2 : (0x7ff0000000000000 : UInt64).toNat = 9218868437227405312 := by decide +kernel
  rw [e1, e2, Nat.and_two_pow_sub_one_eq_mod]
  exact h
theorem n64_get {r : UInt64} (h : vf_n64 r) : r.toNat % 9223372036854775808 ≤ 9218868437227405312 := by
  unfold vf_n64 at h
  rw [UInt64.le_iff_toNat_le, UInt64.toNat_and] at h
  have e1 : (0x7fffffffffffffff : UInt64).toNat = 2 ^ 63 - 1 := by decide +kernel
  have e2 : (0x7ff0000000000000 : UInt64).toNat = 9218868437227405312 := by decide +kernel
  rw [e1, e2, Nat.and_two_pow_sub_one_eq_mod] at h
  exact h
theorem enc_n64 {d : FP.Core.Datum} (h : okD d) : vf_n64 (UInt64.ofNat (FP.Core.encode FP.Core.b64 d)) := by
  refine n64_of ?_
  rw [UInt64.toNat_ofNat']
  cases d with
  | nan => exact h.elim
  | inf s =>
    show (FP.Core.assemble FP.Core.b64 s (FP.Core.b64.exps - 1) 0) % 2 ^ 64 % 9223372036854775808 ≤ 9218868437227405312
    unfold FP.Core.assemble
    rw [b64_tails, b64_exps]
    rcases bool_le s with e | e <;> rw [e] <;> decide +kernel
  | fin s c q =>
    obtain ⟨h1, h2⟩ := h
    show (if c < FP.Core.b64.tails then FP.Core.assemble FP.Core.b64 s 0 c else FP.Core.assemble FP.Core.b64 s ((q - FP.Core.b64.qmin).toNat + 1) (c - FP.Core.b64.tails)) % 2 ^ 64 % 9223372036854775808 ≤ 9218868437227405312
    unfold FP.Core.assemble
    rw [b64_tails, b64_exps, b64_qmin]
    rw [b64_qmax] at h2
    split
    · rcases bool_le s with e | e <;> rw [e] <;> omega
    · have h3 : (q - -1074).toNat ≤ 2045 := by omega
      generalize (q - -1074).toNat = e at h3
      rcases bool_le s with g | g <;> rw [g] <;> omega
theorem dec_num {r : UInt64} (h : vf_n64 r) : FP.Core.decode FP.Core.b64 r.toNat ≠ .nan := by
  have h1 := n64_get h
  unfold FP.Core.decode FP.Core.fieldE FP.Core.fieldT
  rw [b64_tails, b64_exps]
  split
  · split
    · exact fun z => nomatch z
    · exfalso; omega
  · split
    · exact fun z => nomatch z
    · exact fun z => nomatch z
theorem bnd_ok {s : Bool} {c : Nat} {q : Int} (h : c < 9007199254740992) : okD (FP.Core.bound FP.Core.b64 s c q) := by
  unfold FP.Core.bound
  split
  · exact ⟨h, by assumption⟩
  · exact trivial
theorem rr_ok {s : Bool} {a b : Nat} {e : Int} : okD (FP.Core.roundRatio FP.Core.b64 s a b e) := by
  unfold FP.Core.roundRatio
  split
  · exact ⟨by decide, by rw [b64_qmin, b64_qmax]; decide⟩
  · unfold FP.Core.roundAt FP.Core.settle
    split
    · rename_i h
      rw [b64_p] at h
      exact bnd_ok h
    · exact bnd_ok (by rw [b64_tails]; decide)
theorem i2d_n64 (a : Int32) : vf_n64 (FP.i2d a) := enc_n64 (show okD (FP.Core.round FP.Core.b64 (FP.Core.ofInt a.toInt)) from rr_ok)
def finNZ : FP.Core.Datum → Bool
  | .fin _ c _ => decide (c ≠ 0)
  | _ => false
theorem i2d_small : ∀ k : Fin 40, finNZ (FP.Core.decode FP.Core.b64 (FP.i2d (nI (k.val + 1))).toNat) = true := by decide +kernel
theorem quo_ok {x y : FP.Core.Datum} (h : x ≠ .nan) (hy : finNZ y = true) : okD (FP.Core.quotient FP.Core.b64 x y) := by
  cases y with
  | nan => exact nomatch hy
  | inf s => exact nomatch hy
  | fin t d r =>
    have hd : d ≠ 0 := of_decide_eq_true hy
    cases x with
    | nan => exact absurd rfl h
    | inf s => exact trivial
    | fin s c q =>
      show okD (if d = 0 then (if c = 0 then .nan else .inf (s != t)) else FP.Core.roundRatio FP.Core.b64 (s != t) c d (q - r))
      rw [if_neg hd]
      exact rr_ok
theorem div_n64 {a : Int32} {k : Nat} (h1 : k ≠ 0) (h2 : k ≤ 40) : vf_n64 (FP.ddiv (FP.i2d a) (FP.i2d (nI k))) := by
  obtain ⟨j, rfl⟩ : ∃ j, k = j + 1 := ⟨k - 1, by omega⟩
  exact enc_n64 (quo_ok (dec_num (i2d_n64 a)) (i2d_small ⟨j, by omega⟩))
