/-! OPERATIONS -/
def o_const (v : Value) (n : Nat) : pOp := fun _ X _ f M => X n (f.1, v :: f.2.1, f.2.2) M
def o_iload (k n : Nat) : pOp := fun _ X _ f M => match pat f.1 k with
  | some (.int x) => X n (f.1, .int x :: f.2.1, f.2.2) M
  | _ => False
def o_lload (k n : Nat) : pOp := fun _ X _ f M => match pat f.1 k with
  | some (.long x) => X n (f.1, .long x :: f.2.1, f.2.2) M
  | _ => False
def o_dload (k n : Nat) : pOp := fun _ X _ f M => match pat f.1 k with
  | some (.double x) => X n (f.1, .double x :: f.2.1, f.2.2) M
  | _ => False
def o_aload (k n : Nat) : pOp := fun _ X _ f M => match pat f.1 k with
  | some (.ref x) => X n (f.1, .ref x :: f.2.1, f.2.2) M
  | _ => False
def o_istore (k nL n : Nat) : pOp := fun _ X _ f M => match f.2.1 with
  | .int x :: r => k < nL ∧ pok f.1 k = true ∧ X n (pst f.1 k (some (.int x)), r, f.2.2) M
  | _ => False
def o_astore (k nL n : Nat) : pOp := fun _ X _ f M => match f.2.1 with
  | .ref x :: r => k < nL ∧ pok f.1 k = true ∧ X n (pst f.1 k (some (.ref x)), r, f.2.2) M
  | _ => False
def o_lstore (k nL n : Nat) : pOp := fun _ X _ f M => match f.2.1 with
  | .long x :: r => k + 1 < nL ∧ pok f.1 k = true ∧ X n (pst (pst f.1 (k + 1) none) k (some (.long x)), r, f.2.2) M
  | _ => False
def o_dstore (k nL n : Nat) : pOp := fun _ X _ f M => match f.2.1 with
  | .double x :: r => k + 1 < nL ∧ pok f.1 k = true ∧ X n (pst (pst f.1 (k + 1) none) k (some (.double x)), r, f.2.2) M
  | _ => False
def o_iinc (k nL : Nat) (v : Int32) (n : Nat) : pOp := fun _ X _ f M => match pat f.1 k with
  | some (.int x) => k < nL ∧ pok f.1 k = true ∧ X n (pst f.1 k (some (.int (x + v))), f.2.1, f.2.2) M
  | _ => False
def o_ibin (g : Int32 → Int32 → Int32) (n : Nat) : pOp := fun _ X _ f M => match f.2.1 with
  | .int y :: .int x :: r => X n (f.1, .int (g x y) :: r, f.2.2) M
  | _ => False
def o_iun (g : Int32 → Int32) (n : Nat) : pOp := fun _ X _ f M => match f.2.1 with
  | .int x :: r => X n (f.1, .int (g x) :: r, f.2.2) M
  | _ => False
def o_idiv (n : Nat) : pOp := fun _ X _ f M => match f.2.1 with
  | .int y :: .int x :: r => ¬ y = 0 ∧ X n (f.1, .int (x / y) :: r, f.2.2) M
  | _ => False
def o_irem (n : Nat) : pOp := fun _ X _ f M => match f.2.1 with
  | .int y :: .int x :: r => ¬ y = 0 ∧ X n (f.1, .int (x - x / y * y) :: r, f.2.2) M
  | _ => False
def o_lbin (g : Int64 → Int64 → Int64) (n : Nat) : pOp := fun _ X _ f M => match f.2.1 with
  | .long y :: .long x :: r => X n (f.1, .long (g x y) :: r, f.2.2) M
  | _ => False
def o_i2l (n : Nat) : pOp := fun _ X _ f M => match f.2.1 with
  | .int x :: r => X n (f.1, .long x.toInt64 :: r, f.2.2) M
  | _ => False
def o_l2i (n : Nat) : pOp := fun _ X _ f M => match f.2.1 with
  | .long x :: r => X n (f.1, .int x.toInt32 :: r, f.2.2) M
  | _ => False
def o_lcmp (n : Nat) : pOp := fun _ X _ f M => match f.2.1 with
  | .long y :: .long x :: r => X n (f.1, .int (lg_cmp x y) :: r, f.2.2) M
  | _ => False
def o_i2d (n : Nat) : pOp := fun _ X _ f M => match f.2.1 with
  | .int x :: r => X n (f.1, .double (FP.i2d x) :: r, f.2.2) M
  | _ => False
def o_ddiv (n : Nat) : pOp := fun _ X _ f M => match f.2.1 with
  | .double y :: .double x :: r => vf_n64 (FP.ddiv x y) ∧ X n (f.1, .double (FP.ddiv x y) :: r, f.2.2) M
  | _ => False
def o_dcmp (op : CmpOp) (n : Nat) : pOp := fun _ X _ f M => match f.2.1 with
  | .double y :: .double x :: r => X n (f.1, .int (Op.cmpValue (FP.dcmp x y) op) :: r, f.2.2) M
  | _ => False
def o_dup (n : Nat) : pOp := fun _ X _ f M => match f.2.1 with
  | v :: r => pcat2 v = false ∧ X n (f.1, v :: v :: r, f.2.2) M
  | _ => False
def o_dup2 (n : Nat) : pOp := fun _ X _ f M => match f.2.1 with
  | v :: u :: r => pcat2 v = false ∧ pcat2 u = false ∧ X n (f.1, v :: u :: v :: u :: r, f.2.2) M
  | _ => False
def o_dupx1 (n : Nat) : pOp := fun _ X _ f M => match f.2.1 with
  | v :: u :: r => pcat2 v = false ∧ pcat2 u = false ∧ X n (f.1, v :: u :: v :: r, f.2.2) M
  | _ => False
def o_pop (n : Nat) : pOp := fun _ X _ f M => match f.2.1 with
  | v :: r => pcat2 v = false ∧ X n (f.1, r, f.2.2) M
  | _ => False
def o_goto (t : Nat) : pOp := fun _ X _ f M => X t f M
def o_if (g : Int32 → Prop) (t n : Nat) : pOp := fun _ X _ f M => match f.2.1 with
  | .int x :: r => (g x → X t (f.1, r, f.2.2) M) ∧ (¬ g x → X n (f.1, r, f.2.2) M)
  | _ => False
def o_icmp (g : Int32 → Int32 → Prop) (t n : Nat) : pOp := fun _ X _ f M => match f.2.1 with
  | .int y :: .int x :: r => (g x y → X t (f.1, r, f.2.2) M) ∧ (¬ g x y → X n (f.1, r, f.2.2) M)
  | _ => False
def psw : List (Int32 × Nat) → Nat → Int32 → Nat
  | [], d, _ => d
  | (k, t) :: r, d, x => if x = k then t else psw r d x
def o_sw (cs : List (Int32 × Nat)) (dflt : Nat) : pOp := fun _ X _ f M => match f.2.1 with
  | .int x :: r => X (psw cs dflt x) (f.1, r, f.2.2) M
  | _ => False
def o_getI (ci k n : Nat) : pOp := fun _ X _ f M => match f.2.1 with
  | .ref a :: r => pK M a = (1, ci) ∧ X n (f.1, .int (pI M a k) :: r, f.2.2) M
  | _ => False
def o_getP (ci k n : Nat) : pOp := fun _ X _ f M => match f.2.1 with
  | .ref a :: r => pK M a = (1, ci) ∧ X n (f.1, pv (pP M a k) :: r, f.2.2) M
  | _ => False
def o_putI (ci k n : Nat) : pOp := fun _ X _ f M => match f.2.1 with
  | .int v :: .ref a :: r => pK M a = (1, ci) ∧ X n (f.1, r, f.2.2) (psI M a k v)
  | _ => False
def o_putZ (ci k n : Nat) : pOp := fun _ X _ f M => match f.2.1 with
  | .int v :: .ref a :: r => pK M a = (1, ci) ∧ (v = 0 ∨ v = 1) ∧ X n (f.1, r, f.2.2) (psI M a k v)
  | _ => False
def o_putP (ci k n : Nat) : pOp := fun _ X _ f M => match f.2.1 with
  | .ref v :: .ref a :: r => pK M a = (1, ci) ∧ X n (f.1, r, f.2.2) (psP M a k (v + 1))
  | _ => False
def o_iald (n : Nat) : pOp := fun _ X _ f M => match f.2.1 with
  | .int i :: .ref a :: r => ∃ len, pK M a = (2, len) ∧ vp_in i len ∧ X n (f.1, .int (pI M a i.toNatClampNeg) :: r, f.2.2) M
  | _ => False
def o_iast (n : Nat) : pOp := fun _ X _ f M => match f.2.1 with
  | .int v :: .int i :: .ref a :: r => ∃ len, pK M a = (2, len) ∧ vp_in i len ∧ X n (f.1, r, f.2.2) (psI M a i.toNatClampNeg v)
  | _ => False
def o_lald (n : Nat) : pOp := fun _ X _ f M => match f.2.1 with
  | .int i :: .ref a :: r => ∃ len, pK M a = (3, len) ∧ vp_in i len ∧ X n (f.1, .long (pL M a i.toNatClampNeg) :: r, f.2.2) M
  | _ => False
def o_last (n : Nat) : pOp := fun _ X _ f M => match f.2.1 with
  | .long v :: .int i :: .ref a :: r => ∃ len, pK M a = (3, len) ∧ vp_in i len ∧ X n (f.1, r, f.2.2) (psL M a i.toNatClampNeg v)
  | _ => False
def o_aald (n : Nat) : pOp := fun _ X _ f M => match f.2.1 with
  | .int i :: .ref a :: r => ∃ len, pK M a = (4, len) ∧ vp_in i len ∧ X n (f.1, pv (pP M a i.toNatClampNeg) :: r, f.2.2) M
  | _ => False
def o_aast (n : Nat) : pOp := fun _ X _ f M => match f.2.1 with
  | .ref v :: .int i :: .ref a :: r => ∃ len, pK M a = (4, len) ∧ pK M v = (1, 9) ∧ vp_in i len ∧ X n (f.1, r, f.2.2) (psP M a i.toNatClampNeg (v + 1))
  | _ => False
def o_alen (tag n : Nat) : pOp := fun _ X _ f M => match f.2.1 with
  | .ref a :: r => ∃ len, pK M a = (tag, len) ∧ X n (f.1, .int (Int32.ofNat len) :: r, f.2.2) M
  | _ => False
def o_new (ci nf n : Nat) : pOp := fun _ X _ f M => 1 ≤ f.2.2.1 ∧ nf ≤ f.2.2.2 ∧ pN M < pBIG ∧ X n (f.1, .ref (pN M) :: f.2.1, f.2.2.1 - 1, f.2.2.2 - nf) (pnew M (1, ci))
def o_newa (tag n : Nat) : pOp := fun _ X _ f M => match f.2.1 with
  | .int i :: r => ¬ i < 0 ∧ i.toNatClampNeg ≤ 1000000 ∧ 1 ≤ f.2.2.1 ∧ i.toNatClampNeg ≤ f.2.2.2 ∧ pN M < pBIG ∧ X n (f.1, .ref (pN M) :: r, f.2.2.1 - 1, f.2.2.2 - i.toNatClampNeg) (pnew M (tag, i.toNatClampNeg))
  | _ => False
def o_ret : pOp := fun _ _ Q f M => match f.2.1 with
  | v :: [] => Q (.inl (some v)) M
  | _ => False
def o_vret : pOp := fun _ _ Q f M => match f.2.1 with
  | [] => Q (.inl none) M
  | _ => False
def o_zret : pOp := fun _ _ Q f M => match f.2.1 with
  | .int v :: [] => (v = 0 ∨ v = 1) ∧ Q (.inl (some (.int v))) M
  | _ => False
def o_iret : pOp := fun _ _ Q f M => match f.2.1 with
  | .int v :: [] => Q (.inl (some (.int v))) M
  | _ => False
def o_aret : pOp := fun _ _ Q f M => match f.2.1 with
  | .ref v :: [] => Q (.inl (some (.ref v))) M
  | _ => False
def o_lret : pOp := fun _ _ Q f M => match f.2.1 with
  | .long v :: [] => Q (.inl (some (.long v))) M
  | _ => False
def o_dret : pOp := fun _ _ Q f M => match f.2.1 with
  | .double v :: [] => Q (.inl (some (.double v))) M
  | _ => False
def o_max (n : Nat) : pOp := fun _ X _ f M => match f.2.1 with
  | .int y :: .int x :: r => psum r ≤ 8 ∧ X n (f.1, .int (if x < y then y else x) :: r, f.2.2) M
  | _ => False
def o_min (n : Nat) : pOp := fun _ X _ f M => match f.2.1 with
  | .int y :: .int x :: r => psum r ≤ 8 ∧ X n (f.1, .int (if y < x then y else x) :: r, f.2.2) M
  | _ => False
def o_objinit (n : Nat) : pOp := fun _ X _ f M => match f.2.1 with
  | .ref _ :: r => psum r ≤ 8 ∧ X n (f.1, r, f.2.2) M
  | _ => False
/-- what a call's answer is followed by -/
def pAft (X : Nat → pF → pM → Prop) (n : Nat) (L : List (Option Value)) (r : List Value) (c s : Nat) : pR → pM → Prop := fun a M => match a with
  | .inl v => X n (L, v.toList ++ r, c, s) M
  | .inr _ => False
def o_callV (mi : pMI) (ci k n : Nat) : pOp := fun C X _ f M => ∃ (res : Nat × Nat) (as r : List Value) (a : Nat), f.2.1 = as.reverse ++ .ref a :: r ∧ as.length = k ∧ pK M a = (1, ci) ∧ psum r ≤ 8 ∧ res.1 ≤ f.2.2.1 ∧ res.2 ≤ f.2.2.2 ∧
  C mi res (.ref a :: as) M (pAft X n f.1 r (f.2.2.1 - res.1) (f.2.2.2 - res.2))
def o_callI (mi : pMI) (k n : Nat) : pOp := fun C X _ f M => ∃ (res : Nat × Nat) (as r : List Value) (a : Nat), f.2.1 = as.reverse ++ .ref a :: r ∧ as.length = k ∧ psum r ≤ 8 ∧ res.1 ≤ f.2.2.1 ∧ res.2 ≤ f.2.2.2 ∧
  C mi res (.ref a :: as) M (pAft X n f.1 r (f.2.2.1 - res.1) (f.2.2.2 - res.2))
def o_callS (mi : pMI) (k n : Nat) : pOp := fun C X _ f M => ∃ (res : Nat × Nat) (as r : List Value), f.2.1 = as.reverse ++ r ∧ as.length = k ∧ psum r ≤ 8 ∧ res.1 ≤ f.2.2.1 ∧ res.2 ≤ f.2.2.2 ∧
  C mi res as M (pAft X n f.1 r (f.2.2.1 - res.1) (f.2.2.2 - res.2))
/-- an instance call in a method with handlers: a class and where it goes on -/
def pAftH (X : Nat → pF → pM → Prop) (n : Nat) (hs : List (String × Nat × Nat)) (L : List (Option Value)) (r : List Value) (c s : Nat) : pR → pM → Prop := fun a M => match a with
  | .inl v => X n (L, v.toList ++ r, c, s) M
  | .inr E => ∃ k t, hs.lookup E = some (k, t) ∧ pok L k = true ∧ X t (pst L k none, [], c, s) M
def o_callVH (mi : pMI) (ci k : Nat) (hs : List (String × Nat × Nat)) (n : Nat) : pOp := fun C X _ f M => ∃ (res : Nat × Nat) (as r : List Value) (a : Nat), f.2.1 = as.reverse ++ .ref a :: r ∧ as.length = k ∧ pK M a = (1, ci) ∧ psum r ≤ 8 ∧ res.1 ≤ f.2.2.1 ∧ res.2 ≤ f.2.2.2 ∧
  C mi res (.ref a :: as) M (pAftH X n hs f.1 r (f.2.2.1 - res.1) (f.2.2.2 - res.2))
/-- 'throw new E("text")' as one operation -/
def o_throw (E : String) : pOp := fun _ _ Q f M => 1 ≤ f.2.2.1 ∧ 6 ≤ f.2.2.2 ∧ psum f.2.1 ≤ 8 ∧ pN M < pBIG ∧ Q (.inr E) (pnew M (0, 0))
