def xi_push (nx : Nat) (v : Value) : xq_I := fun _ L st S => some (.inl (nx, L, v :: st, S))
def xi_ldI (nx i : Nat) : xq_I := fun _ L st S => match L[i]? with
  | some (.int x) => some (.inl (nx, L, .int x :: st, S))
  | _ => none
def xi_ldL (nx i : Nat) : xq_I := fun _ L st S => match L[i]? with
  | some (.long x) => some (.inl (nx, L, .long x :: st, S))
  | _ => none
def xi_ldA (nx i : Nat) : xq_I := fun _ L st S => match L[i]? with
  | some (.ref x) => some (.inl (nx, L, .ref x :: st, S))
  | _ => none
def xi_stI (nx i : Nat) : xq_I := fun _ L st S => match st with
  | .int x :: t => some (.inl (nx, (xq_k2 L i).set i (.int x), t, S))
  | _ => none
def xi_stL (nx i : Nat) : xq_I := fun _ L st S => match st with
  | .long x :: t => some (.inl (nx, ((xq_k2 L i).set i (.long x)).set (i + 1) .null, t, S))
  | _ => none
def xi_stA (nx i : Nat) : xq_I := fun _ L st S => match st with
  | .ref x :: t => some (.inl (nx, (xq_k2 L i).set i (.ref x), t, S))
  | _ => none
def xi_inc (nx i : Nat) (n : Int32) : xq_I := fun _ L st S => match L[i]? with
  | some (.int x) => some (.inl (nx, (xq_k2 L i).set i (.int (x + n)), st, S))
  | _ => none
def xi_i1 (nx : Nat) (g : Int32 → Int32) : xq_I := fun _ L st S => match st with
  | .int x :: t => some (.inl (nx, L, .int (g x) :: t, S))
  | _ => none
def xi_i2 (nx : Nat) (g : Int32 → Int32 → Int32) : xq_I := fun _ L st S => match st with
  | .int y :: .int x :: t => some (.inl (nx, L, .int (g x y) :: t, S))
  | _ => none
def xi_i2d (nx : Nat) (g : Int32 → Int32 → Int32) : xq_I := fun _ L st S => match st with
  | .int y :: .int x :: t => if y = 0 then none else some (.inl (nx, L, .int (g x y) :: t, S))
  | _ => none
def xi_l1 (nx : Nat) (g : Int64 → Int64) : xq_I := fun _ L st S => match st with
  | .long x :: t => some (.inl (nx, L, .long (g x) :: t, S))
  | _ => none
def xi_l2 (nx : Nat) (g : Int64 → Int64 → Int64) : xq_I := fun _ L st S => match st with
  | .long y :: .long x :: t => some (.inl (nx, L, .long (g x y) :: t, S))
  | _ => none
def xi_l2d (nx : Nat) (g : Int64 → Int64 → Int64) : xq_I := fun _ L st S => match st with
  | .long y :: .long x :: t => if y = 0 then none else some (.inl (nx, L, .long (g x y) :: t, S))
  | _ => none
def xi_lsh (nx : Nat) (g : Int64 → Int32 → Int64) : xq_I := fun _ L st S => match st with
  | .int y :: .long x :: t => some (.inl (nx, L, .long (g x y) :: t, S))
  | _ => none
def xi_lcmp (nx : Nat) : xq_I := fun _ L st S => match st with
  | .long y :: .long x :: t => some (.inl (nx, L, .int (lg_cmp x y) :: t, S))
  | _ => none
def xi_i2l (nx : Nat) : xq_I := fun _ L st S => match st with
  | .int x :: t => some (.inl (nx, L, .long x.toInt64 :: t, S))
  | _ => none
def xi_l2i (nx : Nat) : xq_I := fun _ L st S => match st with
  | .long x :: t => some (.inl (nx, L, .int x.toInt32 :: t, S))
  | _ => none
def xi_goto (t : Nat) : xq_I := fun _ L st S => some (.inl (t, L, st, S))
def xi_dup (nx : Nat) : xq_I := fun _ L st S => match st with
  | .int x :: t => some (.inl (nx, L, .int x :: .int x :: t, S))
  | .ref x :: t => some (.inl (nx, L, .ref x :: .ref x :: t, S))
  | _ => none
def xi_pop (nx : Nat) : xq_I := fun _ L st S => match st with
  | .int _ :: t => some (.inl (nx, L, t, S))
  | .ref _ :: t => some (.inl (nx, L, t, S))
  | _ => none
def xi_pop2 (nx : Nat) : xq_I := fun _ L st S => match st with
  | .long _ :: t => some (.inl (nx, L, t, S))
  | _ => none
def xi_dx1 (nx : Nat) : xq_I := fun _ L st S => match st with
  | .int x :: .ref k :: t => some (.inl (nx, L, .int x :: .ref k :: .int x :: t, S))
  | _ => none
def xi_dup2 (nx : Nat) : xq_I := fun _ L st S => match st with
  | .long x :: t => some (.inl (nx, L, .long x :: .long x :: t, S))
  | .int x :: .ref k :: t => some (.inl (nx, L, .int x :: .ref k :: .int x :: .ref k :: t, S))
  | _ => none
def xi_if (P : Int32 → Prop) (d : ∀ x, Decidable (P x)) (t nx : Nat) : xq_I := fun _ L st S => match st with
  | .int x :: r => some (.inl (@ite _ (P x) (d x) (t, L, r, S) (nx, L, r, S)))
  | _ => none
def xi_ic (P : Int32 → Int32 → Prop) (d : ∀ x y, Decidable (P x y)) (t nx : Nat) : xq_I := fun _ L st S => match st with
  | .int y :: .int x :: r => some (.inl (@ite _ (P x y) (d x y) (t, L, r, S) (nx, L, r, S)))
  | _ => none
noncomputable def xi_get (nx ci j : Nat) : xq_I := fun _ L st S => match st with
  | .ref k :: t => (match xq_kd k ci j with
    | some 0 => some (.inl (nx, L, .int (S.1 k j) :: t, S))
    | some 1 => some (.inl (nx, L, .long (S.2.1 k j) :: t, S))
    | some 2 => some (.inl (nx, L, .ref (xq_sr k j) :: t, S))
    | some 3 => if S.2.2 k j = 0 then none else some (.inl (nx, L, .ref (S.2.2 k j) :: t, S))
    | some 4 => some (.inl (nx, L, .int (S.1 k j) :: t, S))
    | _ => none)
  | _ => none
noncomputable def xi_putI (nx ci j : Nat) : xq_I := fun _ L st S => match st with
  | .int x :: .ref k :: t => (match xq_kd k ci j with
    | some 0 => some (.inl (nx, L, t, (xq_upd S.1 k j x, S.2)))
    | _ => none)
  | _ => none
noncomputable def xi_putZ (nx ci j : Nat) : xq_I := fun _ L st S => match st with
  | .int x :: .ref k :: t => (match xq_kd k ci j with
    | some 4 => if x = 0 ∨ x = 1 then some (.inl (nx, L, t, (xq_upd S.1 k j x, S.2))) else none
    | _ => none)
  | _ => none
noncomputable def xi_putJ (nx ci j : Nat) : xq_I := fun _ L st S => match st with
  | .long x :: .ref k :: t => (match xq_kd k ci j with
    | some 1 => some (.inl (nx, L, t, (S.1, xq_upd S.2.1 k j x, S.2.2)))
    | _ => none)
  | _ => none
noncomputable def xi_putR (nx ci j : Nat) : xq_I := fun _ L st S => match st with
  | .ref x :: .ref k :: t => (match xq_kd k ci j with
    | some 3 => if x = 0 then none else some (.inl (nx, L, t, (S.1, S.2.1, xq_upd S.2.2 k j x)))
    | _ => none)
  | _ => none
noncomputable def xi_iald (nx : Nat) : xq_I := fun _ L st S => match st with
  | .int i :: .ref k :: t => (match xq_ar k with
    | some (0, n) => if 0 ≤ i.toInt ∧ i.toInt < (n : Int) then some (.inl (nx, L, .int (S.1 k i.toInt.toNat) :: t, S)) else none
    | _ => none)
  | _ => none
noncomputable def xi_lald (nx : Nat) : xq_I := fun _ L st S => match st with
  | .int i :: .ref k :: t => (match xq_ar k with
    | some (1, n) => if 0 ≤ i.toInt ∧ i.toInt < (n : Int) then some (.inl (nx, L, .long (S.2.1 k i.toInt.toNat) :: t, S)) else none
    | _ => none)
  | _ => none
noncomputable def xi_bald (nx : Nat) : xq_I := fun _ L st S => match st with
  | .int i :: .ref k :: t => (match xq_ar k with
    | some (2, n) => if 0 ≤ i.toInt ∧ i.toInt < (n : Int) then some (.inl (nx, L, .int (S.1 k i.toInt.toNat) :: t, S)) else none
    | some (3, n) => if 0 ≤ i.toInt ∧ i.toInt < (n : Int) then some (.inl (nx, L, .int (S.1 k i.toInt.toNat) :: t, S)) else none
    | _ => none)
  | _ => none
noncomputable def xi_aald (nx : Nat) : xq_I := fun _ L st S => match st with
  | .int i :: .ref k :: t => (match xq_ar k with
    | some (_ + 4, n) => if 0 ≤ i.toInt ∧ i.toInt < (n : Int) then some (.inl (nx, L, .ref (xq_sr k i.toInt.toNat) :: t, S)) else none
    | _ => none)
  | _ => none
noncomputable def xi_iast (nx : Nat) : xq_I := fun _ L st S => match st with
  | .int x :: .int i :: .ref k :: t => (match xq_ar k with
    | some (0, n) => if 0 ≤ i.toInt ∧ i.toInt < (n : Int) then some (.inl (nx, L, t, (xq_upd S.1 k i.toInt.toNat x, S.2))) else none
    | _ => none)
  | _ => none
noncomputable def xi_last (nx : Nat) : xq_I := fun _ L st S => match st with
  | .long x :: .int i :: .ref k :: t => (match xq_ar k with
    | some (1, n) => if 0 ≤ i.toInt ∧ i.toInt < (n : Int) then some (.inl (nx, L, t, (S.1, xq_upd S.2.1 k i.toInt.toNat x, S.2.2))) else none
    | _ => none)
  | _ => none
noncomputable def xi_bast (nx : Nat) : xq_I := fun _ L st S => match st with
  | .int x :: .int i :: .ref k :: t => (match xq_ar k with
    | some (2, n) => if 0 ≤ i.toInt ∧ i.toInt < (n : Int) then some (.inl (nx, L, t, (xq_upd S.1 k i.toInt.toNat (vp_nar .boolean x), S.2))) else none
    | some (3, n) => if 0 ≤ i.toInt ∧ i.toInt < (n : Int) then some (.inl (nx, L, t, (xq_upd S.1 k i.toInt.toNat (vp_nar .byte x), S.2))) else none
    | _ => none)
  | _ => none
noncomputable def xi_len (nx : Nat) : xq_I := fun _ L st S => match st with
  | .ref k :: t => (match xq_ar k with
    | some (_, n) => some (.inl (nx, L, .int (Int32.ofNat n) :: t, S))
    | _ => none)
  | _ => none
