def xi_dr (ks : List Nat) (sem : xq_I) : xq_I := fun call L st S => match sem call L st S with
  | some (.inl c) => some (.inl (c.1, xq_dr ks c.2.1, c.2.2))
  | x => x
def xi_ic_lt (t nx : Nat) : xq_I := xi_ic (fun x y => x < y) (fun x y => inferInstance) t nx
def xi_if_lt (t nx : Nat) : xq_I := xi_if (fun x => x < 0) (fun x => inferInstance) t nx
def xi_ic_ge (t nx : Nat) : xq_I := xi_ic (fun x y => y ≤ x) (fun x y => inferInstance) t nx
def xi_if_ge (t nx : Nat) : xq_I := xi_if (fun x => 0 ≤ x) (fun x => inferInstance) t nx
def xi_ic_gt (t nx : Nat) : xq_I := xi_ic (fun x y => y < x) (fun x y => inferInstance) t nx
def xi_if_gt (t nx : Nat) : xq_I := xi_if (fun x => 0 < x) (fun x => inferInstance) t nx
def xi_ic_le (t nx : Nat) : xq_I := xi_ic (fun x y => x ≤ y) (fun x y => inferInstance) t nx
def xi_if_le (t nx : Nat) : xq_I := xi_if (fun x => x ≤ 0) (fun x => inferInstance) t nx
def xi_ic_eq (t nx : Nat) : xq_I := xi_ic (fun x y => x = y) (fun x y => inferInstance) t nx
def xi_if_eq (t nx : Nat) : xq_I := xi_if (fun x => x = 0) (fun x => inferInstance) t nx
def xi_ic_ne (t nx : Nat) : xq_I := xi_ic (fun x y => ¬ x = y) (fun x y => inferInstance) t nx
def xi_if_ne (t nx : Nat) : xq_I := xi_if (fun x => ¬ x = 0) (fun x => inferInstance) t nx
def xi_iadd (nx : Nat) : xq_I := xi_i2 nx (fun x y => x + y)
def xi_isub (nx : Nat) : xq_I := xi_i2 nx (fun x y => x - y)
def xi_imul (nx : Nat) : xq_I := xi_i2 nx (fun x y => x * y)
def xi_iand (nx : Nat) : xq_I := xi_i2 nx (fun x y => x &&& y)
def xi_ior (nx : Nat) : xq_I := xi_i2 nx (fun x y => x ||| y)
def xi_ixor (nx : Nat) : xq_I := xi_i2 nx (fun x y => x ^^^ y)
def xi_ishl (nx : Nat) : xq_I := xi_i2 nx (fun x y => x <<< (y &&& 31))
def xi_ishr (nx : Nat) : xq_I := xi_i2 nx (fun x y => x >>> (y &&& 31))
def xi_iushr (nx : Nat) : xq_I := xi_i2 nx (fun x y => (x.toUInt32 >>> (y.toUInt32 &&& Int32.toUInt32 31)).toInt32)
def xi_idiv (nx : Nat) : xq_I := xi_i2d nx (fun x y => x / y)
def xi_irem (nx : Nat) : xq_I := xi_i2d nx (fun x y => x - x / y * y)
def xi_ineg (nx : Nat) : xq_I := xi_i1 nx (fun x => -x)
def xi_i2b (nx : Nat) : xq_I := xi_i1 nx (fun x => x.toInt8.toInt32)
def xi_i2s (nx : Nat) : xq_I := xi_i1 nx (fun x => x.toInt16.toInt32)
def xi_i2c (nx : Nat) : xq_I := xi_i1 nx (fun x => (x.toUInt32 % 65536).toInt32)
def xi_ladd (nx : Nat) : xq_I := xi_l2 nx (fun x y => x + y)
def xi_lmul (nx : Nat) : xq_I := xi_l2 nx (fun x y => x * y)
def xi_land (nx : Nat) : xq_I := xi_l2 nx (fun x y => x &&& y)
def xi_ldiv (nx : Nat) : xq_I := xi_l2d nx (fun x y => x / y)
def xi_lrem (nx : Nat) : xq_I := xi_l2d nx (fun x y => x - x / y * y)
def xi_lneg (nx : Nat) : xq_I := xi_l1 nx (fun x => -x)
def xi_lshl (nx : Nat) : xq_I := xi_lsh nx (fun x y => x <<< (y.toInt64 &&& 63))
def xi_lshr (nx : Nat) : xq_I := xi_lsh nx (fun x y => x >>> (y.toInt64 &&& 63))
def xi_max (nx : Nat) : xq_I := xi_m2 nx (fun x y => if x < y then y else x)
def xi_min (nx : Nat) : xq_I := xi_m2 nx (fun x y => if y < x then y else x)
def xi_abs (nx : Nat) : xq_I := xi_m1 nx (fun x => if 0 ≤ x then x else 0 - x)
