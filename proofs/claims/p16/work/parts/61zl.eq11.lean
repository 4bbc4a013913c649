/-! equations for dream -/
set_option maxRecDepth 20000 in
theorem qX5_isIll_21_eq (d : Nat) (a0 : Int32) (S : xq_S) : xq_D xqP (d + 1) 88 [.ref 21, .int a0] S = (if ¬ (((S.1 21 2) >>> (a0 &&& 31)) &&& (1 : Int32)) = (1 : Int32) then (some (some (.int (0 : Int32)), S)) else (some (some (.int (1 : Int32)), S))) := (xq_br (n := 8) rfl (fun _ => (xq_it_r 2 rfl)) (fun _ => (xq_it_r 3 rfl)))
set_option maxRecDepth 20000 in
theorem qX5_turnIll_21_eq (d : Nat) (a0 : Int32) (S : xq_S) : xq_D xqP (d + 1) 91 [.ref 21, .int a0] S = (some (none, ((xq_upd S.1 21 2 ((S.1 21 2) ^^^ ((1 : Int32) <<< (a0 &&& 31)))), S.2))) := (xq_it_r 9 rfl)
noncomputable def qX5_tiredOfAll_21_h4 (d : Nat) (v1 : Int32) (v2 : Int32) (S : xq_S) : Option xq_O := xq_E (xq_D xqP d) xX5_tiredOfAll (4, [.ref 21, .int v1, .int v2], [], S)
set_option maxRecDepth 20000 in
theorem qX5_tiredOfAll_21_h4_eq (d : Nat) (v1 : Int32) (v2 : Int32) (S : xq_S) : qX5_tiredOfAll_21_h4 d v1 v2 S = (if (8 : Int32) ≤ v2 then (some ((some (.int v1)), S)) else (if 0 ≤ (v2).toInt ∧ (v2).toInt < ((8 : Nat) : Int) then (qX5_tiredOfAll_21_h4 d (v1 + (S.1 23 (v2).toInt.toNat)) (v2 + (1 : Int32)) S) else none)) := (xq_br (n := 3) rfl (fun _ => (xq_it_r 2 rfl)) (fun _ => (xq_gd (n := 4) rfl rfl (fun _ => (xq_it_l 4 rfl)))))
set_option maxRecDepth 20000 in
theorem qX5_tiredOfAll_21_eq (d : Nat) (S : xq_S) : xq_D xqP (d + 1) 90 [.ref 21] S = (qX5_tiredOfAll_21_h4 d (0 : Int32) (0 : Int32) S) := (xq_it_l 4 rfl)
noncomputable def qX5_mostTired_21_h4 (d : Nat) (v1 : Int32) (v2 : Int32) (S : xq_S) : Option xq_O := xq_E (xq_D xqP d) xX5_mostTired (4, [.ref 21, .int v1, .int v2], [], S)
set_option maxRecDepth 20000 in
theorem qX5_mostTired_21_h4_eq (d : Nat) (v1 : Int32) (v2 : Int32) (S : xq_S) : qX5_mostTired_21_h4 d v1 v2 S = (if (8 : Int32) ≤ v2 then (some ((some (.int v1)), S)) else (if 0 ≤ (v2).toInt ∧ (v2).toInt < ((8 : Nat) : Int) then (qX5_mostTired_21_h4 d (if v1 < (S.1 23 (v2).toInt.toNat) then (S.1 23 (v2).toInt.toNat) else v1) (v2 + (1 : Int32)) S) else none)) := (xq_br (n := 3) rfl (fun _ => (xq_it_r 2 rfl)) (fun _ => (xq_gd (n := 4) rfl rfl (fun _ => (xq_it_l 4 rfl)))))
set_option maxRecDepth 20000 in
theorem qX5_mostTired_21_eq (d : Nat) (S : xq_S) : xq_D xqP (d + 1) 89 [.ref 21] S = (qX5_mostTired_21_h4 d (0 : Int32) (0 : Int32) S) := (xq_it_l 4 rfl)
