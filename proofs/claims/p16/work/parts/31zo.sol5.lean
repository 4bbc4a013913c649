/-! solve()'s loops -/
abbrev zSvR : Room := { frames := 30, cells := 0, slots := 0, locals := 5000 }
section ZSOLL
variable {p : Program} {l : Launch} {e : Env} {s : State} {m : MethodId} {args : Array Value} {below : List Frame} {meth : Method} {c0 : Code} {Q : State → Prop} {D : va_G} {tys : List (ClassId × FieldType)} {o : zO} {z : Nat}
variable {aM : Nat} {N M : Int32} {aMost aWidth aRode aMay aMust aLeast aLine : Nat} {Fa Fm : Nat → Int32} {ws0 : va_W}
theorem zlt0 {x : Int32} {a : Nat} (hx : x.toInt = (a : Int)) (h : x < 0) : False := by
  rw [Int32.lt_iff_toInt_lt, hx, Int32.toInt_zero] at h
  omega
set_option maxHeartbeats 2000000 in
theorem zsL5 (C : zCx p zSvR s m args meth c0 D vwCl tys z (zXX o z) zTs RX8 cX8_solve 8 "solve") {may : Nat → Nat} {cap : Nat → Int} {nN Mn r own rest : Nat} {xr xo xrest xc xw : Int32} (hn : nN < 9) (hMn : Mn ≤ 8) (hr : xr.toInt = (r : Int)) (hrM : r < Mn) (ho : xo.toInt = (own : Int)) (ho8 : own < 256) (hom : own &&& may r = own) (hoc : (zpc own : Int) ≤ cap r) (hres : xrest.toInt = (rest : Int)) (hrest : rest = (2 ^ nN - 1) &&& (255 - own)) (K211 : ∀ (F : Nat → Int32) (ws : va_W) (H : Heap) (locs : List Loc) (ls : Array Slot), zSv D tys o z s aM N M aMost aWidth aRode aMay aMust aLeast aLine Fa Fm ws0 F ws H locs → zGd may cap Mn (2 ^ nN - 1) r F → lv_has ls 8 [(3, .int xo), (2, .int xr), (0, .ref aM), (1, .int xw)] → W p l e zSvR s m args below meth c0 H locs 0 0 Q (F0 m 211 ls [])) : ∀ (n t : Nat) (xt : Int32) (F : Nat → Int32) (ws : va_W) (H : Heap) (locs : List Loc) (ls : Array Slot), t < n → xt.toInt = (t : Int) → t &&& rest = t → zSv D tys o z s aM N M aMost aWidth aRode aMay aMust aLeast aLine Fa Fm ws0 F ws H locs → zGd may cap Mn (2 ^ nN - 1) r F → lv_has ls 8 [(6, .int xt), (5, .int xrest), (4, .int xc), (3, .int xo), (2, .int xr), (0, .ref aM), (1, .int xw)] → W p l e zSvR s m args below meth c0 H locs 0 0 Q (F0 m 126 ls []) := by
  intro n
  induction n with
  | zero => intro t xt F ws H locs ls h; omega
  | succ n ih =>
    intro t xt F ws H locs ls ht hxt htr hv hg hlv
    have hp9 : 2 ^ nN ≤ 256 := by
      have := Nat.pow_le_pow_right (n := 2) (by omega) (show nN ≤ 8 by omega)
      omega
    have hrl : rest ≤ 255 := by rw [hrest]; exact Nat.le_trans Nat.and_le_right (by omega)
    have htl : t ≤ rest := by rw [← htr]; exact Nat.and_le_right
    have hto : t &&& own = 0 := by rw [← htr, hrest, Nat.and_assoc, Nat.and_assoc, zneg_t own ho8, Nat.and_zero, Nat.and_zero]
    have htn : t ≤ 2 ^ nN - 1 := Nat.le_trans htl (by rw [hrest]; exact Nat.and_le_left)
    have back : ∀ (x7 : Int32) (F : Nat → Int32) (ws : va_W) (H : Heap) (locs : List Loc) (ls : Array Slot), zSv D tys o z s aM N M aMost aWidth aRode aMay aMust aLeast aLine Fa Fm ws0 F ws H locs → zGd may cap Mn (2 ^ nN - 1) r F → lv_has ls 8 [(7, .int x7), (6, .int xt), (5, .int xrest), (4, .int xc), (3, .int xo), (2, .int xr), (0, .ref aM), (1, .int xw)] → W p l e zSvR s m args below meth c0 H locs 0 0 Q (F0 m 190 ls []) := by
      intro x7 F ws H locs ls hv hg hlv
      refine lv_iload C.1 C.2.1 (zda zDX8_solve 190 rfl rfl) (lv_at hlv 1 rfl) ?_
      refine lv_if_ne C.1 C.2.1 (zda zDX8_solve 192 rfl rfl) (tgt := 199) (by decide) (fun h192 => ?_) (fun h192 => ?_)
      · refine lv_iload C.1 C.2.1 (zda zDX8_solve 199 rfl rfl) (lv_at hlv 1 rfl) ?_
        refine lv_iconst C.1 C.2.1 (zda zDX8_solve 201 rfl rfl) rfl ?_
        refine lv_isub C.1 C.2.1 (zda zDX8_solve 202 rfl rfl) ?_
        refine lv_iload C.1 C.2.1 (zda zDX8_solve 203 rfl rfl) (lv_at hlv 2 rfl) ?_
        refine lv_iand C.1 C.2.1 (zda zDX8_solve 205 rfl rfl) ?_
        refine lv_istore C.1 C.2.1 (zda zDX8_solve 206 rfl rfl) hlv (lv' := [(6, _), (7, .int x7), (5, .int xrest), (4, .int xc), (3, .int xo), (2, .int xr), (0, .ref aM), (1, .int xw)]) (by decide) rfl (fun ls hlv => ?_)
        refine lv_goto C.1 C.2.1 (zda zDX8_solve 208 rfl rfl) (tgt := 126) (by decide) ?_
        have ht0 : 0 < t := by
          rcases Nat.eq_zero_or_pos t with h | h
          · exfalso
            apply h192
            apply Int32.toInt_inj.mp
            rw [hxt, h]
            rfl
          · exact h
        exact ih ((t - 1) &&& rest) _ F ws H locs ls (Nat.lt_of_le_of_lt Nat.and_le_left (by omega)) (zdec1 hxt ht0 hres) (by rw [Nat.and_assoc, Nat.and_self]) hv hg (lv_sub hlv [0, 2, 3, 4, 5, 6, 7] rfl)
      · refine lv_iconst C.1 C.2.1 (zda zDX8_solve 195 rfl rfl) rfl ?_
        refine lv_goto C.1 C.2.1 (zda zDX8_solve 196 rfl rfl) (tgt := 206) (by decide) ?_
        refine lv_istore C.1 C.2.1 (zda zDX8_solve 206 rfl rfl) hlv (lv' := [(6, _), (7, .int x7), (5, .int xrest), (4, .int xc), (3, .int xo), (2, .int xr), (0, .ref aM), (1, .int xw)]) (by decide) rfl (fun ls hlv => ?_)
        refine lv_goto C.1 C.2.1 (zda zDX8_solve 208 rfl rfl) (tgt := 126) (by decide) ?_
        refine lv_iload C.1 C.2.1 (zda zDX8_solve 126 rfl rfl) (lv_at hlv 0 rfl) ?_
        refine lv_if_lt C.1 C.2.1 (zda zDX8_solve 128 rfl rfl) (tgt := 211) (by decide) (fun h128 => ?_) (fun h128 => ?_)
        · exact K211 F ws H locs ls hv hg (lv_sub hlv [4, 5, 6, 7] rfl)
        · exact absurd (by decide) h128
    obtain ⟨hw, hP, hD, hS, hO, hma, hmo, hle, hcg, hFb⟩ := id hv
    obtain ⟨vs, hob, hfN, hfM, hfMost, hfWidth, hfRode, hfMay, hfMust, hfLeast, hfLine⟩ := id hO
    refine lv_iload C.1 C.2.1 (zda zDX8_solve 126 rfl rfl) (lv_at hlv 0 rfl) ?_
    refine lv_if_lt C.1 C.2.1 (zda zDX8_solve 128 rfl rfl) (tgt := 211) (by decide) (fun h128 => ?_) (fun h128 => ?_)
    · exact (zlt0 hxt h128).elim
    · refine lv_aload_n C.1 C.2.1 (zda zDX8_solve 131 rfl rfl) rfl (lv_at hlv 5 rfl) ?_
      refine zv_get C (zda zDX8_solve 132 rfl rfl) (k := 37) (show vwCl[8]? = some (RX8, TX8, 51) from rfl) zinX8 (by decide) zw1209 hP hob hfLeast ?_
      refine lv_iload_n C.1 C.2.1 (zda zDX8_solve 135 rfl rfl) rfl (lv_at hlv 4 rfl) ?_
      refine lv_iconst C.1 C.2.1 (zda zDX8_solve 136 rfl rfl) rfl ?_
      refine lv_iadd C.1 C.2.1 (zda zDX8_solve 137 rfl rfl) ?_
      refine lv_bipush C.1 C.2.1 (zda zDX8_solve 138 rfl rfl) rfl ?_
      refine lv_ishl C.1 C.2.1 (zda zDX8_solve 140 rfl rfl) ?_
      refine lv_iload C.1 C.2.1 (zda zDX8_solve 141 rfl rfl) (lv_at hlv 0 rfl) ?_
      refine lv_ior C.1 C.2.1 (zda zDX8_solve 143 rfl rfl) ?_
      have hr1 : (xr + Int32.ofInt 1).toInt = ((r + 1 : Nat) : Int) := by
        rw [Int32.toInt_add, show (Int32.ofInt 1).toInt = 1 by decide, hr, zbm (B := 2147483648) (by decide) (by omega) (by omega)]
        omega
      refine zv_iald C (zda zDX8_solve 144 rfl rfl) hP hle (zidx hr1 (by omega) hxt (by omega)) (by omega) ?_
      refine lv_istore C.1 C.2.1 (zda zDX8_solve 145 rfl rfl) hlv (lv' := [(7, _), (6, .int xt), (5, .int xrest), (4, .int xc), (3, .int xo), (2, .int xr), (0, .ref aM), (1, .int xw)]) (by decide) rfl (fun ls hlv => ?_)
      refine lv_iload C.1 C.2.1 (zda zDX8_solve 147 rfl rfl) (lv_at hlv 0 rfl) ?_
      refine lv_ldc C.1 C.2.1 C.2.2.2.1 (C.2.2.2.2.1 _ zw1171) (zda zDX8_solve 149 rfl rfl) ?_
      refine lv_icmp_ge C.1 C.2.1 (zda zDX8_solve 151 rfl rfl) (tgt := 190) (by decide) (fun h151 => ?_) (fun h151 => ?_)
      · exact back _ F ws H locs ls hv hg hlv
      · rw [Int32.le_iff_toInt_le, show (Int32.ofInt (Int.ofNat 1000000000)).toInt = 1000000000 by decide] at h151
        refine lv_aload_n C.1 C.2.1 (zda zDX8_solve 154 rfl rfl) rfl (lv_at hlv 6 rfl) ?_
        refine zv_get C (zda zDX8_solve 155 rfl rfl) (k := 37) (show vwCl[8]? = some (RX8, TX8, 51) from rfl) zinX8 (by decide) zw1209 hP hob hfLeast ?_
        refine lv_iload_n C.1 C.2.1 (zda zDX8_solve 158 rfl rfl) rfl (lv_at hlv 5 rfl) ?_
        refine lv_bipush C.1 C.2.1 (zda zDX8_solve 159 rfl rfl) rfl ?_
        refine lv_ishl C.1 C.2.1 (zda zDX8_solve 161 rfl rfl) ?_
        refine lv_iload C.1 C.2.1 (zda zDX8_solve 162 rfl rfl) (lv_at hlv 1 rfl) ?_
        refine lv_ior C.1 C.2.1 (zda zDX8_solve 164 rfl rfl) ?_
        refine lv_iload_n C.1 C.2.1 (zda zDX8_solve 165 rfl rfl) rfl (lv_at hlv 4 rfl) ?_
        refine lv_ior C.1 C.2.1 (zda zDX8_solve 166 rfl rfl) ?_
        refine lv_aload_n C.1 C.2.1 (zda zDX8_solve 167 rfl rfl) rfl (lv_at hlv 6 rfl) ?_
        refine zv_get C (zda zDX8_solve 168 rfl rfl) (k := 37) (show vwCl[8]? = some (RX8, TX8, 51) from rfl) zinX8 (by decide) zw1209 hP hob hfLeast ?_
        refine lv_iload_n C.1 C.2.1 (zda zDX8_solve 171 rfl rfl) rfl (lv_at hlv 5 rfl) ?_
        refine lv_bipush C.1 C.2.1 (zda zDX8_solve 172 rfl rfl) rfl ?_
        refine lv_ishl C.1 C.2.1 (zda zDX8_solve 174 rfl rfl) ?_
        refine lv_iload C.1 C.2.1 (zda zDX8_solve 175 rfl rfl) (lv_at hlv 1 rfl) ?_
        refine lv_ior C.1 C.2.1 (zda zDX8_solve 177 rfl rfl) ?_
        refine lv_iload_n C.1 C.2.1 (zda zDX8_solve 178 rfl rfl) rfl (lv_at hlv 4 rfl) ?_
        refine lv_ior C.1 C.2.1 (zda zDX8_solve 179 rfl rfl) ?_
        have hto2 : t ||| own < 256 := Nat.or_lt_two_pow (n := 8) (by omega) (by omega)
        have hidx : (xr <<< ((Int8.ofInt 8).toInt32 &&& 31) ||| xt ||| xo).toInt = ((256 * r + (t ||| own) : Nat) : Int) := by
          rw [zor_nat (zidx hr (by omega) hxt (by omega)) ho (by omega) (by omega), ← zor256 (show t < 256 by omega), Nat.or_assoc, zor256 hto2]
        refine zv_iald C (zda zDX8_solve 180 rfl rfl) hP hle hidx (by omega) ?_
        refine lv_iload C.1 C.2.1 (zda zDX8_solve 181 rfl rfl) (lv_at hlv 0 rfl) ?_
        refine lv_iload C.1 C.2.1 (zda zDX8_solve 183 rfl rfl) (lv_at hlv 3 rfl) ?_
        refine lv_iadd C.1 C.2.1 (zda zDX8_solve 185 rfl rfl) ?_
        refine va_mmin C.1 C.2.1 (C.2.2.1.trans hlv.1.symm) C.2.2.2.1 (C.2.2.2.2.1 _ zw1440) (C.2.2.2.2.1 _ zw149) (C.2.2.2.2.1 _ zw9) (C.2.2.2.2.1 _ zw150) (by decide) (by show 2 + 13 ≤ 5000; decide) (Nat.zero_le _) (Nat.zero_le _) (zda zDX8_solve 186 rfl rfl) ?_
        refine zSv_store C (zda zDX8_solve 189 rfl rfl) hv hidx (by omega) ?_ (fun H locs ws hv' => back _ _ ws H locs ls hv' (zGd_up hg ?_) hlv)
        · have h9 := hFb (256 * r + (t ||| own)) (by omega)
          split
          · rename_i h8
            rw [Int32.lt_iff_toInt_lt] at h8
            omega
          · exact h9
        · intro q u h1 h2 h3 h4 _
          have e1 : q = r := by omega
          have e2 : u = t ||| own := by omega
          subst e1
          subst e2
          have hA := hg (q + 1) t (by omega) (by omega) htn (by omega)
          obtain ⟨k, hk⟩ : ∃ k, Mn - q = k + 1 := ⟨Mn - q - 1, by omega⟩
          rw [hk]
          rw [show Mn - (q + 1) = k by omega] at hA
          exact ⟨own, t, hom, hoc, hto, rfl, hA⟩
end ZSOLL
