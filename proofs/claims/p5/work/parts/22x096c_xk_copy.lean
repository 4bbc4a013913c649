section XQM
variable {p : Program} {l : Launch} {e : Env} {R : Room} {s : State} {m : MethodId} {args : Array Value} {below : List Frame} {meth : Method} {c0 : Code} {Q : State → Prop} {D : va_G} {cl : List vw_C} {tys : List (ClassId × FieldType)} {o : zO} {z : Nat} {X : State → Heap → Prop} {Ts : List Cond} {prog : List zM} {nL : Nat} {own : String} {cc : ByteArray} {ret : Option FieldType} {nm : String}
variable {b : Nat → Nat}
theorem xk_copy (C : zCx p R s m args meth c0 D cl tys z X Ts own cc nL nm) {pc idx : Nat} (hd : decode cc pc = .ok (.invokestatic idx, 3)) (hl : Cond.methodLink own idx arraycopyName ∈ Ts) (hn : Cond.native arraycopyName ∈ Ts) (hst : Cond.static arraycopyName ∈ Ts) (hi : Cond.initialized "java/lang/System" ∈ Ts) (hfw : nativeFrameWords "java/lang/System" "arraycopy" 5 + 11 ≤ 190) : xq_Op p l e R s m args below meth c0 Q D cl tys z X Ts prog nL cc ret b pc (xi_copy (pc + 3)) := by
  intro call L st S x _ hs hx ls ws H locs hL hM
  unfold xi_copy at hs
  split at hs
  · rename_i n dp kd sp ks t
    split at hs
    · rename_i n0 hk0
      split at hs
      · rename_i n1 hk1
        split at hs
        · rename_i hct
          have hct := Nat.le_of_ble_eq_true hct
          split at hs
          · rename_i hg
            obtain ⟨g1, g2, g3, g4, g5⟩ := hg
            cases hs
            obtain ⟨cA, F, hA, h1, h2⟩ := xq_ari hM.1 hk0 (Or.inl rfl)
            obtain ⟨cB, G, hB, k1, k2⟩ := xq_ari hM.1 hk1 (Or.inl rfl)
            obtain ⟨t0, ht0⟩ := List.getElem?_of_mem hA
            obtain ⟨t1, ht1⟩ := List.getElem?_of_mem hB
            have hlo := C.2.2.2.2.2.2.2.2.2.2
            have nn : ∀ y : Int32, 0 ≤ y.toInt → ¬ y < 0 ∧ y.toNatClampNeg = y.toInt.toNat := fun y hy => ⟨by rw [Int32.lt_iff_toInt_lt, Int32.toInt_zero]; omega, rfl⟩
            obtain ⟨s1, s2⟩ := nn sp g1
            obtain ⟨d1, d2⟩ := nn dp g2
            obtain ⟨c1, c2⟩ := nn n g3
            have hct2 := xq_ct_ok (b := b) t
            refine va_copyi C.1 C.2.1 (C.2.2.1.trans hL.1.symm) C.2.2.2.1 (C.2.2.2.2.1 _ hl) (C.2.2.2.2.1 _ hn) (C.2.2.2.2.1 _ hst) (C.2.2.2.2.1 _ hi) C.2.2.2.2.2.1 hM.2.1 hM.2.2.1 hM.2.2.2 _ _ t0 t1 h1 k1 ht0 ht1 rfl s1 d1 c1 (by rw [s2, c2]; omega) (by rw [d2, c2]; omega) (fun _ _ => rfl) C.2.2.2.2.2.2.2.2.2.1 (by rw [hct2]; omega) hd (fun H1 locs1 hP hD hS => ?_)
            rw [s2, d2, c2] at hP hD
            refine hx ls _ H1 locs1 hL ⟨xq_ari_set hM.1 hk1 (Or.inl rfl) hB k1 (fun j hj => ?_) (fun k' hk' => ?_), hP, hD, hS⟩
            · rw [va_cpy]
              unfold xq_cpy
              by_cases hj2 : dp.toInt.toNat ≤ j ∧ j < dp.toInt.toNat + n.toInt.toNat
              · rw [if_pos hj2, if_pos ⟨rfl, hj2⟩]
                exact h2 _ (by omega)
              · rw [if_neg hj2, if_neg (fun q => hj2 q.2)]
                exact k2 j hj
            · funext j
              unfold xq_cpy
              rw [if_neg (fun q => hk' q.1)]
          · cases hs
        · cases hs
      · cases hs
    · cases hs
  · cases hs
end XQM
