/-! THE LAW'S OWN WALK -/
def zo_slen (nx : Nat) (q : zI) : zSem := fun _ _ go c => match c with
  | (al, .inr (.inr (.inr (.inl true))) :: st, h) => go nx (al, .inl (q, none) :: st, h)
  | _ => false
noncomputable def zo_sld (nx : Nat) (sc : List zN) : zSem := fun _ _ go c => match c with
  | (al, .inl i :: .inr (.inr (.inr (.inl true))) :: st, h) => if zle i.1.2 i.1.1 && zle 0 i.1.1 then (match zget sc i.1.1.toNat with
    | some q => go nx (al, .inl q :: st, h)
    | none => false) else false
  | _ => false
/-- script[0] & 63, of which the bounds are known -/
def zo_msk (nx : Nat) (jq : zI) : zSem := fun _ _ go c => match c with
  | (al, .inl b :: .inl (_, some (0, .ofNat 0)) :: st, h) => if zle b.1.1 63 && (zle 63 b.1.1 && zle b.1.2 b.1.1) then go nx (al, .inl (jq, none) :: st, h) else false
  | _ => false
/-- the law's good end -/
def zo_fin : zSem := fun _ _ _ c => match c with
  | (_, [.inl q], _, cs, sl) => zle 1 q.1.1 && (zle q.1.2 1 && (Nat.ble cs 600002 && Nat.ble sl 7302232))
  | _ => false
/-- a place where the walk is taken up elsewhere -/
def zo_cut (f : zK → Bool) : zSem := fun _ _ _ c => f c
section ZLAW
variable {p : Program} {l : Launch} {e : Env} {R : Room} {s : State} {m : MethodId} {args : Array Value} {below : List Frame} {meth : Method} {c0 : Code} {Q : State → Prop} {D : va_G} {cl : List vw_C} {tys : List (ClassId × FieldType)} {o : zO} {z : Nat} {X : State → Heap → Prop} {Ts : List Cond} {prog : List zM} {ws0 : va_W} {nL : Nat} {own : String} {cc : ByteArray} {ret : Option FieldType} {nm : String}
theorem zk_slen (C : zCx p R s m args meth c0 D cl tys z X Ts own cc nL nm) {L : Nat} {xs : Nat → Int32} {q : zI} (hX : va_X o.1 L xs s s.heap) (hbl : o.1 < s.heap.size) (hbA : ¬ zA z o.1) (hlq : zmem q (Int32.ofNat L).toInt) {pc : Nat} (hd : decode cc pc = .ok (.arraylength, 1)) : zOp p l e R s m args below meth c0 Q D cl tys o z X Ts prog ws0 nL cc ret (pc) (zo_slen (pc + 1) q) := by
  intro call rt go c _ _ hgo hs ls vst H locs ws S
  unfold zo_slen at hs
  split at hs
  · obtain ⟨v, t, rfl, h1, h2⟩ := zr2_cons S.2.1
    have h1 : v = .ref o.1 := h1
    subst h1
    exact va_slen C.1 C.2.1 hX hbl hbA S.2.2.2.2.2.1 hd (hgo _ _ hs ls _ H locs ws (zSat_st S ⟨⟨_, rfl, hlq, trivial⟩, h2⟩))
  · cases hs
theorem zk_sld (C : zCx p R s m args meth c0 D cl tys z X Ts own cc nL nm) {L : Nat} {xs : Nat → Int32} {sc : List zN} (hX : va_X o.1 L xs s s.heap) (hbl : o.1 < s.heap.size) (hbA : ¬ zA z o.1) (hsc : ∀ (i : Nat) (q : zN), sc[i]? = some q → i < L ∧ zmi q.1 (xs i) ∧ ztg o.2.2 q.2 (xs i)) {pc : Nat} (hd : decode cc pc = .ok (.iaload, 1)) : zOp p l e R s m args below meth c0 Q D cl tys o z X Ts prog ws0 nL cc ret (pc) (zo_sld (pc + 1) sc) := by
  intro call rt go c _ _ hgo hs ls vst H locs ws S
  unfold zo_sld at hs
  split at hs
  · split at hs
    · rename_i hk
      rw [Bool.and_eq_true] at hk
      split at hs
      · rename_i q hq
        rw [zget_eq] at hq
        obtain ⟨w, t1, rfl, g1, hh1⟩ := zr2_cons S.2.1
        obtain ⟨v, t, rfl, h1, h2⟩ := zr2_cons hh1
        have h1 : v = .ref o.1 := h1
        subst h1
        obtain ⟨x, rfl, hx, -⟩ := zint g1
        obtain ⟨c1, c2⟩ := zclamp hx hk.1 hk.2
        obtain ⟨q1, q2, q3⟩ := hsc _ _ hq
        have hin : vp_in x L := by
          rintro (q | q)
          · exact c1 q
          · rw [c2] at q; omega
        refine va_sld C.1 C.2.1 hX hbl hbA S.2.2.2.2.2.1 hin hd ?_
        rw [c2]
        exact hgo _ _ hs ls _ H locs ws (zSat_st S ⟨⟨_, rfl, q2, q3⟩, h2⟩)
      · cases hs
    · cases hs
  · cases hs
theorem zk_msk (C : zCx p R s m args meth c0 D cl tys z X Ts own cc nL nm) {jq : zI} {pc : Nat} (hj : zmi jq (o.2.2 0 &&& 63)) (hd : decode cc pc = .ok (.iand, 1)) : zOp p l e R s m args below meth c0 Q D cl tys o z X Ts prog ws0 nL cc ret (pc) (zo_msk (pc + 1) jq) := by
  intro call rt go c _ _ hgo hs ls vst H locs ws S
  unfold zo_msk at hs
  split at hs
  · split at hs
    · rename_i hk
      simp only [Bool.and_eq_true, zle_iff] at hk
      obtain ⟨v, t, rfl, h1, h2⟩ := zr2_cons S.2.1
      obtain ⟨v2, t2, rfl, h3, h4⟩ := zr2_cons h2
      obtain ⟨y, rfl, ⟨hy1, hy2⟩, -⟩ := zint h1
      obtain ⟨x, rfl, -, tx⟩ := zint h3
      have ey : y = 63 := by
        apply Int32.toInt_inj.mp
        rw [show (63 : Int32).toInt = 63 by decide]
        omega
      have ex : x = o.2.2 0 := by
        have tx : x = o.2.2 0 + Int32.ofInt 0 := tx
        rw [tx]
        exact Int32.add_zero _
      subst ey
      subst ex
      exact lv_iand C.1 C.2.1 hd (hgo _ _ hs ls _ H locs ws (zSat_st S ⟨⟨_, rfl, hj, trivial⟩, h4⟩))
    · cases hs
  · cases hs
end ZLAW
/-- intervals that hold every int -/
def zcov : Int → List zI → Bool
  | lo, [] => zle 2147483648 lo
  | lo, q :: t => zle q.1 lo && zcov (q.2 + 1) t
theorem zcov_ok : ∀ {l : List zI} {lo : Int} {x : Int32}, zcov lo l = true → lo ≤ x.toInt → ∃ q ∈ l, zmi q x
  | [], lo, x, h, hx => by
    have h : zle 2147483648 lo = true := h
    rw [zle_iff] at h
    have := (z32 x).2
    omega
  | q :: t, lo, x, h, hx => by
    have h : (zle q.1 lo && zcov (q.2 + 1) t) = true := h
    rw [Bool.and_eq_true, zle_iff] at h
    by_cases hq : x.toInt ≤ q.2
    · exact ⟨q, List.mem_cons_self, by have := h.1; omega, hq⟩
    · obtain ⟨q', h1, h2⟩ := zcov_ok (x := x) h.2 (by omega)
      exact ⟨q', List.mem_cons_of_mem _ h1, h2⟩
theorem zk_fin {p : Program} {l : Launch} {e : Env} {s : State} {m : MethodId} {b : Nat} {below : List Frame} {meth : Method} {c0 : Code} {D : va_G} {cl : List vw_C} {tys : List (ClassId × FieldType)} {o : zO} {z : Nat} {X : State → Heap → Prop} {Ts : List Cond} {prog : List zM} {ws0 : va_W} {nL : Nat} {rt0 : Option FieldType} {own nm : String} (C : zCx p room_1 s m #[Value.ref b] meth c0 D cl tys z X Ts own code nL nm) (h0 : z = s.heap.size ∧ meth.sig.returnType = ret ∧ meth.locks = false) {pc : Nat} (hd : decode code pc = .ok (.ireturn, 1)) : zOp p l e room_1 s m #[Value.ref b] below meth c0 (lw_Z below #[Value.ref b] s) D cl tys o z X Ts prog ws0 nL code rt0 pc zo_fin := by
  intro call rt go c _ _ hgo hs ls vst H locs ws S
  unfold zo_fin at hs
  split at hs
  · simp only [Bool.and_eq_true, zle_iff] at hs
    obtain ⟨k1, k2, k3, k4⟩ := hs
    obtain ⟨v, t, rfl, h1, h2⟩ := zr2_cons S.2.1
    have e := zr2_nil h2
    subst e
    obtain ⟨x, rfl, ⟨hx1, hx2⟩, -⟩ := zint h1
    have hx : x = 1 := by
      apply Int32.toInt_inj.mp
      rw [show (1 : Int32).toInt = 1 by decide]
      omega
    subst hx
    refine va_forget (fun q hq => by rw [← h0.1]; exact S.2.2.2.2.2.1.2.2 q hq) ?_
    refine W.widen (k := 600002) (n := 7302232) (Nat.le_of_ble_eq_true k3) (Nat.le_of_ble_eq_true k4) ?_
    exact lw_ret C.1 C.2.1 h0.2.1 h0.2.2 hd
  · cases hs
set_option maxRecDepth 100000 in
theorem zprog_all {l : Launch} {D : va_G} {tys : List (ClassId × FieldType)} {o : zO} {z : Nat} (E : zEnv tys) : ∀ mr ∈ zprog, plainName mr.1.cls = true ∧ zCodeOk l D vwCl tys o z (zXX o z) zTs zprog mr := by
  show ∀ mr ∈ [mJ0_charAt_5068e, mJ0_checkBoundsBeginEnd_23922, mJ0_checkIndex_df160, mJ0_coder_7d493, mJ0_indexOf_0f7a4, mJ0_indexOf_7cf53, mJ0_isLatin1_aae02, mJ0_length_8abf5, mJ1_canEncode_9a6ad, mJ1_charAt_3b067, mJ1_indexOfChar_4cfef, mJ1_indexOf_4cfef, mJ3_checkFromToIndex_8c36e, mJ3_checkIndex_8e157, mJ6_bitCount_0f7a4, mJ6_numberOfTrailingZeros_0f7a4, mJ7_fill_53178, mJ7_fill_d0a16, mX0_areTwo, mX0_has, mX0_init, mX0_isAble, mX0_isSomebodyOrNobody, mX0_pass, mX0_passAll, mX0_readRiders, mX0_watch, mX1_add, mX1_clear, mX1_init, mX1_tell, mX1_tell_, mX2_init, mX2_pop, mX2_push, mX3_await, mX3_begin, mX3_binding, mX3_closeBracket, mX3_emit, mX3_init, mX3_openBracket, mX3_read, mX3_readFirst, mX3_reckonDownTo, mX3_takeBehindThing, mX3_takeThing, mX4_addLeast, mX4_addLeastMost, mX4_addStep, mX4_addWays, mX4_canHold, mX4_findLacks, mX4_findLacksIn, mX4_init, mX4_lacks, mX4_least, mX4_leastMost, mX4_open, mX4_orderByWidth, mX4_ways, mX4_weigh, mX5_copy, mX5_init, mX5_mostTired, mX5_tiredOfAll, mX6_add, mX6_cut, mX6_empty, mX6_init, mX7_able, mX7_again, mX7_ask, mX7_away, mX7_bare, mX7_chance, mX7_changes, mX7_count, mX7_draw, mX7_drawAct, mX7_easiest, mX7_easiestWithout, mX7_end, mX7_fairest, mX7_fewest, mX7_first, mX7_fits, mX7_forget, mX7_found, mX7_gaps, mX7_gapsByTrade, mX7_give, mX7_greatestShared, mX7_hard, mX7_hardOfRota, mX7_held, mX7_ill, mX7_init, mX7_isAtRest, mX7_isDigit, mX7_isHour, mX7_keep, mX7_keystone, mX7_later, mX7_law, mX7_lowest, mX7_meets, mX7_mended, mX7_missed, mX7_nights, mX7_openFitting, mX7_openSeats, mX7_paid, mX7_power, mX7_priceByHard, mX7_priceByName, mX7_readSpare, mX7_rests, mX7_rider, mX7_riders, mX7_rota, mX7_rotaFault, mX7_rotas, mX7_row, mX7_rule, mX7_set, mX7_shared, mX7_sheet, mX7_sign, mX7_smoothest, mX7_spent, mX7_sure, mX7_takes, mX7_tellFraction, mX7_tellWays, mX7_thin, mX7_trade, mX7_undo, mX7_vigil, mX7_wellOnes, mX7_year, mX7_yearFault, mX7_years, mX8_able, mX8_ableMany, mX8_again, mX8_areTwo, mX8_ask, mX8_away, mX8_bare, mX8_begin, mX8_beginText, mX8_changes, mX8_common, mX8_count, mX8_countWays, mX8_draw, mX8_easiest, mX8_easiestBut, mX8_end, mX8_fairest, mX8_fault, mX8_fewest, mX8_fine, mX8_first, mX8_firstGets, mX8_fits, mX8_fitting, mX8_forget, mX8_found, mX8_gaps, mX8_give, mX8_goNight, mX8_goNights, mX8_hard, mX8_hardOfRota, mX8_held, mX8_heldParts, mX8_here, mX8_ill, mX8_illBits, mX8_in, mX8_init, mX8_isGift, mX8_isHour, mX8_isMan, mX8_isRest, mX8_keep, mX8_keystone, mX8_later, mX8_law, mX8_lay, mX8_layCanBe, mX8_layFound, mX8_layMay, mX8_lost, mX8_meets, mX8_mended, mX8_missed, mX8_night, mX8_nights, mX8_otherGets, mX8_paid, mX8_power, mX8_readRule, mX8_remember, mX8_rests, mX8_rider, mX8_riders, mX8_rota, mX8_rotas, mX8_row, mX8_rule, mX8_set, mX8_shared, mX8_sheet, mX8_sign, mX8_smoothest, mX8_solve, mX8_spent, mX8_sure, mX8_takes, mX8_tell, mX8_tellPart, mX8_tellWays, mX8_thin, mX8_thrown, mX8_tired, mX8_trade, mX8_undo, mX8_vigil, mX8_wasRight, mX8_well, mX8_year, mX8_years], _
  exact List.forall_mem_cons.mpr ⟨⟨by decide, okJ0_charAt_5068e E⟩,
  List.forall_mem_cons.mpr ⟨⟨by decide, okJ0_checkBoundsBeginEnd_23922 E⟩,
  List.forall_mem_cons.mpr ⟨⟨by decide, okJ0_checkIndex_df160 E⟩,
  List.forall_mem_cons.mpr ⟨⟨by decide, okJ0_coder_7d493 E⟩,
  List.forall_mem_cons.mpr ⟨⟨by decide, okJ0_indexOf_0f7a4 E⟩,
  List.forall_mem_cons.mpr ⟨⟨by decide, okJ0_indexOf_7cf53 E⟩,
  List.forall_mem_cons.mpr ⟨⟨by decide, okJ0_isLatin1_aae02 E⟩,
  List.forall_mem_cons.mpr ⟨⟨by decide, okJ0_length_8abf5 E⟩,
  List.forall_mem_cons.mpr ⟨⟨by decide, okJ1_canEncode_9a6ad E⟩,
  List.forall_mem_cons.mpr ⟨⟨by decide, okJ1_charAt_3b067 E⟩,
  List.forall_mem_cons.mpr ⟨⟨by decide, okJ1_indexOfChar_4cfef E⟩,
  List.forall_mem_cons.mpr ⟨⟨by decide, okJ1_indexOf_4cfef E⟩,
  List.forall_mem_cons.mpr ⟨⟨by decide, okJ3_checkFromToIndex_8c36e E⟩,
  List.forall_mem_cons.mpr ⟨⟨by decide, okJ3_checkIndex_8e157 E⟩,
  List.forall_mem_cons.mpr ⟨⟨by decide, okJ6_bitCount_0f7a4 E⟩,
  List.forall_mem_cons.mpr ⟨⟨by decide, okJ6_numberOfTrailingZeros_0f7a4 E⟩,
  List.forall_mem_cons.mpr ⟨⟨by decide, okJ7_fill_53178 E⟩,
  List.forall_mem_cons.mpr ⟨⟨by decide, okJ7_fill_d0a16 E⟩,
  List.forall_mem_cons.mpr ⟨⟨by decide, okX0_areTwo E⟩,
  List.forall_mem_cons.mpr ⟨⟨by decide, okX0_has E⟩,
  List.forall_mem_cons.mpr ⟨⟨by decide, okX0_init E⟩,
  List.forall_mem_cons.mpr ⟨⟨by decide, okX0_isAble E⟩,
  List.forall_mem_cons.mpr ⟨⟨by decide, okX0_isSomebodyOrNobody E⟩,
  List.forall_mem_cons.mpr ⟨⟨by decide, okX0_pass E⟩,
  List.forall_mem_cons.mpr ⟨⟨by decide, okX0_passAll E⟩,
  List.forall_mem_cons.mpr ⟨⟨by decide, okX0_readRiders E⟩,
  List.forall_mem_cons.mpr ⟨⟨by decide, okX0_watch E⟩,
  List.forall_mem_cons.mpr ⟨⟨by decide, okX1_add E⟩,
  List.forall_mem_cons.mpr ⟨⟨by decide, okX1_clear E⟩,
  List.forall_mem_cons.mpr ⟨⟨by decide, okX1_init E⟩,
  List.forall_mem_cons.mpr ⟨⟨by decide, okX1_tell E⟩,
  List.forall_mem_cons.mpr ⟨⟨by decide, okX1_tell_ E⟩,
  List.forall_mem_cons.mpr ⟨⟨by decide, okX2_init E⟩,
  List.forall_mem_cons.mpr ⟨⟨by decide, okX2_pop E⟩,
  List.forall_mem_cons.mpr ⟨⟨by decide, okX2_push E⟩,
  List.forall_mem_cons.mpr ⟨⟨by decide, okX3_await E⟩,
  List.forall_mem_cons.mpr ⟨⟨by decide, okX3_begin E⟩,
  List.forall_mem_cons.mpr ⟨⟨by decide, okX3_binding E⟩,
  List.forall_mem_cons.mpr ⟨⟨by decide, okX3_closeBracket E⟩,
  List.forall_mem_cons.mpr ⟨⟨by decide, okX3_emit E⟩,
  List.forall_mem_cons.mpr ⟨⟨by decide, okX3_init E⟩,
  List.forall_mem_cons.mpr ⟨⟨by decide, okX3_openBracket E⟩,
  List.forall_mem_cons.mpr ⟨⟨by decide, okX3_read E⟩,
  List.forall_mem_cons.mpr ⟨⟨by decide, okX3_readFirst E⟩,
  List.forall_mem_cons.mpr ⟨⟨by decide, okX3_reckonDownTo E⟩,
  List.forall_mem_cons.mpr ⟨⟨by decide, okX3_takeBehindThing E⟩,
  List.forall_mem_cons.mpr ⟨⟨by decide, okX3_takeThing E⟩,
  List.forall_mem_cons.mpr ⟨⟨by decide, okX4_addLeast E⟩,
  List.forall_mem_cons.mpr ⟨⟨by decide, okX4_addLeastMost E⟩,
  List.forall_mem_cons.mpr ⟨⟨by decide, okX4_addStep E⟩,
  List.forall_mem_cons.mpr ⟨⟨by decide, okX4_addWays E⟩,
  List.forall_mem_cons.mpr ⟨⟨by decide, okX4_canHold E⟩,
  List.forall_mem_cons.mpr ⟨⟨by decide, okX4_findLacks E⟩,
  List.forall_mem_cons.mpr ⟨⟨by decide, okX4_findLacksIn E⟩,
  List.forall_mem_cons.mpr ⟨⟨by decide, okX4_init E⟩,
  List.forall_mem_cons.mpr ⟨⟨by decide, okX4_lacks E⟩,
  List.forall_mem_cons.mpr ⟨⟨by decide, okX4_least E⟩,
  List.forall_mem_cons.mpr ⟨⟨by decide, okX4_leastMost E⟩,
  List.forall_mem_cons.mpr ⟨⟨by decide, okX4_open E⟩,
  List.forall_mem_cons.mpr ⟨⟨by decide, okX4_orderByWidth E⟩,
  List.forall_mem_cons.mpr ⟨⟨by decide, okX4_ways E⟩,
  List.forall_mem_cons.mpr ⟨⟨by decide, okX4_weigh E⟩,
  List.forall_mem_cons.mpr ⟨⟨by decide, okX5_copy E⟩,
  List.forall_mem_cons.mpr ⟨⟨by decide, okX5_init E⟩,
  List.forall_mem_cons.mpr ⟨⟨by decide, okX5_mostTired E⟩,
  List.forall_mem_cons.mpr ⟨⟨by decide, okX5_tiredOfAll E⟩,
  List.forall_mem_cons.mpr ⟨⟨by decide, okX6_add E⟩,
  List.forall_mem_cons.mpr ⟨⟨by decide, okX6_cut E⟩,
  List.forall_mem_cons.mpr ⟨⟨by decide, okX6_empty E⟩,
  List.forall_mem_cons.mpr ⟨⟨by decide, okX6_init E⟩,
  List.forall_mem_cons.mpr ⟨⟨by decide, okX7_able E⟩,
  List.forall_mem_cons.mpr ⟨⟨by decide, okX7_again E⟩,
  List.forall_mem_cons.mpr ⟨⟨by decide, okX7_ask E⟩,
  List.forall_mem_cons.mpr ⟨⟨by decide, okX7_away E⟩,
  List.forall_mem_cons.mpr ⟨⟨by decide, okX7_bare E⟩,
  List.forall_mem_cons.mpr ⟨⟨by decide, okX7_chance E⟩,
  List.forall_mem_cons.mpr ⟨⟨by decide, okX7_changes E⟩,
  List.forall_mem_cons.mpr ⟨⟨by decide, okX7_count E⟩,
  List.forall_mem_cons.mpr ⟨⟨by decide, okX7_draw E⟩,
  List.forall_mem_cons.mpr ⟨⟨by decide, okX7_drawAct E⟩,
  List.forall_mem_cons.mpr ⟨⟨by decide, okX7_easiest E⟩,
  List.forall_mem_cons.mpr ⟨⟨by decide, okX7_easiestWithout E⟩,
  List.forall_mem_cons.mpr ⟨⟨by decide, okX7_end E⟩,
  List.forall_mem_cons.mpr ⟨⟨by decide, okX7_fairest E⟩,
  List.forall_mem_cons.mpr ⟨⟨by decide, okX7_fewest E⟩,
  List.forall_mem_cons.mpr ⟨⟨by decide, okX7_first E⟩,
  List.forall_mem_cons.mpr ⟨⟨by decide, okX7_fits E⟩,
  List.forall_mem_cons.mpr ⟨⟨by decide, okX7_forget E⟩,
  List.forall_mem_cons.mpr ⟨⟨by decide, okX7_found E⟩,
  List.forall_mem_cons.mpr ⟨⟨by decide, okX7_gaps E⟩,
  List.forall_mem_cons.mpr ⟨⟨by decide, okX7_gapsByTrade E⟩,
  List.forall_mem_cons.mpr ⟨⟨by decide, okX7_give E⟩,
  List.forall_mem_cons.mpr ⟨⟨by decide, okX7_greatestShared E⟩,
  List.forall_mem_cons.mpr ⟨⟨by decide, okX7_hard E⟩,
  List.forall_mem_cons.mpr ⟨⟨by decide, okX7_hardOfRota E⟩,
  List.forall_mem_cons.mpr ⟨⟨by decide, okX7_held E⟩,
  List.forall_mem_cons.mpr ⟨⟨by decide, okX7_ill E⟩,
  List.forall_mem_cons.mpr ⟨⟨by decide, okX7_init E⟩,
  List.forall_mem_cons.mpr ⟨⟨by decide, okX7_isAtRest E⟩,
  List.forall_mem_cons.mpr ⟨⟨by decide, okX7_isDigit E⟩,
  List.forall_mem_cons.mpr ⟨⟨by decide, okX7_isHour E⟩,
  List.forall_mem_cons.mpr ⟨⟨by decide, okX7_keep E⟩,
  List.forall_mem_cons.mpr ⟨⟨by decide, okX7_keystone E⟩,
  List.forall_mem_cons.mpr ⟨⟨by decide, okX7_later E⟩,
  List.forall_mem_cons.mpr ⟨⟨by decide, okX7_law E⟩,
  List.forall_mem_cons.mpr ⟨⟨by decide, okX7_lowest E⟩,
  List.forall_mem_cons.mpr ⟨⟨by decide, okX7_meets E⟩,
  List.forall_mem_cons.mpr ⟨⟨by decide, okX7_mended E⟩,
  List.forall_mem_cons.mpr ⟨⟨by decide, okX7_missed E⟩,
  List.forall_mem_cons.mpr ⟨⟨by decide, okX7_nights E⟩,
  List.forall_mem_cons.mpr ⟨⟨by decide, okX7_openFitting E⟩,
  List.forall_mem_cons.mpr ⟨⟨by decide, okX7_openSeats E⟩,
  List.forall_mem_cons.mpr ⟨⟨by decide, okX7_paid E⟩,
  List.forall_mem_cons.mpr ⟨⟨by decide, okX7_power E⟩,
  List.forall_mem_cons.mpr ⟨⟨by decide, okX7_priceByHard E⟩,
  List.forall_mem_cons.mpr ⟨⟨by decide, okX7_priceByName E⟩,
  List.forall_mem_cons.mpr ⟨⟨by decide, okX7_readSpare E⟩,
  List.forall_mem_cons.mpr ⟨⟨by decide, okX7_rests E⟩,
  List.forall_mem_cons.mpr ⟨⟨by decide, okX7_rider E⟩,
  List.forall_mem_cons.mpr ⟨⟨by decide, okX7_riders E⟩,
  List.forall_mem_cons.mpr ⟨⟨by decide, okX7_rota E⟩,
  List.forall_mem_cons.mpr ⟨⟨by decide, okX7_rotaFault E⟩,
  List.forall_mem_cons.mpr ⟨⟨by decide, okX7_rotas E⟩,
  List.forall_mem_cons.mpr ⟨⟨by decide, okX7_row E⟩,
  List.forall_mem_cons.mpr ⟨⟨by decide, okX7_rule E⟩,
  List.forall_mem_cons.mpr ⟨⟨by decide, okX7_set E⟩,
  List.forall_mem_cons.mpr ⟨⟨by decide, okX7_shared E⟩,
  List.forall_mem_cons.mpr ⟨⟨by decide, okX7_sheet E⟩,
  List.forall_mem_cons.mpr ⟨⟨by decide, okX7_sign E⟩,
  List.forall_mem_cons.mpr ⟨⟨by decide, okX7_smoothest E⟩,
  List.forall_mem_cons.mpr ⟨⟨by decide, okX7_spent E⟩,
  List.forall_mem_cons.mpr ⟨⟨by decide, okX7_sure E⟩,
  List.forall_mem_cons.mpr ⟨⟨by decide, okX7_takes E⟩,
  List.forall_mem_cons.mpr ⟨⟨by decide, okX7_tellFraction E⟩,
  List.forall_mem_cons.mpr ⟨⟨by decide, okX7_tellWays E⟩,
  List.forall_mem_cons.mpr ⟨⟨by decide, okX7_thin E⟩,
  List.forall_mem_cons.mpr ⟨⟨by decide, okX7_trade E⟩,
  List.forall_mem_cons.mpr ⟨⟨by decide, okX7_undo E⟩,
  List.forall_mem_cons.mpr ⟨⟨by decide, okX7_vigil E⟩,
  List.forall_mem_cons.mpr ⟨⟨by decide, okX7_wellOnes E⟩,
  List.forall_mem_cons.mpr ⟨⟨by decide, okX7_year E⟩,
  List.forall_mem_cons.mpr ⟨⟨by decide, okX7_yearFault E⟩,
  List.forall_mem_cons.mpr ⟨⟨by decide, okX7_years E⟩,
  List.forall_mem_cons.mpr ⟨⟨by decide, okX8_able E⟩,
  List.forall_mem_cons.mpr ⟨⟨by decide, okX8_ableMany E⟩,
  List.forall_mem_cons.mpr ⟨⟨by decide, okX8_again E⟩,
  List.forall_mem_cons.mpr ⟨⟨by decide, okX8_areTwo E⟩,
  List.forall_mem_cons.mpr ⟨⟨by decide, okX8_ask E⟩,
  List.forall_mem_cons.mpr ⟨⟨by decide, okX8_away E⟩,
  List.forall_mem_cons.mpr ⟨⟨by decide, okX8_bare E⟩,
  List.forall_mem_cons.mpr ⟨⟨by decide, okX8_begin E⟩,
  List.forall_mem_cons.mpr ⟨⟨by decide, okX8_beginText E⟩,
  List.forall_mem_cons.mpr ⟨⟨by decide, okX8_changes E⟩,
  List.forall_mem_cons.mpr ⟨⟨by decide, okX8_common E⟩,
  List.forall_mem_cons.mpr ⟨⟨by decide, okX8_count E⟩,
  List.forall_mem_cons.mpr ⟨⟨by decide, okX8_countWays E⟩,
  List.forall_mem_cons.mpr ⟨⟨by decide, okX8_draw E⟩,
  List.forall_mem_cons.mpr ⟨⟨by decide, okX8_easiest E⟩,
  List.forall_mem_cons.mpr ⟨⟨by decide, okX8_easiestBut E⟩,
  List.forall_mem_cons.mpr ⟨⟨by decide, okX8_end E⟩,
  List.forall_mem_cons.mpr ⟨⟨by decide, okX8_fairest E⟩,
  List.forall_mem_cons.mpr ⟨⟨by decide, okX8_fault E⟩,
  List.forall_mem_cons.mpr ⟨⟨by decide, okX8_fewest E⟩,
  List.forall_mem_cons.mpr ⟨⟨by decide, okX8_fine E⟩,
  List.forall_mem_cons.mpr ⟨⟨by decide, okX8_first E⟩,
  List.forall_mem_cons.mpr ⟨⟨by decide, okX8_firstGets E⟩,
  List.forall_mem_cons.mpr ⟨⟨by decide, okX8_fits E⟩,
  List.forall_mem_cons.mpr ⟨⟨by decide, okX8_fitting E⟩,
  List.forall_mem_cons.mpr ⟨⟨by decide, okX8_forget E⟩,
  List.forall_mem_cons.mpr ⟨⟨by decide, okX8_found E⟩,
  List.forall_mem_cons.mpr ⟨⟨by decide, okX8_gaps E⟩,
  List.forall_mem_cons.mpr ⟨⟨by decide, okX8_give E⟩,
  List.forall_mem_cons.mpr ⟨⟨by decide, okX8_goNight E⟩,
  List.forall_mem_cons.mpr ⟨⟨by decide, okX8_goNights E⟩,
  List.forall_mem_cons.mpr ⟨⟨by decide, okX8_hard E⟩,
  List.forall_mem_cons.mpr ⟨⟨by decide, okX8_hardOfRota E⟩,
  List.forall_mem_cons.mpr ⟨⟨by decide, okX8_held E⟩,
  List.forall_mem_cons.mpr ⟨⟨by decide, okX8_heldParts E⟩,
  List.forall_mem_cons.mpr ⟨⟨by decide, okX8_here E⟩,
  List.forall_mem_cons.mpr ⟨⟨by decide, okX8_ill E⟩,
  List.forall_mem_cons.mpr ⟨⟨by decide, okX8_illBits E⟩,
  List.forall_mem_cons.mpr ⟨⟨by decide, okX8_in E⟩,
  List.forall_mem_cons.mpr ⟨⟨by decide, okX8_init E⟩,
  List.forall_mem_cons.mpr ⟨⟨by decide, okX8_isGift E⟩,
  List.forall_mem_cons.mpr ⟨⟨by decide, okX8_isHour E⟩,
  List.forall_mem_cons.mpr ⟨⟨by decide, okX8_isMan E⟩,
  List.forall_mem_cons.mpr ⟨⟨by decide, okX8_isRest E⟩,
  List.forall_mem_cons.mpr ⟨⟨by decide, okX8_keep E⟩,
  List.forall_mem_cons.mpr ⟨⟨by decide, okX8_keystone E⟩,
  List.forall_mem_cons.mpr ⟨⟨by decide, okX8_later E⟩,
  List.forall_mem_cons.mpr ⟨⟨by decide, okX8_law E⟩,
  List.forall_mem_cons.mpr ⟨⟨by decide, okX8_lay E⟩,
  List.forall_mem_cons.mpr ⟨⟨by decide, okX8_layCanBe E⟩,
  List.forall_mem_cons.mpr ⟨⟨by decide, okX8_layFound E⟩,
  List.forall_mem_cons.mpr ⟨⟨by decide, okX8_layMay E⟩,
  List.forall_mem_cons.mpr ⟨⟨by decide, okX8_lost E⟩,
  List.forall_mem_cons.mpr ⟨⟨by decide, okX8_meets E⟩,
  List.forall_mem_cons.mpr ⟨⟨by decide, okX8_mended E⟩,
  List.forall_mem_cons.mpr ⟨⟨by decide, okX8_missed E⟩,
  List.forall_mem_cons.mpr ⟨⟨by decide, okX8_night E⟩,
  List.forall_mem_cons.mpr ⟨⟨by decide, okX8_nights E⟩,
  List.forall_mem_cons.mpr ⟨⟨by decide, okX8_otherGets E⟩,
  List.forall_mem_cons.mpr ⟨⟨by decide, okX8_paid E⟩,
  List.forall_mem_cons.mpr ⟨⟨by decide, okX8_power E⟩,
  List.forall_mem_cons.mpr ⟨⟨by decide, okX8_readRule E⟩,
  List.forall_mem_cons.mpr ⟨⟨by decide, okX8_remember E⟩,
  List.forall_mem_cons.mpr ⟨⟨by decide, okX8_rests E⟩,
  List.forall_mem_cons.mpr ⟨⟨by decide, okX8_rider E⟩,
  List.forall_mem_cons.mpr ⟨⟨by decide, okX8_riders E⟩,
  List.forall_mem_cons.mpr ⟨⟨by decide, okX8_rota E⟩,
  List.forall_mem_cons.mpr ⟨⟨by decide, okX8_rotas E⟩,
  List.forall_mem_cons.mpr ⟨⟨by decide, okX8_row E⟩,
  List.forall_mem_cons.mpr ⟨⟨by decide, okX8_rule E⟩,
  List.forall_mem_cons.mpr ⟨⟨by decide, okX8_set E⟩,
  List.forall_mem_cons.mpr ⟨⟨by decide, okX8_shared E⟩,
  List.forall_mem_cons.mpr ⟨⟨by decide, okX8_sheet E⟩,
  List.forall_mem_cons.mpr ⟨⟨by decide, okX8_sign E⟩,
  List.forall_mem_cons.mpr ⟨⟨by decide, okX8_smoothest E⟩,
  List.forall_mem_cons.mpr ⟨⟨by decide, okX8_solve E⟩,
  List.forall_mem_cons.mpr ⟨⟨by decide, okX8_spent E⟩,
  List.forall_mem_cons.mpr ⟨⟨by decide, okX8_sure E⟩,
  List.forall_mem_cons.mpr ⟨⟨by decide, okX8_takes E⟩,
  List.forall_mem_cons.mpr ⟨⟨by decide, okX8_tell E⟩,
  List.forall_mem_cons.mpr ⟨⟨by decide, okX8_tellPart E⟩,
  List.forall_mem_cons.mpr ⟨⟨by decide, okX8_tellWays E⟩,
  List.forall_mem_cons.mpr ⟨⟨by decide, okX8_thin E⟩,
  List.forall_mem_cons.mpr ⟨⟨by decide, okX8_thrown E⟩,
  List.forall_mem_cons.mpr ⟨⟨by decide, okX8_tired E⟩,
  List.forall_mem_cons.mpr ⟨⟨by decide, okX8_trade E⟩,
  List.forall_mem_cons.mpr ⟨⟨by decide, okX8_undo E⟩,
  List.forall_mem_cons.mpr ⟨⟨by decide, okX8_vigil E⟩,
  List.forall_mem_cons.mpr ⟨⟨by decide, okX8_wasRight E⟩,
  List.forall_mem_cons.mpr ⟨⟨by decide, okX8_well E⟩,
  List.forall_mem_cons.mpr ⟨⟨by decide, okX8_year E⟩,
  List.forall_mem_cons.mpr ⟨⟨by decide, okX8_years E⟩,
  fun _ h => absurd h List.not_mem_nil⟩⟩⟩⟩⟩⟩⟩⟩⟩⟩⟩⟩⟩⟩⟩⟩⟩⟩⟩⟩⟩⟩⟩⟩⟩⟩⟩⟩⟩⟩⟩⟩⟩⟩⟩⟩⟩⟩⟩⟩⟩⟩⟩⟩⟩⟩⟩⟩⟩⟩⟩⟩⟩⟩⟩⟩⟩⟩⟩⟩⟩⟩⟩⟩⟩⟩⟩⟩⟩⟩⟩⟩⟩⟩⟩⟩⟩⟩⟩⟩⟩⟩⟩⟩⟩⟩⟩⟩⟩⟩⟩⟩⟩⟩⟩⟩⟩⟩⟩⟩⟩⟩⟩⟩⟩⟩⟩⟩⟩⟩⟩⟩⟩⟩⟩⟩⟩⟩⟩⟩⟩⟩⟩⟩⟩⟩⟩⟩⟩⟩⟩⟩⟩⟩⟩⟩⟩⟩⟩⟩⟩⟩⟩⟩⟩⟩⟩⟩⟩⟩⟩⟩⟩⟩⟩⟩⟩⟩⟩⟩⟩⟩⟩⟩⟩⟩⟩⟩⟩⟩⟩⟩⟩⟩⟩⟩⟩⟩⟩⟩⟩⟩⟩⟩⟩⟩⟩⟩⟩⟩⟩⟩⟩⟩⟩⟩⟩⟩⟩⟩⟩⟩⟩⟩⟩⟩⟩⟩⟩⟩⟩⟩⟩⟩⟩⟩⟩⟩⟩⟩⟩⟩⟩⟩⟩⟩⟩⟩⟩⟩⟩⟩⟩⟩⟩
theorem zprog_ok {l : Launch} {D : va_G} {tys : List (ClassId × FieldType)} {o : zO} {z : Nat} (E : zEnv tys) : zProgOk l D vwCl tys o z (zXX o z) zTs zprog := fun mi mr h => zprog_all E mr (List.mem_of_getElem? (i := mi) (by rw [← zget_eq]; exact h))
noncomputable def kLaw (lq : zI) (sc : List zN) (jq : zI) : zCode := [[some (zo_new 3 7 16 600002 7302232 zfsX7), none, none, some (zo_dup 4), some (zo_call 7 97 1 93 4615 600002 7302232 zrecvI), none, none, some (zo_stA 8 1), some (zo_new 11 8 51 600002 7302232 zfsX8), none, none, some (zo_dup 12), some (zo_call 15 182 1 30 5942 600002 7302232 zrecvI), none, none, some (zo_stA 16 2)],
  [some (zo_push 17 (.inl ((.ofNat 1, .ofNat 1), none))), some (zo_newa 19 1 600002 7302232 (.inr (.inl (.ofNat 0, .ofNat 0)))), none, some (zo_stA 20 3), some (zo_push 21 (.inl ((.ofNat 0, .ofNat 0), none))), some (zo_stI 23 4), none, some (zo_loadI 25 4), none, some (zo_loadA 26 0), some (zo_slen 27 lq), some (zo_push 28 (.inl ((.ofNat 5, .ofNat 5), none))), some (zo_sub 29), some (zo_ic zc_gt 1497 32), none, none],
  [some (zo_loadA 33 0), some (zo_loadI 35 4), none, some (zo_sld 36 sc), some (zo_push 38 (.inl ((.ofNat 63, .ofNat 63), none))), none, some (zo_msk 39 jq), some (zo_tab (.ofNat 0) [252, 277, 302, 315, 328, 396, 433, 470, 531, 544, 581, 606, 631, 644, 657, 670, 695, 720, 745, 758, 771, 784, 797, 810, 835, 848, 873, 898, 911, 924, 949, 974, 1011, 1024, 1037, 1050, 1099, 1148, 1161, 1174, 1211, 1224, 1249, 1274, 1311, 1324, 1361, 1386, 1411, 1436] 1491), none, none, none, none, none, none, none, none],
  [none, none, none, none, none, none, none, none, none, none, none, none, none, none, none, none],
  [none, none, none, none, none, none, none, none, none, none, none, none, none, none, none, none],
  [none, none, none, none, none, none, none, none, none, none, none, none, none, none, none, none],
  [none, none, none, none, none, none, none, none, none, none, none, none, none, none, none, none],
  [none, none, none, none, none, none, none, none, none, none, none, none, none, none, none, none],
  [none, none, none, none, none, none, none, none, none, none, none, none, none, none, none, none],
  [none, none, none, none, none, none, none, none, none, none, none, none, none, none, none, none],
  [none, none, none, none, none, none, none, none, none, none, none, none, none, none, none, none],
  [none, none, none, none, none, none, none, none, none, none, none, none, none, none, none, none],
  [none, none, none, none, none, none, none, none, none, none, none, none, none, none, none, none],
  [none, none, none, none, none, none, none, none, none, none, none, none, none, none, none, none],
  [none, none, none, none, none, none, none, none, none, none, none, none, none, none, none, none],
  [none, none, none, none, none, none, none, none, none, none, none, none, some (zo_loadA 253 1), some (zo_loadA 254 0), some (zo_loadI 256 4), none],
  [some (zo_push 257 (.inl ((.ofNat 1, .ofNat 1), none))), some (zo_add 258), some (zo_sld 259 sc), some (zo_call 262 128 2 0 0 600002 7302232 (zrecv 7)), none, none, some (zo_loadA 263 2), some (zo_loadA 264 0), some (zo_loadI 266 4), none, some (zo_push 267 (.inl ((.ofNat 1, .ofNat 1), none))), some (zo_add 268), some (zo_sld 269 sc), some (zo_call 272 216 2 0 0 600002 7302232 (zrecv 8)), none, none],
  [some (zo_ic zeqn 1491 275), none, none, some (zo_push 276 (.inl ((.ofNat 0, .ofNat 0), none))), none, some (zo_loadA 278 1), some (zo_loadA 279 0), some (zo_loadI 281 4), none, some (zo_push 282 (.inl ((.ofNat 1, .ofNat 1), none))), some (zo_add 283), some (zo_sld 284 sc), some (zo_call 287 82 2 0 0 600002 7302232 (zrecv 7)), none, none, some (zo_loadA 288 2)],
  [some (zo_loadA 289 0), some (zo_loadI 291 4), none, some (zo_push 292 (.inl ((.ofNat 1, .ofNat 1), none))), some (zo_add 293), some (zo_sld 294 sc), some (zo_call 297 159 2 0 0 600002 7302232 (zrecv 8)), none, none, some (zo_ic zeqn 1491 300), none, none, some (zo_push 301 (.inl ((.ofNat 0, .ofNat 0), none))), none, some (zo_loadA 303 1), some (zo_call 306 119 1 0 0 600002 7302232 (zrecv 7))],
  [none, none, some (zo_loadA 307 2), some (zo_call 310 208 1 0 0 600002 7302232 (zrecv 8)), none, none, some (zo_ic zeqn 1491 313), none, none, some (zo_push 314 (.inl ((.ofNat 0, .ofNat 0), none))), none, some (zo_loadA 316 1), some (zo_call 319 124 1 0 0 600002 7302232 (zrecv 7)), none, none, some (zo_loadA 320 2)],
  [some (zo_call 323 212 1 0 0 600002 7302232 (zrecv 8)), none, none, some (zo_ic zeqn 1491 326), none, none, some (zo_push 327 (.inl ((.ofNat 0, .ofNat 0), none))), none, some (zo_loadA 329 1), some (zo_loadA 330 0), some (zo_loadI 332 4), none, some (zo_push 333 (.inl ((.ofNat 1, .ofNat 1), none))), some (zo_add 334), some (zo_sld 335 sc), some (zo_loadA 336 0)],
  [some (zo_loadI 338 4), none, some (zo_push 339 (.inl ((.ofNat 2, .ofNat 2), none))), some (zo_add 340), some (zo_sld 341 sc), some (zo_loadA 342 3), none, none, none, some (zo_stI 347 5), none, some (zo_loadA 348 2), some (zo_loadA 349 0), some (zo_loadI 351 4), none, some (zo_push 352 (.inl ((.ofNat 1, .ofNat 1), none)))],
  [some (zo_add 353), some (zo_sld 354 sc), some (zo_loadA 355 0), some (zo_loadI 357 4), none, some (zo_push 358 (.inl ((.ofNat 2, .ofNat 2), none))), some (zo_add 359), some (zo_sld 360 sc), some (zo_call 363 207 3 0 0 600002 7302232 (zrecv 8)), none, none, some (zo_stI 365 6), none, some (zo_loadA 366 2), some (zo_call 369 226 1 0 0 600002 7302232 (zrecv 8)), none],
  [none, some (zo_loadI 371 5), none, some (zo_ic zeqn 376 374), none, none, some (zo_push 375 (.inl ((.ofNat 0, .ofNat 0), none))), none, some (zo_loadI 378 5), none, some (zo_if zd_ne 393 381), none, none, some (zo_loadA 382 3), some (zo_push 383 (.inl ((.ofNat 0, .ofNat 0), none))), none],
  [some (zo_loadI 386 6), none, none, some (zo_lcmp 388), some (zo_if zd_eq 393 391), none, none, some (zo_push 392 (.inl ((.ofNat 0, .ofNat 0), none))), none, some (zo_goto 1491), none, none, some (zo_loadA 397 1), some (zo_loadA 398 0), some (zo_loadI 400 4), none],
  [some (zo_push 401 (.inl ((.ofNat 1, .ofNat 1), none))), some (zo_add 402), some (zo_sld 403 sc), some (zo_loadA 404 0), some (zo_loadI 406 4), none, some (zo_push 407 (.inl ((.ofNat 2, .ofNat 2), none))), some (zo_add 408), some (zo_sld 409 sc), some (zo_call 412 93 3 0 0 600002 7302232 (zrecv 7)), none, none, some (zo_loadA 413 2), some (zo_loadA 414 0), some (zo_loadI 416 4), none],
  [some (zo_push 417 (.inl ((.ofNat 1, .ofNat 1), none))), some (zo_add 418), some (zo_sld 419 sc), some (zo_loadA 420 0), some (zo_loadI 422 4), none, some (zo_push 423 (.inl ((.ofNat 2, .ofNat 2), none))), some (zo_add 424), some (zo_sld 425 sc), some (zo_call 428 174 3 0 0 600002 7302232 (zrecv 8)), none, none, some (zo_ic zeqn 1491 431), none, none, some (zo_push 432 (.inl ((.ofNat 0, .ofNat 0), none)))],
  [none, some (zo_loadA 434 1), some (zo_loadA 435 0), some (zo_loadI 437 4), none, some (zo_push 438 (.inl ((.ofNat 1, .ofNat 1), none))), some (zo_add 439), some (zo_sld 440 sc), some (zo_loadA 441 0), some (zo_loadI 443 4), none, some (zo_push 444 (.inl ((.ofNat 2, .ofNat 2), none))), some (zo_add 445), some (zo_sld 446 sc), some (zo_call 449 125 3 0 0 600002 7302232 (zrecv 7)), none],
  [none, some (zo_loadA 450 2), some (zo_loadA 451 0), some (zo_loadI 453 4), none, some (zo_push 454 (.inl ((.ofNat 1, .ofNat 1), none))), some (zo_add 455), some (zo_sld 456 sc), some (zo_loadA 457 0), some (zo_loadI 459 4), none, some (zo_push 460 (.inl ((.ofNat 2, .ofNat 2), none))), some (zo_add 461), some (zo_sld 462 sc), some (zo_call 465 213 3 0 0 600002 7302232 (zrecv 8)), none],
  [none, some (zo_ic zeqn 1491 468), none, none, some (zo_push 469 (.inl ((.ofNat 0, .ofNat 0), none))), none, some (zo_loadA 471 1), some (zo_loadA 472 0), some (zo_loadI 474 4), none, some (zo_push 475 (.inl ((.ofNat 1, .ofNat 1), none))), some (zo_add 476), some (zo_sld 477 sc), some (zo_loadA 478 0), some (zo_loadI 480 4), none],
  [some (zo_push 481 (.inl ((.ofNat 2, .ofNat 2), none))), some (zo_add 482), some (zo_sld 483 sc), some (zo_loadA 484 0), some (zo_loadI 486 4), none, some (zo_push 487 (.inl ((.ofNat 3, .ofNat 3), none))), some (zo_add 488), some (zo_sld 489 sc), some (zo_loadA 490 0), some (zo_loadI 492 4), none, some (zo_push 493 (.inl ((.ofNat 4, .ofNat 4), none))), some (zo_add 494), some (zo_sld 495 sc), some (zo_call 498 127 5 0 0 600002 7302232 (zrecv 7))],
  [none, none, some (zo_loadA 499 2), some (zo_loadA 500 0), some (zo_loadI 502 4), none, some (zo_push 503 (.inl ((.ofNat 1, .ofNat 1), none))), some (zo_add 504), some (zo_sld 505 sc), some (zo_loadA 506 0), some (zo_loadI 508 4), none, some (zo_push 509 (.inl ((.ofNat 2, .ofNat 2), none))), some (zo_add 510), some (zo_sld 511 sc), some (zo_loadA 512 0)],
  [some (zo_loadI 514 4), none, some (zo_push 515 (.inl ((.ofNat 3, .ofNat 3), none))), some (zo_add 516), some (zo_sld 517 sc), some (zo_loadA 518 0), some (zo_loadI 520 4), none, some (zo_push 521 (.inl ((.ofNat 4, .ofNat 4), none))), some (zo_add 522), some (zo_sld 523 sc), some (zo_call 526 215 5 0 0 600002 7302232 (zrecv 8)), none, none, some (zo_ic zeqn 1491 529), none],
  [none, some (zo_push 530 (.inl ((.ofNat 0, .ofNat 0), none))), none, some (zo_loadA 532 1), some (zo_call 535 120 1 0 0 600002 7302232 (zrecv 7)), none, none, some (zo_loadA 536 2), some (zo_call 539 209 1 0 0 600002 7302232 (zrecv 8)), none, none, some (zo_ic zeqn 1491 542), none, none, some (zo_push 543 (.inl ((.ofNat 0, .ofNat 0), none))), none],
  [some (zo_loadA 545 1), some (zo_loadA 546 0), some (zo_loadI 548 4), none, some (zo_push 549 (.inl ((.ofNat 1, .ofNat 1), none))), some (zo_add 550), some (zo_sld 551 sc), some (zo_loadA 552 0), some (zo_loadI 554 4), none, some (zo_push 555 (.inl ((.ofNat 2, .ofNat 2), none))), some (zo_add 556), some (zo_sld 557 sc), some (zo_call 560 91 3 0 0 600002 7302232 (zrecv 7)), none, none],
  [some (zo_loadA 561 2), some (zo_loadA 562 0), some (zo_loadI 564 4), none, some (zo_push 565 (.inl ((.ofNat 1, .ofNat 1), none))), some (zo_add 566), some (zo_sld 567 sc), some (zo_loadA 568 0), some (zo_loadI 570 4), none, some (zo_push 571 (.inl ((.ofNat 2, .ofNat 2), none))), some (zo_add 572), some (zo_sld 573 sc), some (zo_call 576 171 3 0 0 600002 7302232 (zrecv 8)), none, none],
  [some (zo_ic zeqn 1491 579), none, none, some (zo_push 580 (.inl ((.ofNat 0, .ofNat 0), none))), none, some (zo_loadA 582 1), some (zo_loadA 583 0), some (zo_loadI 585 4), none, some (zo_push 586 (.inl ((.ofNat 1, .ofNat 1), none))), some (zo_add 587), some (zo_sld 588 sc), some (zo_call 591 96 2 0 0 600002 7302232 (zrecv 7)), none, none, some (zo_loadA 592 2)],
  [some (zo_loadA 593 0), some (zo_loadI 595 4), none, some (zo_push 596 (.inl ((.ofNat 1, .ofNat 1), none))), some (zo_add 597), some (zo_sld 598 sc), some (zo_call 601 179 2 0 0 600002 7302232 (zrecv 8)), none, none, some (zo_ic zeqn 1491 604), none, none, some (zo_push 605 (.inl ((.ofNat 0, .ofNat 0), none))), none, some (zo_loadA 607 1), some (zo_loadA 608 0)],
  [some (zo_loadI 610 4), none, some (zo_push 611 (.inl ((.ofNat 1, .ofNat 1), none))), some (zo_add 612), some (zo_sld 613 sc), some (zo_call 616 109 2 0 0 600002 7302232 (zrecv 7)), none, none, some (zo_loadA 617 2), some (zo_loadA 618 0), some (zo_loadI 620 4), none, some (zo_push 621 (.inl ((.ofNat 1, .ofNat 1), none))), some (zo_add 622), some (zo_sld 623 sc), some (zo_call 626 200 2 0 0 600002 7302232 (zrecv 8))],
  [none, none, some (zo_ic zeqn 1491 629), none, none, some (zo_push 630 (.inl ((.ofNat 0, .ofNat 0), none))), none, some (zo_loadA 632 1), some (zo_call 635 140 1 0 0 600002 7302232 (zrecv 7)), none, none, some (zo_loadA 636 2), some (zo_call 639 233 1 0 0 600002 7302232 (zrecv 8)), none, none, some (zo_ic zeqn 1491 642)],
  [none, none, some (zo_push 643 (.inl ((.ofNat 0, .ofNat 0), none))), none, some (zo_loadA 645 1), some (zo_call 648 137 1 0 0 600002 7302232 (zrecv 7)), none, none, some (zo_loadA 649 2), some (zo_call 652 229 1 0 0 600002 7302232 (zrecv 8)), none, none, some (zo_ic zeqn 1491 655), none, none, some (zo_push 656 (.inl ((.ofNat 0, .ofNat 0), none)))],
  [none, some (zo_loadA 658 1), some (zo_call 661 89 1 0 0 600002 7302232 (zrecv 7)), none, none, some (zo_loadA 662 2), some (zo_call 665 170 1 0 0 600002 7302232 (zrecv 8)), none, none, some (zo_ic zeqn 1491 668), none, none, some (zo_push 669 (.inl ((.ofNat 0, .ofNat 0), none))), none, some (zo_loadA 671 1), some (zo_loadA 672 0)],
  [some (zo_loadI 674 4), none, some (zo_push 675 (.inl ((.ofNat 1, .ofNat 1), none))), some (zo_add 676), some (zo_sld 677 sc), some (zo_call 680 85 2 0 0 600002 7302232 (zrecv 7)), none, none, some (zo_loadA 681 2), some (zo_loadA 682 0), some (zo_loadI 684 4), none, some (zo_push 685 (.inl ((.ofNat 1, .ofNat 1), none))), some (zo_add 686), some (zo_sld 687 sc), some (zo_call 690 164 2 0 0 600002 7302232 (zrecv 8))],
  [none, none, some (zo_ic zeqn 1491 693), none, none, some (zo_push 694 (.inl ((.ofNat 0, .ofNat 0), none))), none, some (zo_loadA 696 1), some (zo_loadA 697 0), some (zo_loadI 699 4), none, some (zo_push 700 (.inl ((.ofNat 1, .ofNat 1), none))), some (zo_add 701), some (zo_sld 702 sc), some (zo_call 705 103 2 0 0 600002 7302232 (zrecv 7)), none],
  [none, some (zo_loadA 706 2), some (zo_loadA 707 0), some (zo_loadI 709 4), none, some (zo_push 710 (.inl ((.ofNat 1, .ofNat 1), none))), some (zo_add 711), some (zo_sld 712 sc), some (zo_call 715 189 2 0 0 600002 7302232 (zrecv 8)), none, none, some (zo_ic zeqn 1491 718), none, none, some (zo_push 719 (.inl ((.ofNat 0, .ofNat 0), none))), none],
  [some (zo_loadA 721 1), some (zo_loadA 722 0), some (zo_loadI 724 4), none, some (zo_push 725 (.inl ((.ofNat 1, .ofNat 1), none))), some (zo_add 726), some (zo_sld 727 sc), some (zo_call 730 138 2 0 0 600002 7302232 (zrecv 7)), none, none, some (zo_loadA 731 2), some (zo_loadA 732 0), some (zo_loadI 734 4), none, some (zo_push 735 (.inl ((.ofNat 1, .ofNat 1), none))), some (zo_add 736)],
  [some (zo_sld 737 sc), some (zo_call 740 230 2 0 0 600002 7302232 (zrecv 8)), none, none, some (zo_ic zeqn 1491 743), none, none, some (zo_push 744 (.inl ((.ofNat 0, .ofNat 0), none))), none, some (zo_loadA 746 1), some (zo_call 749 136 1 0 0 600002 7302232 (zrecv 7)), none, none, some (zo_loadA 750 2), some (zo_call 753 228 1 0 0 600002 7302232 (zrecv 8)), none],
  [none, some (zo_ic zeqn 1491 756), none, none, some (zo_push 757 (.inl ((.ofNat 0, .ofNat 0), none))), none, some (zo_loadA 759 1), some (zo_call 762 80 1 0 0 600002 7302232 (zrecv 7)), none, none, some (zo_loadA 763 2), some (zo_call 766 157 1 0 0 600002 7302232 (zrecv 8)), none, none, some (zo_ic zeqn 1491 769), none],
  [none, some (zo_push 770 (.inl ((.ofNat 0, .ofNat 0), none))), none, some (zo_loadA 772 1), some (zo_call 775 84 1 0 0 600002 7302232 (zrecv 7)), none, none, some (zo_loadA 776 2), some (zo_call 779 162 1 0 0 600002 7302232 (zrecv 8)), none, none, some (zo_ic zeqn 1491 782), none, none, some (zo_push 783 (.inl ((.ofNat 0, .ofNat 0), none))), none],
  [some (zo_loadA 785 1), some (zo_call 788 74 1 0 0 600002 7302232 (zrecv 7)), none, none, some (zo_loadA 789 2), some (zo_call 792 149 1 0 0 600002 7302232 (zrecv 8)), none, none, some (zo_ic zeqn 1491 795), none, none, some (zo_push 796 (.inl ((.ofNat 0, .ofNat 0), none))), none, some (zo_loadA 798 1), some (zo_call 801 122 1 0 0 600002 7302232 (zrecv 7)), none],
  [none, some (zo_loadA 802 2), some (zo_call 805 210 1 0 0 600002 7302232 (zrecv 8)), none, none, some (zo_ic zeqn 1491 808), none, none, some (zo_push 809 (.inl ((.ofNat 0, .ofNat 0), none))), none, some (zo_loadA 811 1), some (zo_loadA 812 0), some (zo_loadI 814 4), none, some (zo_push 815 (.inl ((.ofNat 1, .ofNat 1), none))), some (zo_add 816)],
  [some (zo_sld 817 sc), some (zo_call 820 107 2 0 0 600002 7302232 (zrecv 7)), none, none, some (zo_loadA 821 2), some (zo_loadA 822 0), some (zo_loadI 824 4), none, some (zo_push 825 (.inl ((.ofNat 1, .ofNat 1), none))), some (zo_add 826), some (zo_sld 827 sc), some (zo_call 830 197 2 0 0 600002 7302232 (zrecv 8)), none, none, some (zo_ic zeqn 1491 833), none],
  [none, some (zo_push 834 (.inl ((.ofNat 0, .ofNat 0), none))), none, some (zo_loadA 836 1), some (zo_call 839 132 1 0 0 600002 7302232 (zrecv 7)), none, none, some (zo_loadA 840 2), some (zo_call 843 221 1 0 0 600002 7302232 (zrecv 8)), none, none, some (zo_ic zeqn 1491 846), none, none, some (zo_push 847 (.inl ((.ofNat 0, .ofNat 0), none))), none],
  [some (zo_loadA 849 1), some (zo_loadA 850 0), some (zo_loadI 852 4), none, some (zo_push 853 (.inl ((.ofNat 1, .ofNat 1), none))), some (zo_add 854), some (zo_sld 855 sc), some (zo_call 858 108 2 0 0 600002 7302232 (zrecv 7)), none, none, some (zo_loadA 859 2), some (zo_loadA 860 0), some (zo_loadI 862 4), none, some (zo_push 863 (.inl ((.ofNat 1, .ofNat 1), none))), some (zo_add 864)],
  [some (zo_sld 865 sc), some (zo_call 868 198 2 0 0 600002 7302232 (zrecv 8)), none, none, some (zo_ic zeqn 1491 871), none, none, some (zo_push 872 (.inl ((.ofNat 0, .ofNat 0), none))), none, some (zo_loadA 874 1), some (zo_loadA 875 0), some (zo_loadI 877 4), none, some (zo_push 878 (.inl ((.ofNat 1, .ofNat 1), none))), some (zo_add 879), some (zo_sld 880 sc)],
  [some (zo_call 883 112 2 0 0 600002 7302232 (zrecv 7)), none, none, some (zo_loadA 884 2), some (zo_loadA 885 0), some (zo_loadI 887 4), none, some (zo_push 888 (.inl ((.ofNat 1, .ofNat 1), none))), some (zo_add 889), some (zo_sld 890 sc), some (zo_call 893 202 2 0 0 600002 7302232 (zrecv 8)), none, none, some (zo_ic zeqn 1491 896), none, none],
  [some (zo_push 897 (.inl ((.ofNat 0, .ofNat 0), none))), none, some (zo_loadA 899 1), some (zo_call 902 83 1 0 0 600002 7302232 (zrecv 7)), none, none, some (zo_loadA 903 2), some (zo_call 906 160 1 0 0 600002 7302232 (zrecv 8)), none, none, some (zo_ic zeqn 1491 909), none, none, some (zo_push 910 (.inl ((.ofNat 0, .ofNat 0), none))), none, some (zo_loadA 912 1)],
  [some (zo_call 915 73 1 0 0 600002 7302232 (zrecv 7)), none, none, some (zo_loadA 916 2), some (zo_call 919 148 1 0 0 600002 7302232 (zrecv 8)), none, none, some (zo_ic zeqn 1491 922), none, none, some (zo_push 923 (.inl ((.ofNat 0, .ofNat 0), none))), none, some (zo_loadA 925 1), some (zo_loadA 926 0), some (zo_loadI 928 4), none],
  [some (zo_push 929 (.inl ((.ofNat 1, .ofNat 1), none))), some (zo_add 930), some (zo_sld 931 sc), some (zo_call 934 70 2 0 0 600002 7302232 (zrecv 7)), none, none, some (zo_loadA 935 2), some (zo_loadA 936 0), some (zo_loadI 938 4), none, some (zo_push 939 (.inl ((.ofNat 1, .ofNat 1), none))), some (zo_add 940), some (zo_sld 941 sc), some (zo_call 944 143 2 0 0 600002 7302232 (zrecv 8)), none, none],
  [some (zo_ic zeqn 1491 947), none, none, some (zo_push 948 (.inl ((.ofNat 0, .ofNat 0), none))), none, some (zo_loadA 950 1), some (zo_loadA 951 0), some (zo_loadI 953 4), none, some (zo_push 954 (.inl ((.ofNat 1, .ofNat 1), none))), some (zo_add 955), some (zo_sld 956 sc), some (zo_call 959 130 2 0 0 600002 7302232 (zrecv 7)), none, none, some (zo_loadA 960 2)],
  [some (zo_loadA 961 0), some (zo_loadI 963 4), none, some (zo_push 964 (.inl ((.ofNat 1, .ofNat 1), none))), some (zo_add 965), some (zo_sld 966 sc), some (zo_call 969 219 2 0 0 600002 7302232 (zrecv 8)), none, none, some (zo_ic zeqn 1491 972), none, none, some (zo_push 973 (.inl ((.ofNat 0, .ofNat 0), none))), none, some (zo_loadA 975 1), some (zo_loadA 976 0)],
  [some (zo_loadI 978 4), none, some (zo_push 979 (.inl ((.ofNat 1, .ofNat 1), none))), some (zo_add 980), some (zo_sld 981 sc), some (zo_loadA 982 0), some (zo_loadI 984 4), none, some (zo_push 985 (.inl ((.ofNat 2, .ofNat 2), none))), some (zo_add 986), some (zo_sld 987 sc), some (zo_call 990 126 3 0 0 600002 7302232 (zrecv 7)), none, none, some (zo_loadA 991 2), some (zo_loadA 992 0)],
  [some (zo_loadI 994 4), none, some (zo_push 995 (.inl ((.ofNat 1, .ofNat 1), none))), some (zo_add 996), some (zo_sld 997 sc), some (zo_loadA 998 0), some (zo_loadI 1000 4), none, some (zo_push 1001 (.inl ((.ofNat 2, .ofNat 2), none))), some (zo_add 1002), some (zo_sld 1003 sc), some (zo_call 1006 214 3 0 0 600002 7302232 (zrecv 8)), none, none, some (zo_ic zeqn 1491 1009), none],
  [none, some (zo_push 1010 (.inl ((.ofNat 0, .ofNat 0), none))), none, some (zo_loadA 1012 1), some (zo_call 1015 135 1 0 0 600002 7302232 (zrecv 7)), none, none, some (zo_loadA 1016 2), some (zo_call 1019 225 1 0 0 600002 7302232 (zrecv 8)), none, none, some (zo_ic zeqn 1491 1022), none, none, some (zo_push 1023 (.inl ((.ofNat 0, .ofNat 0), none))), none],
  [some (zo_loadA 1025 1), some (zo_call 1028 76 1 0 0 600002 7302232 (zrecv 7)), none, none, some (zo_loadA 1029 2), some (zo_call 1032 152 1 0 0 600002 7302232 (zrecv 8)), none, none, some (zo_ic zeqn 1491 1035), none, none, some (zo_push 1036 (.inl ((.ofNat 0, .ofNat 0), none))), none, some (zo_loadA 1038 1), some (zo_call 1041 129 1 0 0 600002 7302232 (zrecv 7)), none],
  [none, some (zo_loadA 1042 2), some (zo_call 1045 217 1 0 0 600002 7302232 (zrecv 8)), none, none, some (zo_ic zeqn 1491 1048), none, none, some (zo_push 1049 (.inl ((.ofNat 0, .ofNat 0), none))), none, some (zo_loadA 1051 1), some (zo_loadA 1052 0), some (zo_loadI 1054 4), none, some (zo_push 1055 (.inl ((.ofNat 1, .ofNat 1), none))), some (zo_add 1056)],
  [some (zo_sld 1057 sc), some (zo_loadA 1058 0), some (zo_loadI 1060 4), none, some (zo_push 1061 (.inl ((.ofNat 2, .ofNat 2), none))), some (zo_add 1062), some (zo_sld 1063 sc), some (zo_loadA 1064 0), some (zo_loadI 1066 4), none, some (zo_push 1067 (.inl ((.ofNat 3, .ofNat 3), none))), some (zo_add 1068), some (zo_sld 1069 sc), some (zo_call 1072 106 4 0 0 600002 7302232 (zrecv 7)), none, none],
  [some (zo_loadA 1073 2), some (zo_loadA 1074 0), some (zo_loadI 1076 4), none, some (zo_push 1077 (.inl ((.ofNat 1, .ofNat 1), none))), some (zo_add 1078), some (zo_sld 1079 sc), some (zo_loadA 1080 0), some (zo_loadI 1082 4), none, some (zo_push 1083 (.inl ((.ofNat 2, .ofNat 2), none))), some (zo_add 1084), some (zo_sld 1085 sc), some (zo_loadA 1086 0), some (zo_loadI 1088 4), none],
  [some (zo_push 1089 (.inl ((.ofNat 3, .ofNat 3), none))), some (zo_add 1090), some (zo_sld 1091 sc), some (zo_call 1094 196 4 0 0 600002 7302232 (zrecv 8)), none, none, some (zo_ic zeqn 1491 1097), none, none, some (zo_push 1098 (.inl ((.ofNat 0, .ofNat 0), none))), none, some (zo_loadA 1100 1), some (zo_loadA 1101 0), some (zo_loadI 1103 4), none, some (zo_push 1104 (.inl ((.ofNat 1, .ofNat 1), none)))],
  [some (zo_add 1105), some (zo_sld 1106 sc), some (zo_loadA 1107 0), some (zo_loadI 1109 4), none, some (zo_push 1110 (.inl ((.ofNat 2, .ofNat 2), none))), some (zo_add 1111), some (zo_sld 1112 sc), some (zo_loadA 1113 0), some (zo_loadI 1115 4), none, some (zo_push 1116 (.inl ((.ofNat 3, .ofNat 3), none))), some (zo_add 1117), some (zo_sld 1118 sc), some (zo_call 1121 88 4 0 0 600002 7302232 (zrecv 7)), none],
  [none, some (zo_loadA 1122 2), some (zo_loadA 1123 0), some (zo_loadI 1125 4), none, some (zo_push 1126 (.inl ((.ofNat 1, .ofNat 1), none))), some (zo_add 1127), some (zo_sld 1128 sc), some (zo_loadA 1129 0), some (zo_loadI 1131 4), none, some (zo_push 1132 (.inl ((.ofNat 2, .ofNat 2), none))), some (zo_add 1133), some (zo_sld 1134 sc), some (zo_loadA 1135 0), some (zo_loadI 1137 4)],
  [none, some (zo_push 1138 (.inl ((.ofNat 3, .ofNat 3), none))), some (zo_add 1139), some (zo_sld 1140 sc), some (zo_call 1143 169 4 0 0 600002 7302232 (zrecv 8)), none, none, some (zo_ic zeqn 1491 1146), none, none, some (zo_push 1147 (.inl ((.ofNat 0, .ofNat 0), none))), none, some (zo_loadA 1149 1), some (zo_call 1152 87 1 0 0 600002 7302232 (zrecv 7)), none, none],
  [some (zo_loadA 1153 2), some (zo_call 1156 168 1 0 0 600002 7302232 (zrecv 8)), none, none, some (zo_ic zeqn 1491 1159), none, none, some (zo_push 1160 (.inl ((.ofNat 0, .ofNat 0), none))), none, some (zo_loadA 1162 1), some (zo_call 1165 86 1 0 0 600002 7302232 (zrecv 7)), none, none, some (zo_loadA 1166 2), some (zo_call 1169 166 1 0 0 600002 7302232 (zrecv 8)), none],
  [none, some (zo_ic zeqn 1491 1172), none, none, some (zo_push 1173 (.inl ((.ofNat 0, .ofNat 0), none))), none, some (zo_loadA 1175 1), some (zo_loadA 1176 0), some (zo_loadI 1178 4), none, some (zo_push 1179 (.inl ((.ofNat 1, .ofNat 1), none))), some (zo_add 1180), some (zo_sld 1181 sc), some (zo_loadA 1182 0), some (zo_loadI 1184 4), none],
  [some (zo_push 1185 (.inl ((.ofNat 2, .ofNat 2), none))), some (zo_add 1186), some (zo_sld 1187 sc), some (zo_call 1190 131 3 0 0 600002 7302232 (zrecv 7)), none, none, some (zo_loadA 1191 2), some (zo_loadA 1192 0), some (zo_loadI 1194 4), none, some (zo_push 1195 (.inl ((.ofNat 1, .ofNat 1), none))), some (zo_add 1196), some (zo_sld 1197 sc), some (zo_loadA 1198 0), some (zo_loadI 1200 4), none],
  [some (zo_push 1201 (.inl ((.ofNat 2, .ofNat 2), none))), some (zo_add 1202), some (zo_sld 1203 sc), some (zo_call 1206 220 3 0 0 600002 7302232 (zrecv 8)), none, none, some (zo_ic zeqn 1491 1209), none, none, some (zo_push 1210 (.inl ((.ofNat 0, .ofNat 0), none))), none, some (zo_loadA 1212 1), some (zo_call 1215 72 1 0 0 600002 7302232 (zrecv 7)), none, none, some (zo_loadA 1216 2)],
  [some (zo_call 1219 147 1 0 0 600002 7302232 (zrecv 8)), none, none, some (zo_ic zeqn 1491 1222), none, none, some (zo_push 1223 (.inl ((.ofNat 0, .ofNat 0), none))), none, some (zo_loadA 1225 1), some (zo_loadA 1226 0), some (zo_loadI 1228 4), none, some (zo_push 1229 (.inl ((.ofNat 1, .ofNat 1), none))), some (zo_add 1230), some (zo_sld 1231 sc), some (zo_call 1234 95 2 0 0 600002 7302232 (zrecv 7))],
  [none, none, some (zo_loadA 1235 2), some (zo_loadA 1236 0), some (zo_loadI 1238 4), none, some (zo_push 1239 (.inl ((.ofNat 1, .ofNat 1), none))), some (zo_add 1240), some (zo_sld 1241 sc), some (zo_call 1244 176 2 0 0 600002 7302232 (zrecv 8)), none, none, some (zo_ic zeqn 1491 1247), none, none, some (zo_push 1248 (.inl ((.ofNat 0, .ofNat 0), none)))],
  [none, some (zo_loadA 1250 1), some (zo_loadA 1251 0), some (zo_loadI 1253 4), none, some (zo_push 1254 (.inl ((.ofNat 1, .ofNat 1), none))), some (zo_add 1255), some (zo_sld 1256 sc), some (zo_call 1259 102 2 0 0 600002 7302232 (zrecv 7)), none, none, some (zo_loadA 1260 2), some (zo_loadA 1261 0), some (zo_loadI 1263 4), none, some (zo_push 1264 (.inl ((.ofNat 1, .ofNat 1), none)))],
  [some (zo_add 1265), some (zo_sld 1266 sc), some (zo_call 1269 188 2 0 0 600002 7302232 (zrecv 8)), none, none, some (zo_ic zeqn 1491 1272), none, none, some (zo_push 1273 (.inl ((.ofNat 0, .ofNat 0), none))), none, some (zo_loadA 1275 1), some (zo_loadA 1276 0), some (zo_loadI 1278 4), none, some (zo_push 1279 (.inl ((.ofNat 1, .ofNat 1), none))), some (zo_add 1280)],
  [some (zo_sld 1281 sc), some (zo_loadA 1282 0), some (zo_loadI 1284 4), none, some (zo_push 1285 (.inl ((.ofNat 2, .ofNat 2), none))), some (zo_add 1286), some (zo_sld 1287 sc), some (zo_call 1290 117 3 0 0 600002 7302232 (zrecv 7)), none, none, some (zo_loadA 1291 2), some (zo_loadA 1292 0), some (zo_loadI 1294 4), none, some (zo_push 1295 (.inl ((.ofNat 1, .ofNat 1), none))), some (zo_add 1296)],
  [some (zo_sld 1297 sc), some (zo_loadA 1298 0), some (zo_loadI 1300 4), none, some (zo_push 1301 (.inl ((.ofNat 2, .ofNat 2), none))), some (zo_add 1302), some (zo_sld 1303 sc), some (zo_call 1306 206 3 0 0 600002 7302232 (zrecv 8)), none, none, some (zo_ic zeqn 1491 1309), none, none, some (zo_push 1310 (.inl ((.ofNat 0, .ofNat 0), none))), none, some (zo_loadA 1312 1)],
  [some (zo_call 1315 104 1 0 0 600002 7302232 (zrecv 7)), none, none, some (zo_loadA 1316 2), some (zo_call 1319 190 1 0 0 600002 7302232 (zrecv 8)), none, none, some (zo_ic zeqn 1491 1322), none, none, some (zo_push 1323 (.inl ((.ofNat 0, .ofNat 0), none))), none, some (zo_loadA 1325 1), some (zo_loadA 1326 0), some (zo_loadI 1328 4), none],
  [some (zo_push 1329 (.inl ((.ofNat 1, .ofNat 1), none))), some (zo_add 1330), some (zo_sld 1331 sc), some (zo_loadA 1332 0), some (zo_loadI 1334 4), none, some (zo_push 1335 (.inl ((.ofNat 2, .ofNat 2), none))), some (zo_add 1336), some (zo_sld 1337 sc), some (zo_call 1340 142 3 0 0 600002 7302232 (zrecv 7)), none, none, some (zo_loadA 1341 2), some (zo_loadA 1342 0), some (zo_loadI 1344 4), none],
  [some (zo_push 1345 (.inl ((.ofNat 1, .ofNat 1), none))), some (zo_add 1346), some (zo_sld 1347 sc), some (zo_loadA 1348 0), some (zo_loadI 1350 4), none, some (zo_push 1351 (.inl ((.ofNat 2, .ofNat 2), none))), some (zo_add 1352), some (zo_sld 1353 sc), some (zo_call 1356 234 3 0 0 600002 7302232 (zrecv 8)), none, none, some (zo_ic zeqn 1491 1359), none, none, some (zo_push 1360 (.inl ((.ofNat 0, .ofNat 0), none)))],
  [none, some (zo_loadA 1362 1), some (zo_loadA 1363 0), some (zo_loadI 1365 4), none, some (zo_push 1366 (.inl ((.ofNat 1, .ofNat 1), none))), some (zo_add 1367), some (zo_sld 1368 sc), some (zo_call 1371 101 2 0 0 600002 7302232 (zrecv 7)), none, none, some (zo_loadA 1372 2), some (zo_loadA 1373 0), some (zo_loadI 1375 4), none, some (zo_push 1376 (.inl ((.ofNat 1, .ofNat 1), none)))],
  [some (zo_add 1377), some (zo_sld 1378 sc), some (zo_call 1381 187 2 0 0 600002 7302232 (zrecv 8)), none, none, some (zo_ic zeqn 1491 1384), none, none, some (zo_push 1385 (.inl ((.ofNat 0, .ofNat 0), none))), none, some (zo_loadA 1387 1), some (zo_loadA 1388 0), some (zo_loadI 1390 4), none, some (zo_push 1391 (.inl ((.ofNat 1, .ofNat 1), none))), some (zo_add 1392)],
  [some (zo_sld 1393 sc), some (zo_call 1396 71 2 0 0 600002 7302232 (zrecv 7)), none, none, some (zo_loadA 1397 2), some (zo_loadA 1398 0), some (zo_loadI 1400 4), none, some (zo_push 1401 (.inl ((.ofNat 1, .ofNat 1), none))), some (zo_add 1402), some (zo_sld 1403 sc), some (zo_call 1406 145 2 0 0 600002 7302232 (zrecv 8)), none, none, some (zo_ic zeqn 1491 1409), none],
  [none, some (zo_push 1410 (.inl ((.ofNat 0, .ofNat 0), none))), none, some (zo_loadA 1412 1), some (zo_loadA 1413 0), some (zo_loadI 1415 4), none, some (zo_push 1416 (.inl ((.ofNat 1, .ofNat 1), none))), some (zo_add 1417), some (zo_sld 1418 sc), some (zo_call 1421 77 2 0 0 600002 7302232 (zrecv 7)), none, none, some (zo_loadA 1422 2), some (zo_loadA 1423 0), some (zo_loadI 1425 4)],
  [none, some (zo_push 1426 (.inl ((.ofNat 1, .ofNat 1), none))), some (zo_add 1427), some (zo_sld 1428 sc), some (zo_call 1431 154 2 0 0 600002 7302232 (zrecv 8)), none, none, some (zo_ic zeqn 1491 1434), none, none, some (zo_push 1435 (.inl ((.ofNat 0, .ofNat 0), none))), none, some (zo_loadA 1437 1), some (zo_loadA 1438 0), some (zo_loadI 1440 4), none],
  [some (zo_push 1441 (.inl ((.ofNat 1, .ofNat 1), none))), some (zo_add 1442), some (zo_sld 1443 sc), some (zo_loadA 1444 3), none, none, none, some (zo_stI 1449 5), none, some (zo_loadA 1450 2), some (zo_loadA 1451 0), some (zo_loadI 1453 4), none, some (zo_push 1454 (.inl ((.ofNat 1, .ofNat 1), none))), some (zo_add 1455), some (zo_sld 1456 sc)],
  [some (zo_call 1459 211 2 0 0 600002 7302232 (zrecv 8)), none, none, some (zo_stL 1461 6), none, some (zo_loadA 1462 2), some (zo_call 1465 226 1 0 0 600002 7302232 (zrecv 8)), none, none, some (zo_loadI 1467 5), none, some (zo_ic zeqn 1472 1470), none, none, some (zo_push 1471 (.inl ((.ofNat 0, .ofNat 0), none))), none],
  [some (zo_loadI 1474 5), none, some (zo_if zd_ne 1488 1477), none, none, some (zo_loadA 1478 3), some (zo_push 1479 (.inl ((.ofNat 0, .ofNat 0), none))), none, some (zo_loadL 1482 6), none, some (zo_lcmp 1483), some (zo_if zd_eq 1488 1486), none, none, some (zo_push 1487 (.inl ((.ofNat 0, .ofNat 0), none))), none],
  [some (zo_goto 1491), none, none, some (zo_inc 1494 4 (.ofNat 5)), none, none, some (zo_goto 23), none, none, some (zo_push 1498 (.inl ((.ofNat 1, .ofNat 1), none))), some (zo_fin)]]
set_option maxRecDepth 100000 in
set_option maxHeartbeats 4000000 in
theorem okLaw {p : Program} {l : Launch} {e : Env} {s : State} {m : MethodId} {below : List Frame} {meth : Method} {c0 : Code} {b L : Nat} {xs : Nat → Int32} {D : va_G} {tys : List (ClassId × FieldType)} {o : zO} {z : Nat} {lq : zI} {sc : List zN} {jq : zI} {nm : String} (E : zEnv tys) (C : zCx p room_1 s m #[Value.ref b] meth c0 D vwCl tys z (zXX o z) zTs RL cL_law 8 nm) (hX : va_X o.1 L xs s s.heap) (hbl : o.1 < s.heap.size) (hbA : ¬ zA z o.1) (hz : z = s.heap.size) (hlq : zmem lq (Int32.ofNat L).toInt) (hsc : ∀ (i : Nat) (q : zN), sc[i]? = some q → i < L ∧ zmi q.1 (xs i) ∧ ztg o.2.2 q.2 (xs i)) (hr : meth.sig.returnType = ret) (hlocks : meth.locks = false) (hj : zmi jq (o.2.2 0 &&& 63)) : ∀ pc sem, zrget (kLaw lq sc jq) pc = some (some sem) → zOp p l e room_1 s m #[Value.ref b] below meth c0 (lw_Z below #[Value.ref b] s) D vwCl tys o z (zXX o z) zTs zprog [] 8 cL_law (some .boolean) pc sem := by
  intro pc sem h
  have hbc : room_1.cells = 600002 := rfl
  have hbs : room_1.slots = 7302232 := rfl
  have hX0 : z = s.heap.size ∧ meth.sig.returnType = ret ∧ meth.locks = false := ⟨hz, hr, hlocks⟩
  refine zRows_get (P := fun pc sem => zOp p l e room_1 s m #[Value.ref b] below meth c0 (lw_Z below #[Value.ref b] s) D vwCl tys o z (zXX o z) zTs zprog [] 8 cL_law (some .boolean) pc sem) (c := kLaw lq sc jq) ?_ h
  unfold kLaw
  exact (zrs_c (zr_s (zk_new C hbc hbs dL_law_0 (show vwCl[7]? = some (RX7, TX7, 16) from rfl) zinX7 tyX7 tyX7_ok zw23 zw24 zw1 zdfX7 (fun ad => zfrX7 o ad))
    (zr_n (zr_n (zr_s (zk_dup C dL_law_3)
    (zr_s (zk_callI (n := 0) C zXX_ok zTs_good hbc hbs (show zget zprog 97 = some mX7_init from rfl) rfl rfl rfl zw27 zw25 zw26 zw1 rfl (by decide +kernel) dL_law_4)
    (zr_n (zr_n (zr_s (zq_astore_n C dL_law_7 rfl (by decide))
    (zr_s (zk_new C hbc hbs dL_law_8 (show vwCl[8]? = some (RX8, TX8, 51) from rfl) zinX8 tyX8 tyX8_ok zw1165 zw1166 zw16 zdfX8 (fun ad => zfrX8 o ad))
    (zr_n (zr_n (zr_s (zk_dup C dL_law_11)
    (zr_s (zk_callI (n := 0) C zXX_ok zTs_good hbc hbs (show zget zprog 182 = some mX8_init from rfl) rfl rfl rfl zw1169 zw1167 zw1168 zw16 rfl (by decide +kernel) dL_law_12)
    (zr_n (zr_n (zr_s (zq_astore_n C dL_law_15 rfl (by decide))
    zr_0))))))))))))))))
  (zrs_c (zr_s (zq_iconst (n := .ofNat 1) C dL_law_16 (by decide))
    (zr_s (zq_newJ C hbc hbs dL_law_17 zw406 E.2.1)
    (zr_n (zr_s (zq_astore_n C dL_law_19 rfl (by decide))
    (zr_s (zq_iconst (n := .ofNat 0) C dL_law_20 (by decide))
    (zr_s (zq_istore C dL_law_21 (by decide))
    (zr_n (zr_s (zq_iload C dL_law_23)
    (zr_n (zr_s (zq_aload_n C dL_law_25 rfl)
    (zr_s (zk_slen C hX hbl hbA hlq dL_law_26)
    (zr_s (zq_iconst (n := .ofNat 5) C dL_law_27 (by decide))
    (zr_s (zk_sub C dL_law_28)
    (zr_s (zq_icmp_gt C dL_law_29 (by decide))
    (zr_n (zr_n zr_0))))))))))))))))
  (zrs_c (zr_s (zq_aload_n C dL_law_32 rfl)
    (zr_s (zq_iload C dL_law_33)
    (zr_n (zr_s (zk_sld C hX hbl hbA hsc dL_law_35)
    (zr_s (zq_bipush (n := .ofNat 63) C dL_law_36 (by decide) (by decide))
    (zr_n (zr_s (zk_msk C hj dL_law_38)
    (zr_s (zk_tab C dL_law_39 (by decide) (by decide) (fun k t h => zswT (pc := 39) (offs := [(.ofNat 213), (.ofNat 238), (.ofNat 263), (.ofNat 276), (.ofNat 289), (.ofNat 357), (.ofNat 394), (.ofNat 431), (.ofNat 492), (.ofNat 505), (.ofNat 542), (.ofNat 567), (.ofNat 592), (.ofNat 605), (.ofNat 618), (.ofNat 631), (.ofNat 656), (.ofNat 681), (.ofNat 706), (.ofNat 719), (.ofNat 732), (.ofNat 745), (.ofNat 758), (.ofNat 771), (.ofNat 796), (.ofNat 809), (.ofNat 834), (.ofNat 859), (.ofNat 872), (.ofNat 885), (.ofNat 910), (.ofNat 935), (.ofNat 972), (.ofNat 985), (.ofNat 998), (.ofNat 1011), (.ofNat 1060), (.ofNat 1109), (.ofNat 1122), (.ofNat 1135), (.ofNat 1172), (.ofNat 1185), (.ofNat 1210), (.ofNat 1235), (.ofNat 1272), (.ofNat 1285), (.ofNat 1322), (.ofNat 1347), (.ofNat 1372), (.ofNat 1397)]) (by decide) h))
    (zr_n (zr_n (zr_n (zr_n (zr_n (zr_n (zr_n (zr_n zr_0))))))))))))))))
  (zrs_c (zr_n (zr_n (zr_n (zr_n (zr_n (zr_n (zr_n (zr_n (zr_n (zr_n (zr_n (zr_n (zr_n (zr_n (zr_n (zr_n zr_0))))))))))))))))
  (zrs_c (zr_n (zr_n (zr_n (zr_n (zr_n (zr_n (zr_n (zr_n (zr_n (zr_n (zr_n (zr_n (zr_n (zr_n (zr_n (zr_n zr_0))))))))))))))))
  (zrs_c (zr_n (zr_n (zr_n (zr_n (zr_n (zr_n (zr_n (zr_n (zr_n (zr_n (zr_n (zr_n (zr_n (zr_n (zr_n (zr_n zr_0))))))))))))))))
  (zrs_c (zr_n (zr_n (zr_n (zr_n (zr_n (zr_n (zr_n (zr_n (zr_n (zr_n (zr_n (zr_n (zr_n (zr_n (zr_n (zr_n zr_0))))))))))))))))
  (zrs_c (zr_n (zr_n (zr_n (zr_n (zr_n (zr_n (zr_n (zr_n (zr_n (zr_n (zr_n (zr_n (zr_n (zr_n (zr_n (zr_n zr_0))))))))))))))))
  (zrs_c (zr_n (zr_n (zr_n (zr_n (zr_n (zr_n (zr_n (zr_n (zr_n (zr_n (zr_n (zr_n (zr_n (zr_n (zr_n (zr_n zr_0))))))))))))))))
  (zrs_c (zr_n (zr_n (zr_n (zr_n (zr_n (zr_n (zr_n (zr_n (zr_n (zr_n (zr_n (zr_n (zr_n (zr_n (zr_n (zr_n zr_0))))))))))))))))
  (zrs_c (zr_n (zr_n (zr_n (zr_n (zr_n (zr_n (zr_n (zr_n (zr_n (zr_n (zr_n (zr_n (zr_n (zr_n (zr_n (zr_n zr_0))))))))))))))))
  (zrs_c (zr_n (zr_n (zr_n (zr_n (zr_n (zr_n (zr_n (zr_n (zr_n (zr_n (zr_n (zr_n (zr_n (zr_n (zr_n (zr_n zr_0))))))))))))))))
  (zrs_c (zr_n (zr_n (zr_n (zr_n (zr_n (zr_n (zr_n (zr_n (zr_n (zr_n (zr_n (zr_n (zr_n (zr_n (zr_n (zr_n zr_0))))))))))))))))
  (zrs_c (zr_n (zr_n (zr_n (zr_n (zr_n (zr_n (zr_n (zr_n (zr_n (zr_n (zr_n (zr_n (zr_n (zr_n (zr_n (zr_n zr_0))))))))))))))))
  (zrs_c (zr_n (zr_n (zr_n (zr_n (zr_n (zr_n (zr_n (zr_n (zr_n (zr_n (zr_n (zr_n (zr_n (zr_n (zr_n (zr_n zr_0))))))))))))))))
  (zrs_c (zr_n (zr_n (zr_n (zr_n (zr_n (zr_n (zr_n (zr_n (zr_n (zr_n (zr_n (zr_n (zr_s (zq_aload_n C dL_law_252 rfl)
    (zr_s (zq_aload_n C dL_law_253 rfl)
    (zr_s (zq_iload C dL_law_254)
    (zr_n zr_0))))))))))))))))
  (zrs_c (zr_s (zq_iconst (n := .ofNat 1) C dL_law_256 (by decide))
    (zr_s (zk_add C dL_law_257)
    (zr_s (zk_sld C hX hbl hbA hsc dL_law_258)
    (zr_s (zk_callV (n := 1) C zXX_ok zTs_good hbc hbs (show zget zprog 128 = some mX7_sign from rfl) rfl rfl (show vwCl[7]? = some (RX7, TX7, 16) from rfl) zw475 zw472 zw473 zw474 zw1 (by decide +kernel) dL_law_259)
    (zr_n (zr_n (zr_s (zq_aload_n C dL_law_262 rfl)
    (zr_s (zq_aload_n C dL_law_263 rfl)
    (zr_s (zq_iload C dL_law_264)
    (zr_n (zr_s (zq_iconst (n := .ofNat 1) C dL_law_266 (by decide))
    (zr_s (zk_add C dL_law_267)
    (zr_s (zk_sld C hX hbl hbA hsc dL_law_268)
    (zr_s (zk_callV (n := 1) C zXX_ok zTs_good hbc hbs (show zget zprog 216 = some mX8_sign from rfl) rfl rfl (show vwCl[8]? = some (RX8, TX8, 51) from rfl) zw1333 zw1330 zw1331 zw1332 zw16 (by decide +kernel) dL_law_269)
    (zr_n (zr_n zr_0))))))))))))))))
  (zrs_c (zr_s (zq_icmp_eq C dL_law_272 (by decide))
    (zr_n (zr_n (zr_s (zq_iconst (n := .ofNat 0) C dL_law_275 (by decide))
    (zr_n (zr_s (zq_aload_n C dL_law_277 rfl)
    (zr_s (zq_aload_n C dL_law_278 rfl)
    (zr_s (zq_iload C dL_law_279)
    (zr_n (zr_s (zq_iconst (n := .ofNat 1) C dL_law_281 (by decide))
    (zr_s (zk_add C dL_law_282)
    (zr_s (zk_sld C hX hbl hbA hsc dL_law_283)
    (zr_s (zk_callV (n := 1) C zXX_ok zTs_good hbc hbs (show zget zprog 82 = some mX7_end from rfl) rfl rfl (show vwCl[7]? = some (RX7, TX7, 16) from rfl) zw483 zw480 zw481 zw482 zw1 (by decide +kernel) dL_law_284)
    (zr_n (zr_n (zr_s (zq_aload_n C dL_law_287 rfl)
    zr_0))))))))))))))))
  (zrs_c (zr_s (zq_aload_n C dL_law_288 rfl)
    (zr_s (zq_iload C dL_law_289)
    (zr_n (zr_s (zq_iconst (n := .ofNat 1) C dL_law_291 (by decide))
    (zr_s (zk_add C dL_law_292)
    (zr_s (zk_sld C hX hbl hbA hsc dL_law_293)
    (zr_s (zk_callV (n := 1) C zXX_ok zTs_good hbc hbs (show zget zprog 159 = some mX8_end from rfl) rfl rfl (show vwCl[8]? = some (RX8, TX8, 51) from rfl) zw1337 zw1334 zw1335 zw1336 zw16 (by decide +kernel) dL_law_294)
    (zr_n (zr_n (zr_s (zq_icmp_eq C dL_law_297 (by decide))
    (zr_n (zr_n (zr_s (zq_iconst (n := .ofNat 0) C dL_law_300 (by decide))
    (zr_n (zr_s (zq_aload_n C dL_law_302 rfl)
    (zr_s (zk_callV (n := 0) C zXX_ok zTs_good hbc hbs (show zget zprog 119 = some mX7_riders from rfl) rfl rfl (show vwCl[7]? = some (RX7, TX7, 16) from rfl) zw491 zw488 zw489 zw490 zw1 (by decide +kernel) dL_law_303)
    zr_0))))))))))))))))
  (zrs_c (zr_n (zr_n (zr_s (zq_aload_n C dL_law_306 rfl)
    (zr_s (zk_callV (n := 0) C zXX_ok zTs_good hbc hbs (show zget zprog 208 = some mX8_riders from rfl) rfl rfl (show vwCl[8]? = some (RX8, TX8, 51) from rfl) zw1344 zw1341 zw1342 zw1343 zw16 (by decide +kernel) dL_law_307)
    (zr_n (zr_n (zr_s (zq_icmp_eq C dL_law_310 (by decide))
    (zr_n (zr_n (zr_s (zq_iconst (n := .ofNat 0) C dL_law_313 (by decide))
    (zr_n (zr_s (zq_aload_n C dL_law_315 rfl)
    (zr_s (zk_callV (n := 0) C zXX_ok zTs_good hbc hbs (show zget zprog 124 = some mX7_rule from rfl) rfl rfl (show vwCl[7]? = some (RX7, TX7, 16) from rfl) zw532 zw529 zw530 zw531 zw1 (by decide +kernel) dL_law_316)
    (zr_n (zr_n (zr_s (zq_aload_n C dL_law_319 rfl)
    zr_0))))))))))))))))
  (zrs_c (zr_s (zk_callV (n := 0) C zXX_ok zTs_good hbc hbs (show zget zprog 212 = some mX8_rule from rfl) rfl rfl (show vwCl[8]? = some (RX8, TX8, 51) from rfl) zw1384 zw1381 zw1382 zw1383 zw16 (by decide +kernel) dL_law_320)
    (zr_n (zr_n (zr_s (zq_icmp_eq C dL_law_323 (by decide))
    (zr_n (zr_n (zr_s (zq_iconst (n := .ofNat 0) C dL_law_326 (by decide))
    (zr_n (zr_s (zq_aload_n C dL_law_328 rfl)
    (zr_s (zq_aload_n C dL_law_329 rfl)
    (zr_s (zq_iload C dL_law_330)
    (zr_n (zr_s (zq_iconst (n := .ofNat 1) C dL_law_332 (by decide))
    (zr_s (zk_add C dL_law_333)
    (zr_s (zk_sld C hX hbl hbA hsc dL_law_334)
    (zr_s (zq_aload_n C dL_law_335 rfl)
    zr_0))))))))))))))))
  (zrs_c (zr_s (zq_iload C dL_law_336)
    (zr_n (zr_s (zq_iconst (n := .ofNat 2) C dL_law_338 (by decide))
    (zr_s (zk_add C dL_law_339)
    (zr_s (zk_sld C hX hbl hbA hsc dL_law_340)
    (zr_s (zq_aload_n C dL_law_341 rfl)
    (zr_n (zr_n (zr_n (zr_s (zq_istore C dL_law_345 (by decide))
    (zr_n (zr_s (zq_aload_n C dL_law_347 rfl)
    (zr_s (zq_aload_n C dL_law_348 rfl)
    (zr_s (zq_iload C dL_law_349)
    (zr_n (zr_s (zq_iconst (n := .ofNat 1) C dL_law_351 (by decide))
    zr_0))))))))))))))))
  (zrs_c (zr_s (zk_add C dL_law_352)
    (zr_s (zk_sld C hX hbl hbA hsc dL_law_353)
    (zr_s (zq_aload_n C dL_law_354 rfl)
    (zr_s (zq_iload C dL_law_355)
    (zr_n (zr_s (zq_iconst (n := .ofNat 2) C dL_law_357 (by decide))
    (zr_s (zk_add C dL_law_358)
    (zr_s (zk_sld C hX hbl hbA hsc dL_law_359)
    (zr_s (zk_callV (n := 2) C zXX_ok zTs_good hbc hbs (show zget zprog 207 = some mX8_rider from rfl) rfl rfl (show vwCl[8]? = some (RX8, TX8, 51) from rfl) zw1419 zw1416 zw1417 zw1418 zw16 (by decide +kernel) dL_law_360)
    (zr_n (zr_n (zr_s (zq_istore C dL_law_363 (by decide))
    (zr_n (zr_s (zq_aload_n C dL_law_365 rfl)
    (zr_s (zk_callV (n := 0) C zXX_ok zTs_good hbc hbs (show zget zprog 226 = some mX8_thrown from rfl) rfl rfl (show vwCl[8]? = some (RX8, TX8, 51) from rfl) zw1329 zw1326 zw1327 zw1328 zw16 (by decide +kernel) dL_law_366)
    (zr_n zr_0))))))))))))))))
  (zrs_c (zr_n (zr_s (zq_iload C dL_law_369)
    (zr_n (zr_s (zq_icmp_eq C dL_law_371 (by decide))
    (zr_n (zr_n (zr_s (zq_iconst (n := .ofNat 0) C dL_law_374 (by decide))
    (zr_n (zr_s (zq_iload C dL_law_376)
    (zr_n (zr_s (zq_if_ne C dL_law_378 (by decide))
    (zr_n (zr_n (zr_s (zq_aload_n C dL_law_381 rfl)
    (zr_s (zq_iconst (n := .ofNat 0) C dL_law_382 (by decide))
    (zr_n zr_0))))))))))))))))
  (zrs_c (zr_s (zq_iload C dL_law_384)
    (zr_n (zr_n (zr_s (zk_lcmp C dL_law_387)
    (zr_s (zq_if_eq C dL_law_388 (by decide))
    (zr_n (zr_n (zr_s (zq_iconst (n := .ofNat 0) C dL_law_391 (by decide))
    (zr_n (zr_s (zk_goto C dL_law_393 (by decide))
    (zr_n (zr_n (zr_s (zq_aload_n C dL_law_396 rfl)
    (zr_s (zq_aload_n C dL_law_397 rfl)
    (zr_s (zq_iload C dL_law_398)
    (zr_n zr_0))))))))))))))))
  (zrs_c (zr_s (zq_iconst (n := .ofNat 1) C dL_law_400 (by decide))
    (zr_s (zk_add C dL_law_401)
    (zr_s (zk_sld C hX hbl hbA hsc dL_law_402)
    (zr_s (zq_aload_n C dL_law_403 rfl)
    (zr_s (zq_iload C dL_law_404)
    (zr_n (zr_s (zq_iconst (n := .ofNat 2) C dL_law_406 (by decide))
    (zr_s (zk_add C dL_law_407)
    (zr_s (zk_sld C hX hbl hbA hsc dL_law_408)
    (zr_s (zk_callV (n := 2) C zXX_ok zTs_good hbc hbs (show zget zprog 93 = some mX7_hard from rfl) rfl rfl (show vwCl[7]? = some (RX7, TX7, 16) from rfl) zw546 zw543 zw544 zw545 zw1 (by decide +kernel) dL_law_409)
    (zr_n (zr_n (zr_s (zq_aload_n C dL_law_412 rfl)
    (zr_s (zq_aload_n C dL_law_413 rfl)
    (zr_s (zq_iload C dL_law_414)
    (zr_n zr_0))))))))))))))))
  (zrs_c (zr_s (zq_iconst (n := .ofNat 1) C dL_law_416 (by decide))
    (zr_s (zk_add C dL_law_417)
    (zr_s (zk_sld C hX hbl hbA hsc dL_law_418)
    (zr_s (zq_aload_n C dL_law_419 rfl)
    (zr_s (zq_iload C dL_law_420)
    (zr_n (zr_s (zq_iconst (n := .ofNat 2) C dL_law_422 (by decide))
    (zr_s (zk_add C dL_law_423)
    (zr_s (zk_sld C hX hbl hbA hsc dL_law_424)
    (zr_s (zk_callV (n := 2) C zXX_ok zTs_good hbc hbs (show zget zprog 174 = some mX8_hard from rfl) rfl rfl (show vwCl[8]? = some (RX8, TX8, 51) from rfl) zw1435 zw1432 zw1433 zw1434 zw16 (by decide +kernel) dL_law_425)
    (zr_n (zr_n (zr_s (zq_icmp_eq C dL_law_428 (by decide))
    (zr_n (zr_n (zr_s (zq_iconst (n := .ofNat 0) C dL_law_431 (by decide))
    zr_0))))))))))))))))
  (zrs_c (zr_n (zr_s (zq_aload_n C dL_law_433 rfl)
    (zr_s (zq_aload_n C dL_law_434 rfl)
    (zr_s (zq_iload C dL_law_435)
    (zr_n (zr_s (zq_iconst (n := .ofNat 1) C dL_law_437 (by decide))
    (zr_s (zk_add C dL_law_438)
    (zr_s (zk_sld C hX hbl hbA hsc dL_law_439)
    (zr_s (zq_aload_n C dL_law_440 rfl)
    (zr_s (zq_iload C dL_law_441)
    (zr_n (zr_s (zq_iconst (n := .ofNat 2) C dL_law_443 (by decide))
    (zr_s (zk_add C dL_law_444)
    (zr_s (zk_sld C hX hbl hbA hsc dL_law_445)
    (zr_s (zk_callV (n := 2) C zXX_ok zTs_good hbc hbs (show zget zprog 125 = some mX7_set from rfl) rfl rfl (show vwCl[7]? = some (RX7, TX7, 16) from rfl) zw587 zw584 zw585 zw586 zw1 (by decide +kernel) dL_law_446)
    (zr_n zr_0))))))))))))))))
  (zrs_c (zr_n (zr_s (zq_aload_n C dL_law_449 rfl)
    (zr_s (zq_aload_n C dL_law_450 rfl)
    (zr_s (zq_iload C dL_law_451)
    (zr_n (zr_s (zq_iconst (n := .ofNat 1) C dL_law_453 (by decide))
    (zr_s (zk_add C dL_law_454)
    (zr_s (zk_sld C hX hbl hbA hsc dL_law_455)
    (zr_s (zq_aload_n C dL_law_456 rfl)
    (zr_s (zq_iload C dL_law_457)
    (zr_n (zr_s (zq_iconst (n := .ofNat 2) C dL_law_459 (by decide))
    (zr_s (zk_add C dL_law_460)
    (zr_s (zk_sld C hX hbl hbA hsc dL_law_461)
    (zr_s (zk_callV (n := 2) C zXX_ok zTs_good hbc hbs (show zget zprog 213 = some mX8_set from rfl) rfl rfl (show vwCl[8]? = some (RX8, TX8, 51) from rfl) zw1449 zw1446 zw1447 zw1448 zw16 (by decide +kernel) dL_law_462)
    (zr_n zr_0))))))))))))))))
  (zrs_c (zr_n (zr_s (zq_icmp_eq C dL_law_465 (by decide))
    (zr_n (zr_n (zr_s (zq_iconst (n := .ofNat 0) C dL_law_468 (by decide))
    (zr_n (zr_s (zq_aload_n C dL_law_470 rfl)
    (zr_s (zq_aload_n C dL_law_471 rfl)
    (zr_s (zq_iload C dL_law_472)
    (zr_n (zr_s (zq_iconst (n := .ofNat 1) C dL_law_474 (by decide))
    (zr_s (zk_add C dL_law_475)
    (zr_s (zk_sld C hX hbl hbA hsc dL_law_476)
    (zr_s (zq_aload_n C dL_law_477 rfl)
    (zr_s (zq_iload C dL_law_478)
    (zr_n zr_0))))))))))))))))
  (zrs_c (zr_s (zq_iconst (n := .ofNat 2) C dL_law_480 (by decide))
    (zr_s (zk_add C dL_law_481)
    (zr_s (zk_sld C hX hbl hbA hsc dL_law_482)
    (zr_s (zq_aload_n C dL_law_483 rfl)
    (zr_s (zq_iload C dL_law_484)
    (zr_n (zr_s (zq_iconst (n := .ofNat 3) C dL_law_486 (by decide))
    (zr_s (zk_add C dL_law_487)
    (zr_s (zk_sld C hX hbl hbA hsc dL_law_488)
    (zr_s (zq_aload_n C dL_law_489 rfl)
    (zr_s (zq_iload C dL_law_490)
    (zr_n (zr_s (zq_iconst (n := .ofNat 4) C dL_law_492 (by decide))
    (zr_s (zk_add C dL_law_493)
    (zr_s (zk_sld C hX hbl hbA hsc dL_law_494)
    (zr_s (zk_callV (n := 4) C zXX_ok zTs_good hbc hbs (show zget zprog 127 = some mX7_sheet from rfl) rfl rfl (show vwCl[7]? = some (RX7, TX7, 16) from rfl) zw591 zw588 zw589 zw590 zw1 (by decide +kernel) dL_law_495)
    zr_0))))))))))))))))
  (zrs_c (zr_n (zr_n (zr_s (zq_aload_n C dL_law_498 rfl)
    (zr_s (zq_aload_n C dL_law_499 rfl)
    (zr_s (zq_iload C dL_law_500)
    (zr_n (zr_s (zq_iconst (n := .ofNat 1) C dL_law_502 (by decide))
    (zr_s (zk_add C dL_law_503)
    (zr_s (zk_sld C hX hbl hbA hsc dL_law_504)
    (zr_s (zq_aload_n C dL_law_505 rfl)
    (zr_s (zq_iload C dL_law_506)
    (zr_n (zr_s (zq_iconst (n := .ofNat 2) C dL_law_508 (by decide))
    (zr_s (zk_add C dL_law_509)
    (zr_s (zk_sld C hX hbl hbA hsc dL_law_510)
    (zr_s (zq_aload_n C dL_law_511 rfl)
    zr_0))))))))))))))))
  (zrs_c (zr_s (zq_iload C dL_law_512)
    (zr_n (zr_s (zq_iconst (n := .ofNat 3) C dL_law_514 (by decide))
    (zr_s (zk_add C dL_law_515)
    (zr_s (zk_sld C hX hbl hbA hsc dL_law_516)
    (zr_s (zq_aload_n C dL_law_517 rfl)
    (zr_s (zq_iload C dL_law_518)
    (zr_n (zr_s (zq_iconst (n := .ofNat 4) C dL_law_520 (by decide))
    (zr_s (zk_add C dL_law_521)
    (zr_s (zk_sld C hX hbl hbA hsc dL_law_522)
    (zr_s (zk_callV (n := 4) C zXX_ok zTs_good hbc hbs (show zget zprog 215 = some mX8_sheet from rfl) rfl rfl (show vwCl[8]? = some (RX8, TX8, 51) from rfl) zw1453 zw1450 zw1451 zw1452 zw16 (by decide +kernel) dL_law_523)
    (zr_n (zr_n (zr_s (zq_icmp_eq C dL_law_526 (by decide))
    (zr_n zr_0))))))))))))))))
  (zrs_c (zr_n (zr_s (zq_iconst (n := .ofNat 0) C dL_law_529 (by decide))
    (zr_n (zr_s (zq_aload_n C dL_law_531 rfl)
    (zr_s (zk_callV (n := 0) C zXX_ok zTs_good hbc hbs (show zget zprog 120 = some mX7_rota from rfl) rfl rfl (show vwCl[7]? = some (RX7, TX7, 16) from rfl) zw604 zw601 zw602 zw603 zw1 (by decide +kernel) dL_law_532)
    (zr_n (zr_n (zr_s (zq_aload_n C dL_law_535 rfl)
    (zr_s (zk_callV (n := 0) C zXX_ok zTs_good hbc hbs (show zget zprog 209 = some mX8_rota from rfl) rfl rfl (show vwCl[8]? = some (RX8, TX8, 51) from rfl) zw1457 zw1454 zw1455 zw1456 zw16 (by decide +kernel) dL_law_536)
    (zr_n (zr_n (zr_s (zq_icmp_eq C dL_law_539 (by decide))
    (zr_n (zr_n (zr_s (zq_iconst (n := .ofNat 0) C dL_law_542 (by decide))
    (zr_n zr_0))))))))))))))))
  (zrs_c (zr_s (zq_aload_n C dL_law_544 rfl)
    (zr_s (zq_aload_n C dL_law_545 rfl)
    (zr_s (zq_iload C dL_law_546)
    (zr_n (zr_s (zq_iconst (n := .ofNat 1) C dL_law_548 (by decide))
    (zr_s (zk_add C dL_law_549)
    (zr_s (zk_sld C hX hbl hbA hsc dL_law_550)
    (zr_s (zq_aload_n C dL_law_551 rfl)
    (zr_s (zq_iload C dL_law_552)
    (zr_n (zr_s (zq_iconst (n := .ofNat 2) C dL_law_554 (by decide))
    (zr_s (zk_add C dL_law_555)
    (zr_s (zk_sld C hX hbl hbA hsc dL_law_556)
    (zr_s (zk_callV (n := 2) C zXX_ok zTs_good hbc hbs (show zget zprog 91 = some mX7_give from rfl) rfl rfl (show vwCl[7]? = some (RX7, TX7, 16) from rfl) zw631 zw628 zw629 zw630 zw1 (by decide +kernel) dL_law_557)
    (zr_n (zr_n zr_0))))))))))))))))
  (zrs_c (zr_s (zq_aload_n C dL_law_560 rfl)
    (zr_s (zq_aload_n C dL_law_561 rfl)
    (zr_s (zq_iload C dL_law_562)
    (zr_n (zr_s (zq_iconst (n := .ofNat 1) C dL_law_564 (by decide))
    (zr_s (zk_add C dL_law_565)
    (zr_s (zk_sld C hX hbl hbA hsc dL_law_566)
    (zr_s (zq_aload_n C dL_law_567 rfl)
    (zr_s (zq_iload C dL_law_568)
    (zr_n (zr_s (zq_iconst (n := .ofNat 2) C dL_law_570 (by decide))
    (zr_s (zk_add C dL_law_571)
    (zr_s (zk_sld C hX hbl hbA hsc dL_law_572)
    (zr_s (zk_callV (n := 2) C zXX_ok zTs_good hbc hbs (show zget zprog 171 = some mX8_give from rfl) rfl rfl (show vwCl[8]? = some (RX8, TX8, 51) from rfl) zw1468 zw1465 zw1466 zw1467 zw16 (by decide +kernel) dL_law_573)
    (zr_n (zr_n zr_0))))))))))))))))
  (zrs_c (zr_s (zq_icmp_eq C dL_law_576 (by decide))
    (zr_n (zr_n (zr_s (zq_iconst (n := .ofNat 0) C dL_law_579 (by decide))
    (zr_n (zr_s (zq_aload_n C dL_law_581 rfl)
    (zr_s (zq_aload_n C dL_law_582 rfl)
    (zr_s (zq_iload C dL_law_583)
    (zr_n (zr_s (zq_iconst (n := .ofNat 1) C dL_law_585 (by decide))
    (zr_s (zk_add C dL_law_586)
    (zr_s (zk_sld C hX hbl hbA hsc dL_law_587)
    (zr_s (zk_callV (n := 1) C zXX_ok zTs_good hbc hbs (show zget zprog 96 = some mX7_ill from rfl) rfl rfl (show vwCl[7]? = some (RX7, TX7, 16) from rfl) zw640 zw637 zw638 zw639 zw1 (by decide +kernel) dL_law_588)
    (zr_n (zr_n (zr_s (zq_aload_n C dL_law_591 rfl)
    zr_0))))))))))))))))
  (zrs_c (zr_s (zq_aload_n C dL_law_592 rfl)
    (zr_s (zq_iload C dL_law_593)
    (zr_n (zr_s (zq_iconst (n := .ofNat 1) C dL_law_595 (by decide))
    (zr_s (zk_add C dL_law_596)
    (zr_s (zk_sld C hX hbl hbA hsc dL_law_597)
    (zr_s (zk_callV (n := 1) C zXX_ok zTs_good hbc hbs (show zget zprog 179 = some mX8_ill from rfl) rfl rfl (show vwCl[8]? = some (RX8, TX8, 51) from rfl) zw1476 zw1473 zw1474 zw1475 zw16 (by decide +kernel) dL_law_598)
    (zr_n (zr_n (zr_s (zq_icmp_eq C dL_law_601 (by decide))
    (zr_n (zr_n (zr_s (zq_iconst (n := .ofNat 0) C dL_law_604 (by decide))
    (zr_n (zr_s (zq_aload_n C dL_law_606 rfl)
    (zr_s (zq_aload_n C dL_law_607 rfl)
    zr_0))))))))))))))))
  (zrs_c (zr_s (zq_iload C dL_law_608)
    (zr_n (zr_s (zq_iconst (n := .ofNat 1) C dL_law_610 (by decide))
    (zr_s (zk_add C dL_law_611)
    (zr_s (zk_sld C hX hbl hbA hsc dL_law_612)
    (zr_s (zk_callV (n := 1) C zXX_ok zTs_good hbc hbs (show zget zprog 109 = some mX7_nights from rfl) rfl rfl (show vwCl[7]? = some (RX7, TX7, 16) from rfl) zw649 zw646 zw647 zw648 zw1 (by decide +kernel) dL_law_613)
    (zr_n (zr_n (zr_s (zq_aload_n C dL_law_616 rfl)
    (zr_s (zq_aload_n C dL_law_617 rfl)
    (zr_s (zq_iload C dL_law_618)
    (zr_n (zr_s (zq_iconst (n := .ofNat 1) C dL_law_620 (by decide))
    (zr_s (zk_add C dL_law_621)
    (zr_s (zk_sld C hX hbl hbA hsc dL_law_622)
    (zr_s (zk_callV (n := 1) C zXX_ok zTs_good hbc hbs (show zget zprog 200 = some mX8_nights from rfl) rfl rfl (show vwCl[8]? = some (RX8, TX8, 51) from rfl) zw1484 zw1481 zw1482 zw1483 zw16 (by decide +kernel) dL_law_623)
    zr_0))))))))))))))))
  (zrs_c (zr_n (zr_n (zr_s (zq_icmp_eq C dL_law_626 (by decide))
    (zr_n (zr_n (zr_s (zq_iconst (n := .ofNat 0) C dL_law_629 (by decide))
    (zr_n (zr_s (zq_aload_n C dL_law_631 rfl)
    (zr_s (zk_callV (n := 0) C zXX_ok zTs_good hbc hbs (show zget zprog 140 = some mX7_year from rfl) rfl rfl (show vwCl[7]? = some (RX7, TX7, 16) from rfl) zw698 zw695 zw696 zw697 zw1 (by decide +kernel) dL_law_632)
    (zr_n (zr_n (zr_s (zq_aload_n C dL_law_635 rfl)
    (zr_s (zk_callV (n := 0) C zXX_ok zTs_good hbc hbs (show zget zprog 233 = some mX8_year from rfl) rfl rfl (show vwCl[8]? = some (RX8, TX8, 51) from rfl) zw1508 zw1505 zw1506 zw1507 zw16 (by decide +kernel) dL_law_636)
    (zr_n (zr_n (zr_s (zq_icmp_eq C dL_law_639 (by decide))
    zr_0))))))))))))))))
  (zrs_c (zr_n (zr_n (zr_s (zq_iconst (n := .ofNat 0) C dL_law_642 (by decide))
    (zr_n (zr_s (zq_aload_n C dL_law_644 rfl)
    (zr_s (zk_callV (n := 0) C zXX_ok zTs_good hbc hbs (show zget zprog 137 = some mX7_undo from rfl) rfl rfl (show vwCl[7]? = some (RX7, TX7, 16) from rfl) zw726 zw723 zw724 zw725 zw1 (by decide +kernel) dL_law_645)
    (zr_n (zr_n (zr_s (zq_aload_n C dL_law_648 rfl)
    (zr_s (zk_callV (n := 0) C zXX_ok zTs_good hbc hbs (show zget zprog 229 = some mX8_undo from rfl) rfl rfl (show vwCl[8]? = some (RX8, TX8, 51) from rfl) zw1528 zw1525 zw1526 zw1527 zw16 (by decide +kernel) dL_law_649)
    (zr_n (zr_n (zr_s (zq_icmp_eq C dL_law_652 (by decide))
    (zr_n (zr_n (zr_s (zq_iconst (n := .ofNat 0) C dL_law_655 (by decide))
    zr_0))))))))))))))))
  (zrs_c (zr_n (zr_s (zq_aload_n C dL_law_657 rfl)
    (zr_s (zk_callV (n := 0) C zXX_ok zTs_good hbc hbs (show zget zprog 89 = some mX7_gaps from rfl) rfl rfl (show vwCl[7]? = some (RX7, TX7, 16) from rfl) zw734 zw731 zw732 zw733 zw1 (by decide +kernel) dL_law_658)
    (zr_n (zr_n (zr_s (zq_aload_n C dL_law_661 rfl)
    (zr_s (zk_callV (n := 0) C zXX_ok zTs_good hbc hbs (show zget zprog 170 = some mX8_gaps from rfl) rfl rfl (show vwCl[8]? = some (RX8, TX8, 51) from rfl) zw1532 zw1529 zw1530 zw1531 zw16 (by decide +kernel) dL_law_662)
    (zr_n (zr_n (zr_s (zq_icmp_eq C dL_law_665 (by decide))
    (zr_n (zr_n (zr_s (zq_iconst (n := .ofNat 0) C dL_law_668 (by decide))
    (zr_n (zr_s (zq_aload_n C dL_law_670 rfl)
    (zr_s (zq_aload_n C dL_law_671 rfl)
    zr_0))))))))))))))))
  (zrs_c (zr_s (zq_iload C dL_law_672)
    (zr_n (zr_s (zq_iconst (n := .ofNat 1) C dL_law_674 (by decide))
    (zr_s (zk_add C dL_law_675)
    (zr_s (zk_sld C hX hbl hbA hsc dL_law_676)
    (zr_s (zk_callV (n := 1) C zXX_ok zTs_good hbc hbs (show zget zprog 85 = some mX7_first from rfl) rfl rfl (show vwCl[7]? = some (RX7, TX7, 16) from rfl) zw739 zw736 zw737 zw738 zw1 (by decide +kernel) dL_law_677)
    (zr_n (zr_n (zr_s (zq_aload_n C dL_law_680 rfl)
    (zr_s (zq_aload_n C dL_law_681 rfl)
    (zr_s (zq_iload C dL_law_682)
    (zr_n (zr_s (zq_iconst (n := .ofNat 1) C dL_law_684 (by decide))
    (zr_s (zk_add C dL_law_685)
    (zr_s (zk_sld C hX hbl hbA hsc dL_law_686)
    (zr_s (zk_callV (n := 1) C zXX_ok zTs_good hbc hbs (show zget zprog 164 = some mX8_first from rfl) rfl rfl (show vwCl[8]? = some (RX8, TX8, 51) from rfl) zw1536 zw1533 zw1534 zw1535 zw16 (by decide +kernel) dL_law_687)
    zr_0))))))))))))))))
  (zrs_c (zr_n (zr_n (zr_s (zq_icmp_eq C dL_law_690 (by decide))
    (zr_n (zr_n (zr_s (zq_iconst (n := .ofNat 0) C dL_law_693 (by decide))
    (zr_n (zr_s (zq_aload_n C dL_law_695 rfl)
    (zr_s (zq_aload_n C dL_law_696 rfl)
    (zr_s (zq_iload C dL_law_697)
    (zr_n (zr_s (zq_iconst (n := .ofNat 1) C dL_law_699 (by decide))
    (zr_s (zk_add C dL_law_700)
    (zr_s (zk_sld C hX hbl hbA hsc dL_law_701)
    (zr_s (zk_callV (n := 1) C zXX_ok zTs_good hbc hbs (show zget zprog 103 = some mX7_later from rfl) rfl rfl (show vwCl[7]? = some (RX7, TX7, 16) from rfl) zw751 zw748 zw749 zw750 zw1 (by decide +kernel) dL_law_702)
    (zr_n zr_0))))))))))))))))
  (zrs_c (zr_n (zr_s (zq_aload_n C dL_law_705 rfl)
    (zr_s (zq_aload_n C dL_law_706 rfl)
    (zr_s (zq_iload C dL_law_707)
    (zr_n (zr_s (zq_iconst (n := .ofNat 1) C dL_law_709 (by decide))
    (zr_s (zk_add C dL_law_710)
    (zr_s (zk_sld C hX hbl hbA hsc dL_law_711)
    (zr_s (zk_callV (n := 1) C zXX_ok zTs_good hbc hbs (show zget zprog 189 = some mX8_later from rfl) rfl rfl (show vwCl[8]? = some (RX8, TX8, 51) from rfl) zw1544 zw1541 zw1542 zw1543 zw16 (by decide +kernel) dL_law_712)
    (zr_n (zr_n (zr_s (zq_icmp_eq C dL_law_715 (by decide))
    (zr_n (zr_n (zr_s (zq_iconst (n := .ofNat 0) C dL_law_718 (by decide))
    (zr_n zr_0))))))))))))))))
  (zrs_c (zr_s (zq_aload_n C dL_law_720 rfl)
    (zr_s (zq_aload_n C dL_law_721 rfl)
    (zr_s (zq_iload C dL_law_722)
    (zr_n (zr_s (zq_iconst (n := .ofNat 1) C dL_law_724 (by decide))
    (zr_s (zk_add C dL_law_725)
    (zr_s (zk_sld C hX hbl hbA hsc dL_law_726)
    (zr_s (zk_callV (n := 1) C zXX_ok zTs_good hbc hbs (show zget zprog 138 = some mX7_vigil from rfl) rfl rfl (show vwCl[7]? = some (RX7, TX7, 16) from rfl) zw760 zw757 zw758 zw759 zw1 (by decide +kernel) dL_law_727)
    (zr_n (zr_n (zr_s (zq_aload_n C dL_law_730 rfl)
    (zr_s (zq_aload_n C dL_law_731 rfl)
    (zr_s (zq_iload C dL_law_732)
    (zr_n (zr_s (zq_iconst (n := .ofNat 1) C dL_law_734 (by decide))
    (zr_s (zk_add C dL_law_735)
    zr_0))))))))))))))))
  (zrs_c (zr_s (zk_sld C hX hbl hbA hsc dL_law_736)
    (zr_s (zk_callV (n := 1) C zXX_ok zTs_good hbc hbs (show zget zprog 230 = some mX8_vigil from rfl) rfl rfl (show vwCl[8]? = some (RX8, TX8, 51) from rfl) zw1548 zw1545 zw1546 zw1547 zw16 (by decide +kernel) dL_law_737)
    (zr_n (zr_n (zr_s (zq_icmp_eq C dL_law_740 (by decide))
    (zr_n (zr_n (zr_s (zq_iconst (n := .ofNat 0) C dL_law_743 (by decide))
    (zr_n (zr_s (zq_aload_n C dL_law_745 rfl)
    (zr_s (zk_callV (n := 0) C zXX_ok zTs_good hbc hbs (show zget zprog 136 = some mX7_trade from rfl) rfl rfl (show vwCl[7]? = some (RX7, TX7, 16) from rfl) zw764 zw761 zw762 zw763 zw1 (by decide +kernel) dL_law_746)
    (zr_n (zr_n (zr_s (zq_aload_n C dL_law_749 rfl)
    (zr_s (zk_callV (n := 0) C zXX_ok zTs_good hbc hbs (show zget zprog 228 = some mX8_trade from rfl) rfl rfl (show vwCl[8]? = some (RX8, TX8, 51) from rfl) zw1552 zw1549 zw1550 zw1551 zw16 (by decide +kernel) dL_law_750)
    (zr_n zr_0))))))))))))))))
  (zrs_c (zr_n (zr_s (zq_icmp_eq C dL_law_753 (by decide))
    (zr_n (zr_n (zr_s (zq_iconst (n := .ofNat 0) C dL_law_756 (by decide))
    (zr_n (zr_s (zq_aload_n C dL_law_758 rfl)
    (zr_s (zk_callV (n := 0) C zXX_ok zTs_good hbc hbs (show zget zprog 80 = some mX7_easiest from rfl) rfl rfl (show vwCl[7]? = some (RX7, TX7, 16) from rfl) zw773 zw770 zw771 zw772 zw1 (by decide +kernel) dL_law_759)
    (zr_n (zr_n (zr_s (zq_aload_n C dL_law_762 rfl)
    (zr_s (zk_callV (n := 0) C zXX_ok zTs_good hbc hbs (show zget zprog 157 = some mX8_easiest from rfl) rfl rfl (show vwCl[8]? = some (RX8, TX8, 51) from rfl) zw1556 zw1553 zw1554 zw1555 zw16 (by decide +kernel) dL_law_763)
    (zr_n (zr_n (zr_s (zq_icmp_eq C dL_law_766 (by decide))
    (zr_n zr_0))))))))))))))))
  (zrs_c (zr_n (zr_s (zq_iconst (n := .ofNat 0) C dL_law_769 (by decide))
    (zr_n (zr_s (zq_aload_n C dL_law_771 rfl)
    (zr_s (zk_callV (n := 0) C zXX_ok zTs_good hbc hbs (show zget zprog 84 = some mX7_fewest from rfl) rfl rfl (show vwCl[7]? = some (RX7, TX7, 16) from rfl) zw842 zw839 zw840 zw841 zw1 (by decide +kernel) dL_law_772)
    (zr_n (zr_n (zr_s (zq_aload_n C dL_law_775 rfl)
    (zr_s (zk_callV (n := 0) C zXX_ok zTs_good hbc hbs (show zget zprog 162 = some mX8_fewest from rfl) rfl rfl (show vwCl[8]? = some (RX8, TX8, 51) from rfl) zw1612 zw1609 zw1610 zw1611 zw16 (by decide +kernel) dL_law_776)
    (zr_n (zr_n (zr_s (zq_icmp_eq C dL_law_779 (by decide))
    (zr_n (zr_n (zr_s (zq_iconst (n := .ofNat 0) C dL_law_782 (by decide))
    (zr_n zr_0))))))))))))))))
  (zrs_c (zr_s (zq_aload_n C dL_law_784 rfl)
    (zr_s (zk_callV (n := 0) C zXX_ok zTs_good hbc hbs (show zget zprog 74 = some mX7_bare from rfl) rfl rfl (show vwCl[7]? = some (RX7, TX7, 16) from rfl) zw847 zw844 zw845 zw846 zw1 (by decide +kernel) dL_law_785)
    (zr_n (zr_n (zr_s (zq_aload_n C dL_law_788 rfl)
    (zr_s (zk_callV (n := 0) C zXX_ok zTs_good hbc hbs (show zget zprog 149 = some mX8_bare from rfl) rfl rfl (show vwCl[8]? = some (RX8, TX8, 51) from rfl) zw1620 zw1617 zw1618 zw1619 zw16 (by decide +kernel) dL_law_789)
    (zr_n (zr_n (zr_s (zq_icmp_eq C dL_law_792 (by decide))
    (zr_n (zr_n (zr_s (zq_iconst (n := .ofNat 0) C dL_law_795 (by decide))
    (zr_n (zr_s (zq_aload_n C dL_law_797 rfl)
    (zr_s (zk_callV (n := 0) C zXX_ok zTs_good hbc hbs (show zget zprog 122 = some mX7_rotas from rfl) rfl rfl (show vwCl[7]? = some (RX7, TX7, 16) from rfl) zw855 zw852 zw853 zw854 zw1 (by decide +kernel) dL_law_798)
    (zr_n zr_0))))))))))))))))
  (zrs_c (zr_n (zr_s (zq_aload_n C dL_law_801 rfl)
    (zr_s (zk_callV (n := 0) C zXX_ok zTs_good hbc hbs (show zget zprog 210 = some mX8_rotas from rfl) rfl rfl (show vwCl[8]? = some (RX8, TX8, 51) from rfl) zw1624 zw1621 zw1622 zw1623 zw16 (by decide +kernel) dL_law_802)
    (zr_n (zr_n (zr_s (zq_icmp_eq C dL_law_805 (by decide))
    (zr_n (zr_n (zr_s (zq_iconst (n := .ofNat 0) C dL_law_808 (by decide))
    (zr_n (zr_s (zq_aload_n C dL_law_810 rfl)
    (zr_s (zq_aload_n C dL_law_811 rfl)
    (zr_s (zq_iload C dL_law_812)
    (zr_n (zr_s (zq_iconst (n := .ofNat 1) C dL_law_814 (by decide))
    (zr_s (zk_add C dL_law_815)
    zr_0))))))))))))))))
  (zrs_c (zr_s (zk_sld C hX hbl hbA hsc dL_law_816)
    (zr_s (zk_callV (n := 1) C zXX_ok zTs_good hbc hbs (show zget zprog 107 = some mX7_mended from rfl) rfl rfl (show vwCl[7]? = some (RX7, TX7, 16) from rfl) zw875 zw872 zw873 zw874 zw1 (by decide +kernel) dL_law_817)
    (zr_n (zr_n (zr_s (zq_aload_n C dL_law_820 rfl)
    (zr_s (zq_aload_n C dL_law_821 rfl)
    (zr_s (zq_iload C dL_law_822)
    (zr_n (zr_s (zq_iconst (n := .ofNat 1) C dL_law_824 (by decide))
    (zr_s (zk_add C dL_law_825)
    (zr_s (zk_sld C hX hbl hbA hsc dL_law_826)
    (zr_s (zk_callV (n := 1) C zXX_ok zTs_good hbc hbs (show zget zprog 197 = some mX8_mended from rfl) rfl rfl (show vwCl[8]? = some (RX8, TX8, 51) from rfl) zw1636 zw1633 zw1634 zw1635 zw16 (by decide +kernel) dL_law_827)
    (zr_n (zr_n (zr_s (zq_icmp_eq C dL_law_830 (by decide))
    (zr_n zr_0))))))))))))))))
  (zrs_c (zr_n (zr_s (zq_iconst (n := .ofNat 0) C dL_law_833 (by decide))
    (zr_n (zr_s (zq_aload_n C dL_law_835 rfl)
    (zr_s (zk_callV (n := 0) C zXX_ok zTs_good hbc hbs (show zget zprog 132 = some mX7_takes from rfl) rfl rfl (show vwCl[7]? = some (RX7, TX7, 16) from rfl) zw883 zw880 zw881 zw882 zw1 (by decide +kernel) dL_law_836)
    (zr_n (zr_n (zr_s (zq_aload_n C dL_law_839 rfl)
    (zr_s (zk_callV (n := 0) C zXX_ok zTs_good hbc hbs (show zget zprog 221 = some mX8_takes from rfl) rfl rfl (show vwCl[8]? = some (RX8, TX8, 51) from rfl) zw1640 zw1637 zw1638 zw1639 zw16 (by decide +kernel) dL_law_840)
    (zr_n (zr_n (zr_s (zq_icmp_eq C dL_law_843 (by decide))
    (zr_n (zr_n (zr_s (zq_iconst (n := .ofNat 0) C dL_law_846 (by decide))
    (zr_n zr_0))))))))))))))))
  (zrs_c (zr_s (zq_aload_n C dL_law_848 rfl)
    (zr_s (zq_aload_n C dL_law_849 rfl)
    (zr_s (zq_iload C dL_law_850)
    (zr_n (zr_s (zq_iconst (n := .ofNat 1) C dL_law_852 (by decide))
    (zr_s (zk_add C dL_law_853)
    (zr_s (zk_sld C hX hbl hbA hsc dL_law_854)
    (zr_s (zk_callV (n := 1) C zXX_ok zTs_good hbc hbs (show zget zprog 108 = some mX7_missed from rfl) rfl rfl (show vwCl[7]? = some (RX7, TX7, 16) from rfl) zw887 zw884 zw885 zw886 zw1 (by decide +kernel) dL_law_855)
    (zr_n (zr_n (zr_s (zq_aload_n C dL_law_858 rfl)
    (zr_s (zq_aload_n C dL_law_859 rfl)
    (zr_s (zq_iload C dL_law_860)
    (zr_n (zr_s (zq_iconst (n := .ofNat 1) C dL_law_862 (by decide))
    (zr_s (zk_add C dL_law_863)
    zr_0))))))))))))))))
  (zrs_c (zr_s (zk_sld C hX hbl hbA hsc dL_law_864)
    (zr_s (zk_callV (n := 1) C zXX_ok zTs_good hbc hbs (show zget zprog 198 = some mX8_missed from rfl) rfl rfl (show vwCl[8]? = some (RX8, TX8, 51) from rfl) zw1644 zw1641 zw1642 zw1643 zw16 (by decide +kernel) dL_law_865)
    (zr_n (zr_n (zr_s (zq_icmp_eq C dL_law_868 (by decide))
    (zr_n (zr_n (zr_s (zq_iconst (n := .ofNat 0) C dL_law_871 (by decide))
    (zr_n (zr_s (zq_aload_n C dL_law_873 rfl)
    (zr_s (zq_aload_n C dL_law_874 rfl)
    (zr_s (zq_iload C dL_law_875)
    (zr_n (zr_s (zq_iconst (n := .ofNat 1) C dL_law_877 (by decide))
    (zr_s (zk_add C dL_law_878)
    (zr_s (zk_sld C hX hbl hbA hsc dL_law_879)
    zr_0))))))))))))))))
  (zrs_c (zr_s (zk_callV (n := 1) C zXX_ok zTs_good hbc hbs (show zget zprog 112 = some mX7_paid from rfl) rfl rfl (show vwCl[7]? = some (RX7, TX7, 16) from rfl) zw891 zw888 zw889 zw890 zw1 (by decide +kernel) dL_law_880)
    (zr_n (zr_n (zr_s (zq_aload_n C dL_law_883 rfl)
    (zr_s (zq_aload_n C dL_law_884 rfl)
    (zr_s (zq_iload C dL_law_885)
    (zr_n (zr_s (zq_iconst (n := .ofNat 1) C dL_law_887 (by decide))
    (zr_s (zk_add C dL_law_888)
    (zr_s (zk_sld C hX hbl hbA hsc dL_law_889)
    (zr_s (zk_callV (n := 1) C zXX_ok zTs_good hbc hbs (show zget zprog 202 = some mX8_paid from rfl) rfl rfl (show vwCl[8]? = some (RX8, TX8, 51) from rfl) zw1648 zw1645 zw1646 zw1647 zw16 (by decide +kernel) dL_law_890)
    (zr_n (zr_n (zr_s (zq_icmp_eq C dL_law_893 (by decide))
    (zr_n (zr_n zr_0))))))))))))))))
  (zrs_c (zr_s (zq_iconst (n := .ofNat 0) C dL_law_896 (by decide))
    (zr_n (zr_s (zq_aload_n C dL_law_898 rfl)
    (zr_s (zk_callV (n := 0) C zXX_ok zTs_good hbc hbs (show zget zprog 83 = some mX7_fairest from rfl) rfl rfl (show vwCl[7]? = some (RX7, TX7, 16) from rfl) zw895 zw892 zw893 zw894 zw1 (by decide +kernel) dL_law_899)
    (zr_n (zr_n (zr_s (zq_aload_n C dL_law_902 rfl)
    (zr_s (zk_callV (n := 0) C zXX_ok zTs_good hbc hbs (show zget zprog 160 = some mX8_fairest from rfl) rfl rfl (show vwCl[8]? = some (RX8, TX8, 51) from rfl) zw1652 zw1649 zw1650 zw1651 zw16 (by decide +kernel) dL_law_903)
    (zr_n (zr_n (zr_s (zq_icmp_eq C dL_law_906 (by decide))
    (zr_n (zr_n (zr_s (zq_iconst (n := .ofNat 0) C dL_law_909 (by decide))
    (zr_n (zr_s (zq_aload_n C dL_law_911 rfl)
    zr_0))))))))))))))))
  (zrs_c (zr_s (zk_callV (n := 0) C zXX_ok zTs_good hbc hbs (show zget zprog 73 = some mX7_away from rfl) rfl rfl (show vwCl[7]? = some (RX7, TX7, 16) from rfl) zw908 zw905 zw906 zw907 zw1 (by decide +kernel) dL_law_912)
    (zr_n (zr_n (zr_s (zq_aload_n C dL_law_915 rfl)
    (zr_s (zk_callV (n := 0) C zXX_ok zTs_good hbc hbs (show zget zprog 148 = some mX8_away from rfl) rfl rfl (show vwCl[8]? = some (RX8, TX8, 51) from rfl) zw1656 zw1653 zw1654 zw1655 zw16 (by decide +kernel) dL_law_916)
    (zr_n (zr_n (zr_s (zq_icmp_eq C dL_law_919 (by decide))
    (zr_n (zr_n (zr_s (zq_iconst (n := .ofNat 0) C dL_law_922 (by decide))
    (zr_n (zr_s (zq_aload_n C dL_law_924 rfl)
    (zr_s (zq_aload_n C dL_law_925 rfl)
    (zr_s (zq_iload C dL_law_926)
    (zr_n zr_0))))))))))))))))
  (zrs_c (zr_s (zq_iconst (n := .ofNat 1) C dL_law_928 (by decide))
    (zr_s (zk_add C dL_law_929)
    (zr_s (zk_sld C hX hbl hbA hsc dL_law_930)
    (zr_s (zk_callV (n := 1) C zXX_ok zTs_good hbc hbs (show zget zprog 70 = some mX7_able from rfl) rfl rfl (show vwCl[7]? = some (RX7, TX7, 16) from rfl) zw917 zw914 zw915 zw916 zw1 (by decide +kernel) dL_law_931)
    (zr_n (zr_n (zr_s (zq_aload_n C dL_law_934 rfl)
    (zr_s (zq_aload_n C dL_law_935 rfl)
    (zr_s (zq_iload C dL_law_936)
    (zr_n (zr_s (zq_iconst (n := .ofNat 1) C dL_law_938 (by decide))
    (zr_s (zk_add C dL_law_939)
    (zr_s (zk_sld C hX hbl hbA hsc dL_law_940)
    (zr_s (zk_callV (n := 1) C zXX_ok zTs_good hbc hbs (show zget zprog 143 = some mX8_able from rfl) rfl rfl (show vwCl[8]? = some (RX8, TX8, 51) from rfl) zw1660 zw1657 zw1658 zw1659 zw16 (by decide +kernel) dL_law_941)
    (zr_n (zr_n zr_0))))))))))))))))
  (zrs_c (zr_s (zq_icmp_eq C dL_law_944 (by decide))
    (zr_n (zr_n (zr_s (zq_iconst (n := .ofNat 0) C dL_law_947 (by decide))
    (zr_n (zr_s (zq_aload_n C dL_law_949 rfl)
    (zr_s (zq_aload_n C dL_law_950 rfl)
    (zr_s (zq_iload C dL_law_951)
    (zr_n (zr_s (zq_iconst (n := .ofNat 1) C dL_law_953 (by decide))
    (zr_s (zk_add C dL_law_954)
    (zr_s (zk_sld C hX hbl hbA hsc dL_law_955)
    (zr_s (zk_callV (n := 1) C zXX_ok zTs_good hbc hbs (show zget zprog 130 = some mX7_spent from rfl) rfl rfl (show vwCl[7]? = some (RX7, TX7, 16) from rfl) zw926 zw923 zw924 zw925 zw1 (by decide +kernel) dL_law_956)
    (zr_n (zr_n (zr_s (zq_aload_n C dL_law_959 rfl)
    zr_0))))))))))))))))
  (zrs_c (zr_s (zq_aload_n C dL_law_960 rfl)
    (zr_s (zq_iload C dL_law_961)
    (zr_n (zr_s (zq_iconst (n := .ofNat 1) C dL_law_963 (by decide))
    (zr_s (zk_add C dL_law_964)
    (zr_s (zk_sld C hX hbl hbA hsc dL_law_965)
    (zr_s (zk_callV (n := 1) C zXX_ok zTs_good hbc hbs (show zget zprog 219 = some mX8_spent from rfl) rfl rfl (show vwCl[8]? = some (RX8, TX8, 51) from rfl) zw1664 zw1661 zw1662 zw1663 zw16 (by decide +kernel) dL_law_966)
    (zr_n (zr_n (zr_s (zq_icmp_eq C dL_law_969 (by decide))
    (zr_n (zr_n (zr_s (zq_iconst (n := .ofNat 0) C dL_law_972 (by decide))
    (zr_n (zr_s (zq_aload_n C dL_law_974 rfl)
    (zr_s (zq_aload_n C dL_law_975 rfl)
    zr_0))))))))))))))))
  (zrs_c (zr_s (zq_iload C dL_law_976)
    (zr_n (zr_s (zq_iconst (n := .ofNat 1) C dL_law_978 (by decide))
    (zr_s (zk_add C dL_law_979)
    (zr_s (zk_sld C hX hbl hbA hsc dL_law_980)
    (zr_s (zq_aload_n C dL_law_981 rfl)
    (zr_s (zq_iload C dL_law_982)
    (zr_n (zr_s (zq_iconst (n := .ofNat 2) C dL_law_984 (by decide))
    (zr_s (zk_add C dL_law_985)
    (zr_s (zk_sld C hX hbl hbA hsc dL_law_986)
    (zr_s (zk_callV (n := 2) C zXX_ok zTs_good hbc hbs (show zget zprog 126 = some mX7_shared from rfl) rfl rfl (show vwCl[7]? = some (RX7, TX7, 16) from rfl) zw934 zw931 zw932 zw933 zw1 (by decide +kernel) dL_law_987)
    (zr_n (zr_n (zr_s (zq_aload_n C dL_law_990 rfl)
    (zr_s (zq_aload_n C dL_law_991 rfl)
    zr_0))))))))))))))))
  (zrs_c (zr_s (zq_iload C dL_law_992)
    (zr_n (zr_s (zq_iconst (n := .ofNat 1) C dL_law_994 (by decide))
    (zr_s (zk_add C dL_law_995)
    (zr_s (zk_sld C hX hbl hbA hsc dL_law_996)
    (zr_s (zq_aload_n C dL_law_997 rfl)
    (zr_s (zq_iload C dL_law_998)
    (zr_n (zr_s (zq_iconst (n := .ofNat 2) C dL_law_1000 (by decide))
    (zr_s (zk_add C dL_law_1001)
    (zr_s (zk_sld C hX hbl hbA hsc dL_law_1002)
    (zr_s (zk_callV (n := 2) C zXX_ok zTs_good hbc hbs (show zget zprog 214 = some mX8_shared from rfl) rfl rfl (show vwCl[8]? = some (RX8, TX8, 51) from rfl) zw1668 zw1665 zw1666 zw1667 zw16 (by decide +kernel) dL_law_1003)
    (zr_n (zr_n (zr_s (zq_icmp_eq C dL_law_1006 (by decide))
    (zr_n zr_0))))))))))))))))
  (zrs_c (zr_n (zr_s (zq_iconst (n := .ofNat 0) C dL_law_1009 (by decide))
    (zr_n (zr_s (zq_aload_n C dL_law_1011 rfl)
    (zr_s (zk_callV (n := 0) C zXX_ok zTs_good hbc hbs (show zget zprog 135 = some mX7_thin from rfl) rfl rfl (show vwCl[7]? = some (RX7, TX7, 16) from rfl) zw938 zw935 zw936 zw937 zw1 (by decide +kernel) dL_law_1012)
    (zr_n (zr_n (zr_s (zq_aload_n C dL_law_1015 rfl)
    (zr_s (zk_callV (n := 0) C zXX_ok zTs_good hbc hbs (show zget zprog 225 = some mX8_thin from rfl) rfl rfl (show vwCl[8]? = some (RX8, TX8, 51) from rfl) zw1672 zw1669 zw1670 zw1671 zw16 (by decide +kernel) dL_law_1016)
    (zr_n (zr_n (zr_s (zq_icmp_eq C dL_law_1019 (by decide))
    (zr_n (zr_n (zr_s (zq_iconst (n := .ofNat 0) C dL_law_1022 (by decide))
    (zr_n zr_0))))))))))))))))
  (zrs_c (zr_s (zq_aload_n C dL_law_1024 rfl)
    (zr_s (zk_callV (n := 0) C zXX_ok zTs_good hbc hbs (show zget zprog 76 = some mX7_changes from rfl) rfl rfl (show vwCl[7]? = some (RX7, TX7, 16) from rfl) zw942 zw939 zw940 zw941 zw1 (by decide +kernel) dL_law_1025)
    (zr_n (zr_n (zr_s (zq_aload_n C dL_law_1028 rfl)
    (zr_s (zk_callV (n := 0) C zXX_ok zTs_good hbc hbs (show zget zprog 152 = some mX8_changes from rfl) rfl rfl (show vwCl[8]? = some (RX8, TX8, 51) from rfl) zw1680 zw1677 zw1678 zw1679 zw16 (by decide +kernel) dL_law_1029)
    (zr_n (zr_n (zr_s (zq_icmp_eq C dL_law_1032 (by decide))
    (zr_n (zr_n (zr_s (zq_iconst (n := .ofNat 0) C dL_law_1035 (by decide))
    (zr_n (zr_s (zq_aload_n C dL_law_1037 rfl)
    (zr_s (zk_callV (n := 0) C zXX_ok zTs_good hbc hbs (show zget zprog 129 = some mX7_smoothest from rfl) rfl rfl (show vwCl[7]? = some (RX7, TX7, 16) from rfl) zw947 zw944 zw945 zw946 zw1 (by decide +kernel) dL_law_1038)
    (zr_n zr_0))))))))))))))))
  (zrs_c (zr_n (zr_s (zq_aload_n C dL_law_1041 rfl)
    (zr_s (zk_callV (n := 0) C zXX_ok zTs_good hbc hbs (show zget zprog 217 = some mX8_smoothest from rfl) rfl rfl (show vwCl[8]? = some (RX8, TX8, 51) from rfl) zw1684 zw1681 zw1682 zw1683 zw16 (by decide +kernel) dL_law_1042)
    (zr_n (zr_n (zr_s (zq_icmp_eq C dL_law_1045 (by decide))
    (zr_n (zr_n (zr_s (zq_iconst (n := .ofNat 0) C dL_law_1048 (by decide))
    (zr_n (zr_s (zq_aload_n C dL_law_1050 rfl)
    (zr_s (zq_aload_n C dL_law_1051 rfl)
    (zr_s (zq_iload C dL_law_1052)
    (zr_n (zr_s (zq_iconst (n := .ofNat 1) C dL_law_1054 (by decide))
    (zr_s (zk_add C dL_law_1055)
    zr_0))))))))))))))))
  (zrs_c (zr_s (zk_sld C hX hbl hbA hsc dL_law_1056)
    (zr_s (zq_aload_n C dL_law_1057 rfl)
    (zr_s (zq_iload C dL_law_1058)
    (zr_n (zr_s (zq_iconst (n := .ofNat 2) C dL_law_1060 (by decide))
    (zr_s (zk_add C dL_law_1061)
    (zr_s (zk_sld C hX hbl hbA hsc dL_law_1062)
    (zr_s (zq_aload_n C dL_law_1063 rfl)
    (zr_s (zq_iload C dL_law_1064)
    (zr_n (zr_s (zq_iconst (n := .ofNat 3) C dL_law_1066 (by decide))
    (zr_s (zk_add C dL_law_1067)
    (zr_s (zk_sld C hX hbl hbA hsc dL_law_1068)
    (zr_s (zk_callV (n := 3) C zXX_ok zTs_good hbc hbs (show zget zprog 106 = some mX7_meets from rfl) rfl rfl (show vwCl[7]? = some (RX7, TX7, 16) from rfl) zw955 zw952 zw953 zw954 zw1 (by decide +kernel) dL_law_1069)
    (zr_n (zr_n zr_0))))))))))))))))
  (zrs_c (zr_s (zq_aload_n C dL_law_1072 rfl)
    (zr_s (zq_aload_n C dL_law_1073 rfl)
    (zr_s (zq_iload C dL_law_1074)
    (zr_n (zr_s (zq_iconst (n := .ofNat 1) C dL_law_1076 (by decide))
    (zr_s (zk_add C dL_law_1077)
    (zr_s (zk_sld C hX hbl hbA hsc dL_law_1078)
    (zr_s (zq_aload_n C dL_law_1079 rfl)
    (zr_s (zq_iload C dL_law_1080)
    (zr_n (zr_s (zq_iconst (n := .ofNat 2) C dL_law_1082 (by decide))
    (zr_s (zk_add C dL_law_1083)
    (zr_s (zk_sld C hX hbl hbA hsc dL_law_1084)
    (zr_s (zq_aload_n C dL_law_1085 rfl)
    (zr_s (zq_iload C dL_law_1086)
    (zr_n zr_0))))))))))))))))
  (zrs_c (zr_s (zq_iconst (n := .ofNat 3) C dL_law_1088 (by decide))
    (zr_s (zk_add C dL_law_1089)
    (zr_s (zk_sld C hX hbl hbA hsc dL_law_1090)
    (zr_s (zk_callV (n := 3) C zXX_ok zTs_good hbc hbs (show zget zprog 196 = some mX8_meets from rfl) rfl rfl (show vwCl[8]? = some (RX8, TX8, 51) from rfl) zw1692 zw1689 zw1690 zw1691 zw16 (by decide +kernel) dL_law_1091)
    (zr_n (zr_n (zr_s (zq_icmp_eq C dL_law_1094 (by decide))
    (zr_n (zr_n (zr_s (zq_iconst (n := .ofNat 0) C dL_law_1097 (by decide))
    (zr_n (zr_s (zq_aload_n C dL_law_1099 rfl)
    (zr_s (zq_aload_n C dL_law_1100 rfl)
    (zr_s (zq_iload C dL_law_1101)
    (zr_n (zr_s (zq_iconst (n := .ofNat 1) C dL_law_1103 (by decide))
    zr_0))))))))))))))))
  (zrs_c (zr_s (zk_add C dL_law_1104)
    (zr_s (zk_sld C hX hbl hbA hsc dL_law_1105)
    (zr_s (zq_aload_n C dL_law_1106 rfl)
    (zr_s (zq_iload C dL_law_1107)
    (zr_n (zr_s (zq_iconst (n := .ofNat 2) C dL_law_1109 (by decide))
    (zr_s (zk_add C dL_law_1110)
    (zr_s (zk_sld C hX hbl hbA hsc dL_law_1111)
    (zr_s (zq_aload_n C dL_law_1112 rfl)
    (zr_s (zq_iload C dL_law_1113)
    (zr_n (zr_s (zq_iconst (n := .ofNat 3) C dL_law_1115 (by decide))
    (zr_s (zk_add C dL_law_1116)
    (zr_s (zk_sld C hX hbl hbA hsc dL_law_1117)
    (zr_s (zk_callV (n := 3) C zXX_ok zTs_good hbc hbs (show zget zprog 88 = some mX7_found from rfl) rfl rfl (show vwCl[7]? = some (RX7, TX7, 16) from rfl) zw959 zw956 zw957 zw958 zw1 (by decide +kernel) dL_law_1118)
    (zr_n zr_0))))))))))))))))
  (zrs_c (zr_n (zr_s (zq_aload_n C dL_law_1121 rfl)
    (zr_s (zq_aload_n C dL_law_1122 rfl)
    (zr_s (zq_iload C dL_law_1123)
    (zr_n (zr_s (zq_iconst (n := .ofNat 1) C dL_law_1125 (by decide))
    (zr_s (zk_add C dL_law_1126)
    (zr_s (zk_sld C hX hbl hbA hsc dL_law_1127)
    (zr_s (zq_aload_n C dL_law_1128 rfl)
    (zr_s (zq_iload C dL_law_1129)
    (zr_n (zr_s (zq_iconst (n := .ofNat 2) C dL_law_1131 (by decide))
    (zr_s (zk_add C dL_law_1132)
    (zr_s (zk_sld C hX hbl hbA hsc dL_law_1133)
    (zr_s (zq_aload_n C dL_law_1134 rfl)
    (zr_s (zq_iload C dL_law_1135)
    zr_0))))))))))))))))
  (zrs_c (zr_n (zr_s (zq_iconst (n := .ofNat 3) C dL_law_1137 (by decide))
    (zr_s (zk_add C dL_law_1138)
    (zr_s (zk_sld C hX hbl hbA hsc dL_law_1139)
    (zr_s (zk_callV (n := 3) C zXX_ok zTs_good hbc hbs (show zget zprog 169 = some mX8_found from rfl) rfl rfl (show vwCl[8]? = some (RX8, TX8, 51) from rfl) zw1696 zw1693 zw1694 zw1695 zw16 (by decide +kernel) dL_law_1140)
    (zr_n (zr_n (zr_s (zq_icmp_eq C dL_law_1143 (by decide))
    (zr_n (zr_n (zr_s (zq_iconst (n := .ofNat 0) C dL_law_1146 (by decide))
    (zr_n (zr_s (zq_aload_n C dL_law_1148 rfl)
    (zr_s (zk_callV (n := 0) C zXX_ok zTs_good hbc hbs (show zget zprog 87 = some mX7_forget from rfl) rfl rfl (show vwCl[7]? = some (RX7, TX7, 16) from rfl) zw963 zw960 zw961 zw962 zw1 (by decide +kernel) dL_law_1149)
    (zr_n (zr_n zr_0))))))))))))))))
  (zrs_c (zr_s (zq_aload_n C dL_law_1152 rfl)
    (zr_s (zk_callV (n := 0) C zXX_ok zTs_good hbc hbs (show zget zprog 168 = some mX8_forget from rfl) rfl rfl (show vwCl[8]? = some (RX8, TX8, 51) from rfl) zw1700 zw1697 zw1698 zw1699 zw16 (by decide +kernel) dL_law_1153)
    (zr_n (zr_n (zr_s (zq_icmp_eq C dL_law_1156 (by decide))
    (zr_n (zr_n (zr_s (zq_iconst (n := .ofNat 0) C dL_law_1159 (by decide))
    (zr_n (zr_s (zq_aload_n C dL_law_1161 rfl)
    (zr_s (zk_callV (n := 0) C zXX_ok zTs_good hbc hbs (show zget zprog 86 = some mX7_fits from rfl) rfl rfl (show vwCl[7]? = some (RX7, TX7, 16) from rfl) zw967 zw964 zw965 zw966 zw1 (by decide +kernel) dL_law_1162)
    (zr_n (zr_n (zr_s (zq_aload_n C dL_law_1165 rfl)
    (zr_s (zk_callV (n := 0) C zXX_ok zTs_good hbc hbs (show zget zprog 166 = some mX8_fits from rfl) rfl rfl (show vwCl[8]? = some (RX8, TX8, 51) from rfl) zw1704 zw1701 zw1702 zw1703 zw16 (by decide +kernel) dL_law_1166)
    (zr_n zr_0))))))))))))))))
  (zrs_c (zr_n (zr_s (zq_icmp_eq C dL_law_1169 (by decide))
    (zr_n (zr_n (zr_s (zq_iconst (n := .ofNat 0) C dL_law_1172 (by decide))
    (zr_n (zr_s (zq_aload_n C dL_law_1174 rfl)
    (zr_s (zq_aload_n C dL_law_1175 rfl)
    (zr_s (zq_iload C dL_law_1176)
    (zr_n (zr_s (zq_iconst (n := .ofNat 1) C dL_law_1178 (by decide))
    (zr_s (zk_add C dL_law_1179)
    (zr_s (zk_sld C hX hbl hbA hsc dL_law_1180)
    (zr_s (zq_aload_n C dL_law_1181 rfl)
    (zr_s (zq_iload C dL_law_1182)
    (zr_n zr_0))))))))))))))))
  (zrs_c (zr_s (zq_iconst (n := .ofNat 2) C dL_law_1184 (by decide))
    (zr_s (zk_add C dL_law_1185)
    (zr_s (zk_sld C hX hbl hbA hsc dL_law_1186)
    (zr_s (zk_callV (n := 2) C zXX_ok zTs_good hbc hbs (show zget zprog 131 = some mX7_sure from rfl) rfl rfl (show vwCl[7]? = some (RX7, TX7, 16) from rfl) zw984 zw981 zw982 zw983 zw1 (by decide +kernel) dL_law_1187)
    (zr_n (zr_n (zr_s (zq_aload_n C dL_law_1190 rfl)
    (zr_s (zq_aload_n C dL_law_1191 rfl)
    (zr_s (zq_iload C dL_law_1192)
    (zr_n (zr_s (zq_iconst (n := .ofNat 1) C dL_law_1194 (by decide))
    (zr_s (zk_add C dL_law_1195)
    (zr_s (zk_sld C hX hbl hbA hsc dL_law_1196)
    (zr_s (zq_aload_n C dL_law_1197 rfl)
    (zr_s (zq_iload C dL_law_1198)
    (zr_n zr_0))))))))))))))))
  (zrs_c (zr_s (zq_iconst (n := .ofNat 2) C dL_law_1200 (by decide))
    (zr_s (zk_add C dL_law_1201)
    (zr_s (zk_sld C hX hbl hbA hsc dL_law_1202)
    (zr_s (zk_callV (n := 2) C zXX_ok zTs_good hbc hbs (show zget zprog 220 = some mX8_sure from rfl) rfl rfl (show vwCl[8]? = some (RX8, TX8, 51) from rfl) zw1716 zw1713 zw1714 zw1715 zw16 (by decide +kernel) dL_law_1203)
    (zr_n (zr_n (zr_s (zq_icmp_eq C dL_law_1206 (by decide))
    (zr_n (zr_n (zr_s (zq_iconst (n := .ofNat 0) C dL_law_1209 (by decide))
    (zr_n (zr_s (zq_aload_n C dL_law_1211 rfl)
    (zr_s (zk_callV (n := 0) C zXX_ok zTs_good hbc hbs (show zget zprog 72 = some mX7_ask from rfl) rfl rfl (show vwCl[7]? = some (RX7, TX7, 16) from rfl) zw995 zw992 zw993 zw994 zw1 (by decide +kernel) dL_law_1212)
    (zr_n (zr_n (zr_s (zq_aload_n C dL_law_1215 rfl)
    zr_0))))))))))))))))
  (zrs_c (zr_s (zk_callV (n := 0) C zXX_ok zTs_good hbc hbs (show zget zprog 147 = some mX8_ask from rfl) rfl rfl (show vwCl[8]? = some (RX8, TX8, 51) from rfl) zw1727 zw1724 zw1725 zw1726 zw16 (by decide +kernel) dL_law_1216)
    (zr_n (zr_n (zr_s (zq_icmp_eq C dL_law_1219 (by decide))
    (zr_n (zr_n (zr_s (zq_iconst (n := .ofNat 0) C dL_law_1222 (by decide))
    (zr_n (zr_s (zq_aload_n C dL_law_1224 rfl)
    (zr_s (zq_aload_n C dL_law_1225 rfl)
    (zr_s (zq_iload C dL_law_1226)
    (zr_n (zr_s (zq_iconst (n := .ofNat 1) C dL_law_1228 (by decide))
    (zr_s (zk_add C dL_law_1229)
    (zr_s (zk_sld C hX hbl hbA hsc dL_law_1230)
    (zr_s (zk_callV (n := 1) C zXX_ok zTs_good hbc hbs (show zget zprog 95 = some mX7_held from rfl) rfl rfl (show vwCl[7]? = some (RX7, TX7, 16) from rfl) zw1016 zw1013 zw1014 zw1015 zw1 (by decide +kernel) dL_law_1231)
    zr_0))))))))))))))))
  (zrs_c (zr_n (zr_n (zr_s (zq_aload_n C dL_law_1234 rfl)
    (zr_s (zq_aload_n C dL_law_1235 rfl)
    (zr_s (zq_iload C dL_law_1236)
    (zr_n (zr_s (zq_iconst (n := .ofNat 1) C dL_law_1238 (by decide))
    (zr_s (zk_add C dL_law_1239)
    (zr_s (zk_sld C hX hbl hbA hsc dL_law_1240)
    (zr_s (zk_callV (n := 1) C zXX_ok zTs_good hbc hbs (show zget zprog 176 = some mX8_held from rfl) rfl rfl (show vwCl[8]? = some (RX8, TX8, 51) from rfl) zw1731 zw1728 zw1729 zw1730 zw16 (by decide +kernel) dL_law_1241)
    (zr_n (zr_n (zr_s (zq_icmp_eq C dL_law_1244 (by decide))
    (zr_n (zr_n (zr_s (zq_iconst (n := .ofNat 0) C dL_law_1247 (by decide))
    zr_0))))))))))))))))
  (zrs_c (zr_n (zr_s (zq_aload_n C dL_law_1249 rfl)
    (zr_s (zq_aload_n C dL_law_1250 rfl)
    (zr_s (zq_iload C dL_law_1251)
    (zr_n (zr_s (zq_iconst (n := .ofNat 1) C dL_law_1253 (by decide))
    (zr_s (zk_add C dL_law_1254)
    (zr_s (zk_sld C hX hbl hbA hsc dL_law_1255)
    (zr_s (zk_callV (n := 1) C zXX_ok zTs_good hbc hbs (show zget zprog 102 = some mX7_keystone from rfl) rfl rfl (show vwCl[7]? = some (RX7, TX7, 16) from rfl) zw1040 zw1037 zw1038 zw1039 zw1 (by decide +kernel) dL_law_1256)
    (zr_n (zr_n (zr_s (zq_aload_n C dL_law_1259 rfl)
    (zr_s (zq_aload_n C dL_law_1260 rfl)
    (zr_s (zq_iload C dL_law_1261)
    (zr_n (zr_s (zq_iconst (n := .ofNat 1) C dL_law_1263 (by decide))
    zr_0))))))))))))))))
  (zrs_c (zr_s (zk_add C dL_law_1264)
    (zr_s (zk_sld C hX hbl hbA hsc dL_law_1265)
    (zr_s (zk_callV (n := 1) C zXX_ok zTs_good hbc hbs (show zget zprog 188 = some mX8_keystone from rfl) rfl rfl (show vwCl[8]? = some (RX8, TX8, 51) from rfl) zw1747 zw1744 zw1745 zw1746 zw16 (by decide +kernel) dL_law_1266)
    (zr_n (zr_n (zr_s (zq_icmp_eq C dL_law_1269 (by decide))
    (zr_n (zr_n (zr_s (zq_iconst (n := .ofNat 0) C dL_law_1272 (by decide))
    (zr_n (zr_s (zq_aload_n C dL_law_1274 rfl)
    (zr_s (zq_aload_n C dL_law_1275 rfl)
    (zr_s (zq_iload C dL_law_1276)
    (zr_n (zr_s (zq_iconst (n := .ofNat 1) C dL_law_1278 (by decide))
    (zr_s (zk_add C dL_law_1279)
    zr_0))))))))))))))))
  (zrs_c (zr_s (zk_sld C hX hbl hbA hsc dL_law_1280)
    (zr_s (zq_aload_n C dL_law_1281 rfl)
    (zr_s (zq_iload C dL_law_1282)
    (zr_n (zr_s (zq_iconst (n := .ofNat 2) C dL_law_1284 (by decide))
    (zr_s (zk_add C dL_law_1285)
    (zr_s (zk_sld C hX hbl hbA hsc dL_law_1286)
    (zr_s (zk_callV (n := 2) C zXX_ok zTs_good hbc hbs (show zget zprog 117 = some mX7_rests from rfl) rfl rfl (show vwCl[7]? = some (RX7, TX7, 16) from rfl) zw1044 zw1041 zw1042 zw1043 zw1 (by decide +kernel) dL_law_1287)
    (zr_n (zr_n (zr_s (zq_aload_n C dL_law_1290 rfl)
    (zr_s (zq_aload_n C dL_law_1291 rfl)
    (zr_s (zq_iload C dL_law_1292)
    (zr_n (zr_s (zq_iconst (n := .ofNat 1) C dL_law_1294 (by decide))
    (zr_s (zk_add C dL_law_1295)
    zr_0))))))))))))))))
  (zrs_c (zr_s (zk_sld C hX hbl hbA hsc dL_law_1296)
    (zr_s (zq_aload_n C dL_law_1297 rfl)
    (zr_s (zq_iload C dL_law_1298)
    (zr_n (zr_s (zq_iconst (n := .ofNat 2) C dL_law_1300 (by decide))
    (zr_s (zk_add C dL_law_1301)
    (zr_s (zk_sld C hX hbl hbA hsc dL_law_1302)
    (zr_s (zk_callV (n := 2) C zXX_ok zTs_good hbc hbs (show zget zprog 206 = some mX8_rests from rfl) rfl rfl (show vwCl[8]? = some (RX8, TX8, 51) from rfl) zw1751 zw1748 zw1749 zw1750 zw16 (by decide +kernel) dL_law_1303)
    (zr_n (zr_n (zr_s (zq_icmp_eq C dL_law_1306 (by decide))
    (zr_n (zr_n (zr_s (zq_iconst (n := .ofNat 0) C dL_law_1309 (by decide))
    (zr_n (zr_s (zq_aload_n C dL_law_1311 rfl)
    zr_0))))))))))))))))
  (zrs_c (zr_s (zk_callV (n := 0) C zXX_ok zTs_good hbc hbs (show zget zprog 104 = some mX7_law from rfl) rfl rfl (show vwCl[7]? = some (RX7, TX7, 16) from rfl) zw1051 zw1048 zw1049 zw1050 zw1 (by decide +kernel) dL_law_1312)
    (zr_n (zr_n (zr_s (zq_aload_n C dL_law_1315 rfl)
    (zr_s (zk_callV (n := 0) C zXX_ok zTs_good hbc hbs (show zget zprog 190 = some mX8_law from rfl) rfl rfl (show vwCl[8]? = some (RX8, TX8, 51) from rfl) zw1764 zw1761 zw1762 zw1763 zw16 (by decide +kernel) dL_law_1316)
    (zr_n (zr_n (zr_s (zq_icmp_eq C dL_law_1319 (by decide))
    (zr_n (zr_n (zr_s (zq_iconst (n := .ofNat 0) C dL_law_1322 (by decide))
    (zr_n (zr_s (zq_aload_n C dL_law_1324 rfl)
    (zr_s (zq_aload_n C dL_law_1325 rfl)
    (zr_s (zq_iload C dL_law_1326)
    (zr_n zr_0))))))))))))))))
  (zrs_c (zr_s (zq_iconst (n := .ofNat 1) C dL_law_1328 (by decide))
    (zr_s (zk_add C dL_law_1329)
    (zr_s (zk_sld C hX hbl hbA hsc dL_law_1330)
    (zr_s (zq_aload_n C dL_law_1331 rfl)
    (zr_s (zq_iload C dL_law_1332)
    (zr_n (zr_s (zq_iconst (n := .ofNat 2) C dL_law_1334 (by decide))
    (zr_s (zk_add C dL_law_1335)
    (zr_s (zk_sld C hX hbl hbA hsc dL_law_1336)
    (zr_s (zk_callV (n := 2) C zXX_ok zTs_good hbc hbs (show zget zprog 142 = some mX7_years from rfl) rfl rfl (show vwCl[7]? = some (RX7, TX7, 16) from rfl) zw1059 zw1056 zw1057 zw1058 zw1 (by decide +kernel) dL_law_1337)
    (zr_n (zr_n (zr_s (zq_aload_n C dL_law_1340 rfl)
    (zr_s (zq_aload_n C dL_law_1341 rfl)
    (zr_s (zq_iload C dL_law_1342)
    (zr_n zr_0))))))))))))))))
  (zrs_c (zr_s (zq_iconst (n := .ofNat 1) C dL_law_1344 (by decide))
    (zr_s (zk_add C dL_law_1345)
    (zr_s (zk_sld C hX hbl hbA hsc dL_law_1346)
    (zr_s (zq_aload_n C dL_law_1347 rfl)
    (zr_s (zq_iload C dL_law_1348)
    (zr_n (zr_s (zq_iconst (n := .ofNat 2) C dL_law_1350 (by decide))
    (zr_s (zk_add C dL_law_1351)
    (zr_s (zk_sld C hX hbl hbA hsc dL_law_1352)
    (zr_s (zk_callV (n := 2) C zXX_ok zTs_good hbc hbs (show zget zprog 234 = some mX8_years from rfl) rfl rfl (show vwCl[8]? = some (RX8, TX8, 51) from rfl) zw1772 zw1769 zw1770 zw1771 zw16 (by decide +kernel) dL_law_1353)
    (zr_n (zr_n (zr_s (zq_icmp_eq C dL_law_1356 (by decide))
    (zr_n (zr_n (zr_s (zq_iconst (n := .ofNat 0) C dL_law_1359 (by decide))
    zr_0))))))))))))))))
  (zrs_c (zr_n (zr_s (zq_aload_n C dL_law_1361 rfl)
    (zr_s (zq_aload_n C dL_law_1362 rfl)
    (zr_s (zq_iload C dL_law_1363)
    (zr_n (zr_s (zq_iconst (n := .ofNat 1) C dL_law_1365 (by decide))
    (zr_s (zk_add C dL_law_1366)
    (zr_s (zk_sld C hX hbl hbA hsc dL_law_1367)
    (zr_s (zk_callV (n := 1) C zXX_ok zTs_good hbc hbs (show zget zprog 101 = some mX7_keep from rfl) rfl rfl (show vwCl[7]? = some (RX7, TX7, 16) from rfl) zw1072 zw1069 zw1070 zw1071 zw1 (by decide +kernel) dL_law_1368)
    (zr_n (zr_n (zr_s (zq_aload_n C dL_law_1371 rfl)
    (zr_s (zq_aload_n C dL_law_1372 rfl)
    (zr_s (zq_iload C dL_law_1373)
    (zr_n (zr_s (zq_iconst (n := .ofNat 1) C dL_law_1375 (by decide))
    zr_0))))))))))))))))
  (zrs_c (zr_s (zk_add C dL_law_1376)
    (zr_s (zk_sld C hX hbl hbA hsc dL_law_1377)
    (zr_s (zk_callV (n := 1) C zXX_ok zTs_good hbc hbs (show zget zprog 187 = some mX8_keep from rfl) rfl rfl (show vwCl[8]? = some (RX8, TX8, 51) from rfl) zw1781 zw1778 zw1779 zw1780 zw16 (by decide +kernel) dL_law_1378)
    (zr_n (zr_n (zr_s (zq_icmp_eq C dL_law_1381 (by decide))
    (zr_n (zr_n (zr_s (zq_iconst (n := .ofNat 0) C dL_law_1384 (by decide))
    (zr_n (zr_s (zq_aload_n C dL_law_1386 rfl)
    (zr_s (zq_aload_n C dL_law_1387 rfl)
    (zr_s (zq_iload C dL_law_1388)
    (zr_n (zr_s (zq_iconst (n := .ofNat 1) C dL_law_1390 (by decide))
    (zr_s (zk_add C dL_law_1391)
    zr_0))))))))))))))))
  (zrs_c (zr_s (zk_sld C hX hbl hbA hsc dL_law_1392)
    (zr_s (zk_callV (n := 1) C zXX_ok zTs_good hbc hbs (show zget zprog 71 = some mX7_again from rfl) rfl rfl (show vwCl[7]? = some (RX7, TX7, 16) from rfl) zw1076 zw1073 zw1074 zw1075 zw1 (by decide +kernel) dL_law_1393)
    (zr_n (zr_n (zr_s (zq_aload_n C dL_law_1396 rfl)
    (zr_s (zq_aload_n C dL_law_1397 rfl)
    (zr_s (zq_iload C dL_law_1398)
    (zr_n (zr_s (zq_iconst (n := .ofNat 1) C dL_law_1400 (by decide))
    (zr_s (zk_add C dL_law_1401)
    (zr_s (zk_sld C hX hbl hbA hsc dL_law_1402)
    (zr_s (zk_callV (n := 1) C zXX_ok zTs_good hbc hbs (show zget zprog 145 = some mX8_again from rfl) rfl rfl (show vwCl[8]? = some (RX8, TX8, 51) from rfl) zw1785 zw1782 zw1783 zw1784 zw16 (by decide +kernel) dL_law_1403)
    (zr_n (zr_n (zr_s (zq_icmp_eq C dL_law_1406 (by decide))
    (zr_n zr_0))))))))))))))))
  (zrs_c (zr_n (zr_s (zq_iconst (n := .ofNat 0) C dL_law_1409 (by decide))
    (zr_n (zr_s (zq_aload_n C dL_law_1411 rfl)
    (zr_s (zq_aload_n C dL_law_1412 rfl)
    (zr_s (zq_iload C dL_law_1413)
    (zr_n (zr_s (zq_iconst (n := .ofNat 1) C dL_law_1415 (by decide))
    (zr_s (zk_add C dL_law_1416)
    (zr_s (zk_sld C hX hbl hbA hsc dL_law_1417)
    (zr_s (zk_callV (n := 1) C zXX_ok zTs_good hbc hbs (show zget zprog 77 = some mX7_count from rfl) rfl rfl (show vwCl[7]? = some (RX7, TX7, 16) from rfl) zw1080 zw1077 zw1078 zw1079 zw1 (by decide +kernel) dL_law_1418)
    (zr_n (zr_n (zr_s (zq_aload_n C dL_law_1421 rfl)
    (zr_s (zq_aload_n C dL_law_1422 rfl)
    (zr_s (zq_iload C dL_law_1423)
    zr_0))))))))))))))))
  (zrs_c (zr_n (zr_s (zq_iconst (n := .ofNat 1) C dL_law_1425 (by decide))
    (zr_s (zk_add C dL_law_1426)
    (zr_s (zk_sld C hX hbl hbA hsc dL_law_1427)
    (zr_s (zk_callV (n := 1) C zXX_ok zTs_good hbc hbs (show zget zprog 154 = some mX8_count from rfl) rfl rfl (show vwCl[8]? = some (RX8, TX8, 51) from rfl) zw1789 zw1786 zw1787 zw1788 zw16 (by decide +kernel) dL_law_1428)
    (zr_n (zr_n (zr_s (zq_icmp_eq C dL_law_1431 (by decide))
    (zr_n (zr_n (zr_s (zq_iconst (n := .ofNat 0) C dL_law_1434 (by decide))
    (zr_n (zr_s (zq_aload_n C dL_law_1436 rfl)
    (zr_s (zq_aload_n C dL_law_1437 rfl)
    (zr_s (zq_iload C dL_law_1438)
    (zr_n zr_0))))))))))))))))
  (zrs_c (zr_s (zq_iconst (n := .ofNat 1) C dL_law_1440 (by decide))
    (zr_s (zk_add C dL_law_1441)
    (zr_s (zk_sld C hX hbl hbA hsc dL_law_1442)
    (zr_s (zq_aload_n C dL_law_1443 rfl)
    (zr_n (zr_n (zr_n (zr_s (zq_istore C dL_law_1447 (by decide))
    (zr_n (zr_s (zq_aload_n C dL_law_1449 rfl)
    (zr_s (zq_aload_n C dL_law_1450 rfl)
    (zr_s (zq_iload C dL_law_1451)
    (zr_n (zr_s (zq_iconst (n := .ofNat 1) C dL_law_1453 (by decide))
    (zr_s (zk_add C dL_law_1454)
    (zr_s (zk_sld C hX hbl hbA hsc dL_law_1455)
    zr_0))))))))))))))))
  (zrs_c (zr_s (zk_callV (n := 1) C zXX_ok zTs_good hbc hbs (show zget zprog 211 = some mX8_row from rfl) rfl rfl (show vwCl[8]? = some (RX8, TX8, 51) from rfl) zw1793 zw1790 zw1791 zw1792 zw16 (by decide +kernel) dL_law_1456)
    (zr_n (zr_n (zr_s (zq_lstore C dL_law_1459 (by decide))
    (zr_n (zr_s (zq_aload_n C dL_law_1461 rfl)
    (zr_s (zk_callV (n := 0) C zXX_ok zTs_good hbc hbs (show zget zprog 226 = some mX8_thrown from rfl) rfl rfl (show vwCl[8]? = some (RX8, TX8, 51) from rfl) zw1329 zw1326 zw1327 zw1328 zw16 (by decide +kernel) dL_law_1462)
    (zr_n (zr_n (zr_s (zq_iload C dL_law_1465)
    (zr_n (zr_s (zq_icmp_eq C dL_law_1467 (by decide))
    (zr_n (zr_n (zr_s (zq_iconst (n := .ofNat 0) C dL_law_1470 (by decide))
    (zr_n zr_0))))))))))))))))
  (zrs_c (zr_s (zq_iload C dL_law_1472)
    (zr_n (zr_s (zq_if_ne C dL_law_1474 (by decide))
    (zr_n (zr_n (zr_s (zq_aload_n C dL_law_1477 rfl)
    (zr_s (zq_iconst (n := .ofNat 0) C dL_law_1478 (by decide))
    (zr_n (zr_s (zq_lload C dL_law_1480)
    (zr_n (zr_s (zk_lcmp C dL_law_1482)
    (zr_s (zq_if_eq C dL_law_1483 (by decide))
    (zr_n (zr_n (zr_s (zq_iconst (n := .ofNat 0) C dL_law_1486 (by decide))
    (zr_n zr_0))))))))))))))))
  (zrs_c (zr_s (zk_goto C dL_law_1488 (by decide))
    (zr_n (zr_n (zr_s (zk_inc (n := .ofNat 5) C dL_law_1491 (by decide) (by decide))
    (zr_n (zr_n (zr_s (zk_goto C dL_law_1494 (by decide))
    (zr_n (zr_n (zr_s (zq_iconst (n := .ofNat 1) C dL_law_1497 (by decide))
    (zr_s (zk_fin C hX0 dL_law_1498)
    zr_0)))))))))))
  zrs_0))))))))))))))))))))))))))))))))))))))))))))))))))))))))))))))))))))))))))))))))))))))))))))))
