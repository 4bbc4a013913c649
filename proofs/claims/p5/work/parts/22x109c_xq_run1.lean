section XQM
variable {p : Program} {l : Launch} {e : Env} {R : Room} {s : State} {m : MethodId} {args : Array Value} {below : List Frame} {meth : Method} {c0 : Code} {Q : State → Prop} {D : va_G} {cl : List vw_C} {tys : List (ClassId × FieldType)} {o : zO} {z : Nat} {X : State → Heap → Prop} {Ts : List Cond} {prog : List zM} {nL : Nat} {own : String} {cc : ByteArray} {ret : Option FieldType} {nm : String}
variable {b : Nat → Nat}
theorem xq_run1 (C : zCx p R s m args meth c0 D cl tys z X Ts own cc nL nm) (hX : zXok X z) {pc mi n : Nat} {ci : Option Nat} {mr : zM} {Rc : List Value → Heap → Prop} (hm : zget prog mi = some mr)
    (hrecv : ∀ (as : List Value) (S : xq_S) (ws : va_W) (H : Heap), xq_rc ci as = true → xq_r b cl tys S ws → va_P D cl ws H → Rc (as.map (xq_v b)) H)
    (row : ∀ (H : Heap) (locs : List Loc) (cells slots : Nat) (ls : Array Slot) (As rest : List Value) (fr lo : Nat) (Pc : Array Value → State → Prop) (Qc : Array Value → State → Outcome → State → Prop), Met l mr.1 (.code mr.1 mr.2.1 mr.2.2.1 mr.2.2.2.1 :: Ts) { frames := fr, cells := mr.2.2.2.2.1, slots := mr.2.2.2.2.2.1, locals := lo } Pc Qc mr.2.2.2.2.1 mr.2.2.2.2.2.1 (zA z) → fr + 1 ≤ R.frames → 8 + (mr.2.2.1 + 11) + lo ≤ R.locals → FrameBlind Pc → (∀ U : State, U.heap = H → s.WarmedH U.vm → Pc As.toArray U) → Rc As H → As.length = n → ls.size = nL → 2 * (F0 m pc ls (As.reverse ++ rest)).monitorRoom + (rest.map fun v => v.category).sum ≤ 8 → cells + mr.2.2.2.2.1 ≤ R.cells ∧ slots + mr.2.2.2.2.2.1 ≤ R.slots →
      va_Run p l e R s m args below meth c0 H locs cells slots mr.2.2.2.2.1 mr.2.2.2.2.2.1 (F0 m pc ls (As.reverse ++ rest)) rest (Qc As.toArray) (zA z))
    {call : xq_F} (hco : xq_Co l D cl tys z X Ts prog R b call) {L st as rest : List Value} {S : xq_S} {r : xq_O} (hp : xq_pp n [] st = some (as, rest)) (hcnt : (Nat.ble (xq_ct rest) 8 && xq_rc ci as) = true) (hcall : call mi as S = some r) {ls : Array Slot} {ws : va_W} {H : Heap} {locs : List Loc} (hL : xq_L b nL ls L) (hM : xq_M b D cl tys z s.heap S ws H locs)
    (kk : ∀ (ws' : va_W) (H1 : Heap) (locs1 : List Loc), xq_M b D cl tys z s.heap r.2 ws' H1 locs1 → W p l e R s m args below meth c0 H1 locs1 0 0 Q (F0 m (pc + 3) ls ((r.1.map (xq_v b)).toList ++ rest.map (xq_v b)))) : W p l e R s m args below meth c0 H locs 0 0 Q (F0 m pc ls (st.map (xq_v b))) := by
  rw [Bool.and_eq_true] at hcnt
  have c1 := Nat.le_of_ble_eq_true hcnt.1
  obtain ⟨xs, e1, e2, e3⟩ := xq_pp_ok hp
  rw [List.append_nil] at e1
  subst e1
  subst e2
  obtain ⟨m1, m2, fr, lo, f1, f2, hMt⟩ := hco mi mr as S r hm hcall
  have hM' := hMt ws hM.1
  have hct := xq_ct_ok (b := b) rest
  have hrun := row H locs 0 0 ls (as.map (xq_v b)) (rest.map (xq_v b)) fr lo _ _ hM' f1 f2 (xq_blind hX) (fun U hU hW => ⟨rfl, hM.1, by rw [hU]; exact hM.2.1, hM.2.2.1, va_K.moved hW.alike C.2.2.2.2.2.1, by rw [hU]; exact hX.2.1 s U H hW (hX.2.2 s s.heap H C.2.2.2.2.2.2.2.2.1 (fun q hq => hM.2.2.2.2.1 q (Nat.lt_of_lt_of_le hq C.2.2.2.2.2.2.2.2.1) (Nat.not_le.mpr hq)) C.2.2.2.2.2.2.2.1), by rw [hU]; exact Nat.le_trans C.2.2.2.2.2.2.2.2.1 hM.2.2.2.1⟩) (hrecv as S ws H hcnt.2 hM.1 hM.2.1) (by rw [List.length_map]; exact e3) hL.1 (lv_room (by rw [hct]; exact c1)) ⟨by rw [m1]; exact Nat.zero_le _, by rw [m2]; exact Nat.zero_le _⟩
  have es : (as.reverse ++ rest).map (xq_v b) = (as.map (xq_v b)).reverse ++ rest.map (xq_v b) := by rw [List.map_append, List.map_reverse]
  rw [es]
  refine xq_call_k hrun hM.2.2.2 (fun ws' H1 locs1 q1 q2 q3 q4 => ?_)
  rw [m1, m2]
  exact kk ws' H1 locs1 ⟨q1, q2, q3, q4⟩
end XQM
