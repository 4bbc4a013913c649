section XQM
variable {p : Program} {l : Launch} {e : Env} {R : Room} {s : State} {m : MethodId} {args : Array Value} {below : List Frame} {meth : Method} {c0 : Code} {Q : State → Prop} {D : va_G} {cl : List vw_C} {tys : List (ClassId × FieldType)} {o : zO} {z : Nat} {X : State → Heap → Prop} {Ts : List Cond} {prog : List zM} {nL : Nat} {own : String} {cc : ByteArray} {ret : Option FieldType} {nm : String}
variable {b : Nat → Nat}
theorem xk_cJ (C : zCx p R s m args meth c0 D cl tys z X Ts own cc nL nm) (hX : zXok X z) {pc mi n : Nat} {ci : Option Nat} {mr : zM} {Rc : List Value → Heap → Prop} (hm : zget prog mi = some mr)
    (hrecv : ∀ (as : List Value) (S : xq_S) (ws : va_W) (H : Heap), xq_rc ci as = true → xq_r b cl tys S ws → va_P D cl ws H → Rc (as.map (xq_v b)) H)
    (row : ∀ (H : Heap) (locs : List Loc) (cells slots : Nat) (ls : Array Slot) (As rest : List Value) (fr lo : Nat) (Pc : Array Value → State → Prop) (Qc : Array Value → State → Outcome → State → Prop), Met l mr.1 (.code mr.1 mr.2.1 mr.2.2.1 mr.2.2.2.1 :: Ts) { frames := fr, cells := mr.2.2.2.2.1, slots := mr.2.2.2.2.2.1, locals := lo } Pc Qc mr.2.2.2.2.1 mr.2.2.2.2.2.1 (zA z) → fr + 1 ≤ R.frames → 8 + (mr.2.2.1 + 11) + lo ≤ R.locals → FrameBlind Pc → (∀ U : State, U.heap = H → s.WarmedH U.vm → Pc As.toArray U) → Rc As H → As.length = n → ls.size = nL → 2 * (F0 m pc ls (As.reverse ++ rest)).monitorRoom + (rest.map fun v => v.category).sum ≤ 8 → cells + mr.2.2.2.2.1 ≤ R.cells ∧ slots + mr.2.2.2.2.2.1 ≤ R.slots →
      va_Run p l e R s m args below meth c0 H locs cells slots mr.2.2.2.2.1 mr.2.2.2.2.2.1 (F0 m pc ls (As.reverse ++ rest)) rest (Qc As.toArray) (zA z)) : xq_Op p l e R s m args below meth c0 Q D cl tys z X Ts prog nL cc ret b pc (xi_cJ (pc + 3) mi n ci) := by
  intro call L st S x hco hs hx ls ws H locs hL hM
  unfold xi_cJ at hs
  split at hs
  · rename_i as rest hp
    split at hs
    · rename_i hcnt
      unfold xq_bJ at hs
      split at hs
      · rename_i v S' hcall
        cases hs
        exact xq_run1 C hX hm hrecv row hco hp hcnt hcall hL hM (fun ws' H1 locs1 hM' => hx ls ws' H1 locs1 hL hM')
      · cases hs
    · cases hs
  · cases hs
end XQM
