noncomputable def zyfs94 : List zAV := [zyv117, zyv26, zyv27, zyv25, zyv118, zyv119, zyv120, zyv121, zyv17, zyv122, zyv25, zyv36, zyv114, zyv17, zyv123, zyv123, zyv124, zyv125, zyv126, zyv127, zyv35, zyv128, zyv129, zyv130, zyv13, zyv131, zyv132, zyv18, zyv18, zyv133, zyv134, zyv135, zyv136, zyv137, zyv138, zyv139, zyv140, zyv141, zyv142, zyv143, zyv144, zyv145, zyv146, zyv147, zyv15, zyv13, zyv15, zyv15, zyv148, zyv149, zyv150]
noncomputable def zyJs : List zJ := []
theorem zyJ0 : ∀ q ∈ zyJs, q.1 0 = false := by
  intro q hq
  unfold zyJs at hq
  simp only [List.mem_cons, List.not_mem_nil, or_false] at hq
theorem zyJok {D : va_G} {tys : List (ClassId × FieldType)} {z : Nat} : ∀ q ∈ zyJs, zJok D tys z q := by
  intro q hq
  unfold zyJs at hq
  simp only [List.mem_cons, List.not_mem_nil, or_false] at hq
noncomputable def zyX (i : Nat) : zH := zyI
noncomputable def zyfm : List zH := (List.range 1).map zyX
noncomputable def zyP (h : zH) : zH := zyI
def zyjs : List zI := [(.ofNat 0, .ofNat 2), (.ofNat 3, .ofNat 3), (.ofNat 4, .ofNat 42), (.ofNat 43, .ofNat 43), (.ofNat 44, .ofNat 63)]
def zyB1 : zI → List zI := fun j => match j.1 with
  | .ofNat 43 => [(.negSucc 2147483647, .negSucc 0), (.ofNat 0, .ofNat 0), (.ofNat 1, .ofNat 1), (.ofNat 2, .ofNat 2), (.ofNat 3, .ofNat 3), (.ofNat 4, .ofNat 4), (.ofNat 5, .ofNat 5), (.ofNat 6, .ofNat 6), (.ofNat 7, .ofNat 7), (.ofNat 8, .ofNat 8), (.ofNat 9, .ofNat 9), (.ofNat 10, .ofNat 2147483647)]
  | _ => [(.negSucc 2147483647, .ofNat 2147483647)]
def zyB2 : zI → List zI := fun j => match j.1 with
  | .ofNat 43 => [(.negSucc 2147483647, .negSucc 0), (.ofNat 0, .ofNat 0), (.ofNat 1, .ofNat 1), (.ofNat 2, .ofNat 2), (.ofNat 3, .ofNat 3), (.ofNat 4, .ofNat 4), (.ofNat 5, .ofNat 5), (.ofNat 6, .ofNat 6), (.ofNat 7, .ofNat 7), (.ofNat 8, .ofNat 8), (.ofNat 9, .ofNat 9), (.ofNat 10, .ofNat 2147483647)]
  | _ => [(.negSucc 2147483647, .ofNat 2147483647)]
theorem zyj_ok : zcov64 0 zyjs = true := by decide +kernel
theorem zyb1_ok : ∀ j ∈ zyjs, zcov (-2147483648) (zyB1 j) = true := by decide +kernel
theorem zyb2_ok : ∀ j ∈ zyjs, zcov (-2147483648) (zyB2 j) = true := by decide +kernel
set_option maxRecDepth 100000 in
theorem zyk94 : zrget zyI.2.1 94 = some (.inr (8, zyfs94)) := rfl
theorem zyfam {tys : List (ClassId × FieldType)} {o : zO} (ws : va_W) (w : zwr vwCl tys o zyI ws) (hR : ∀ q ∈ zyJs, q.2.2 ws) : ∃ h ∈ zyfm, zwr vwCl tys o h ws := by
  refine ⟨zyX 0, List.mem_map.mpr ⟨_, List.mem_range.mpr (by omega), rfl⟩, ?_⟩
  unfold zyX
  exact w
