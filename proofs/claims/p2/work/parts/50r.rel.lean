noncomputable def zyfs94 : List zAV := [zyv117, zyv26, zyv27, zyv25, zyv118, zyv119, zyv120, zyv121, zyv17, zyv122, zyv25, zyv36, zyv114, zyv17, zyv123, zyv123, zyv124, zyv125, zyv126, zyv127, zyv35, zyv128, zyv129, zyv130, zyv13, zyv131, zyv132, zyv18, zyv18, zyv133, zyv134, zyv135, zyv136, zyv137, zyv138, zyv139, zyv140, zyv141, zyv142, zyv143, zyv144, zyv145, zyv146, zyv147, zyv15, zyv13, zyv15, zyv15, zyv148, zyv149, zyv150]
noncomputable def zyJs : List zJ := [zjp (1, 1, 94, 8)]
theorem zyJ0 : ∀ q ∈ zyJs, q.1 0 = false := by
  intro q hq
  unfold zyJs at hq
  simp only [List.mem_cons, List.not_mem_nil, or_false] at hq
  subst hq
  exact (by rw [zb0R, zb0R]; rfl : (zbit 0 1 1 || zbit 0 94 8) = false)
theorem zyJok {D : va_G} {tys : List (ClassId × FieldType)} {z : Nat} : ∀ q ∈ zyJs, zJok D tys z q := by
  intro q hq
  unfold zyJs at hq
  simp only [List.mem_cons, List.not_mem_nil, or_false] at hq
  subst hq
  exact zjp_ok (1, 1, 94, 8)
noncomputable def zyX (i : Nat) : zH := (zxv (zxv zyI 1 1 (((i / 1) % 81 + 0 : Nat) : Int)) 94 8 (((i / 1) % 81 + 0 : Nat) : Int))
noncomputable def zyfm : List zH := (List.range 81).map zyX
noncomputable def zyP (h : zH) : zH := (zxc h (zxc h zyI 1 1) 94 8)
def zyjs : List zI := [(.ofNat 0, .ofNat 0), (.ofNat 1, .ofNat 1), (.ofNat 2, .ofNat 2), (.ofNat 3, .ofNat 3), (.ofNat 4, .ofNat 63)]
def zyB1 : zI → List zI := fun j => match j.1 with
  | .ofNat 1 => [(.negSucc 2147483647, .negSucc 0), (.ofNat 0, .ofNat 0), (.ofNat 1, .ofNat 1), (.ofNat 2, .ofNat 2), (.ofNat 3, .ofNat 3), (.ofNat 4, .ofNat 4), (.ofNat 5, .ofNat 5), (.ofNat 6, .ofNat 6), (.ofNat 7, .ofNat 7), (.ofNat 8, .ofNat 8), (.ofNat 9, .ofNat 9), (.ofNat 10, .ofNat 10), (.ofNat 11, .ofNat 11), (.ofNat 12, .ofNat 12), (.ofNat 13, .ofNat 13), (.ofNat 14, .ofNat 14), (.ofNat 15, .ofNat 15), (.ofNat 16, .ofNat 16), (.ofNat 17, .ofNat 17), (.ofNat 18, .ofNat 18), (.ofNat 19, .ofNat 19), (.ofNat 20, .ofNat 20), (.ofNat 21, .ofNat 21), (.ofNat 22, .ofNat 22), (.ofNat 23, .ofNat 23), (.ofNat 24, .ofNat 24), (.ofNat 25, .ofNat 25), (.ofNat 26, .ofNat 26), (.ofNat 27, .ofNat 27), (.ofNat 28, .ofNat 28), (.ofNat 29, .ofNat 29), (.ofNat 30, .ofNat 30), (.ofNat 31, .ofNat 31), (.ofNat 32, .ofNat 32), (.ofNat 33, .ofNat 33), (.ofNat 34, .ofNat 34), (.ofNat 35, .ofNat 35), (.ofNat 36, .ofNat 36), (.ofNat 37, .ofNat 37), (.ofNat 38, .ofNat 38), (.ofNat 39, .ofNat 39), (.ofNat 40, .ofNat 40), (.ofNat 41, .ofNat 41), (.ofNat 42, .ofNat 42), (.ofNat 43, .ofNat 43), (.ofNat 44, .ofNat 44), (.ofNat 45, .ofNat 45), (.ofNat 46, .ofNat 46), (.ofNat 47, .ofNat 47), (.ofNat 48, .ofNat 48), (.ofNat 49, .ofNat 49), (.ofNat 50, .ofNat 50), (.ofNat 51, .ofNat 51), (.ofNat 52, .ofNat 52), (.ofNat 53, .ofNat 53), (.ofNat 54, .ofNat 54), (.ofNat 55, .ofNat 55), (.ofNat 56, .ofNat 56), (.ofNat 57, .ofNat 57), (.ofNat 58, .ofNat 58), (.ofNat 59, .ofNat 59), (.ofNat 60, .ofNat 60), (.ofNat 61, .ofNat 61), (.ofNat 62, .ofNat 62), (.ofNat 63, .ofNat 63), (.ofNat 64, .ofNat 64), (.ofNat 65, .ofNat 65), (.ofNat 66, .ofNat 66), (.ofNat 67, .ofNat 67), (.ofNat 68, .ofNat 68), (.ofNat 69, .ofNat 69), (.ofNat 70, .ofNat 70), (.ofNat 71, .ofNat 71), (.ofNat 72, .ofNat 72), (.ofNat 73, .ofNat 73), (.ofNat 74, .ofNat 74), (.ofNat 75, .ofNat 75), (.ofNat 76, .ofNat 76), (.ofNat 77, .ofNat 77), (.ofNat 78, .ofNat 78), (.ofNat 79, .ofNat 79), (.ofNat 80, .ofNat 80), (.ofNat 81, .ofNat 2147483647)]
  | _ => [(.negSucc 2147483647, .ofNat 2147483647)]
def zyB2 : zI → List zI := fun j => match j.1 with
  | _ => [(.negSucc 2147483647, .ofNat 2147483647)]
theorem zyj_ok : zcov64 0 zyjs = true := by decide +kernel
theorem zyb1_ok : ∀ j ∈ zyjs, zcov (-2147483648) (zyB1 j) = true := by decide +kernel
theorem zyb2_ok : ∀ j ∈ zyjs, zcov (-2147483648) (zyB2 j) = true := by decide +kernel
set_option maxRecDepth 100000 in
theorem zyk94 : zrget zyI.2.1 94 = some (.inr (8, zyfs94)) := rfl
theorem zyfam {tys : List (ClassId × FieldType)} {o : zO} (ws : va_W) (w : zwr vwCl tys o zyI ws) (hR : ∀ q ∈ zyJs, q.2.2 ws) : ∃ h ∈ zyfm, zwr vwCl tys o h ws := by
  obtain ⟨a10, c10, a20, c20, v10, v20, x0, p10, p20, p30, p40⟩ := hR (zjp (1, 1, 94, 8)) (by unfold zyJs; simp)
  have b0 : zmi (.ofNat 0, .ofNat 80) x0 := zbnd w (k := 94) (j := 8) (a := ((.ofNat 0, .ofNat 80), none)) zyk94 rfl (show 94 < 126 by decide) p20 p40
  obtain ⟨l0, u0⟩ := b0
  have l0 : (0 : Int) ≤ x0.toInt := l0
  have u0 : x0.toInt ≤ (80 : Int) := u0
  obtain ⟨n0, hn0⟩ : ∃ n : Nat, x0.toInt = (n : Int) := ⟨x0.toInt.toNat, by omega⟩
  refine ⟨zyX (0 * 81 + (n0 - 0)), List.mem_map.mpr ⟨_, List.mem_range.mpr (by omega), rfl⟩, ?_⟩
  unfold zyX
  exact (zxv_ok (zxv_ok w p10 p30 (by omega)) p20 p40 (by omega))
