noncomputable def zyfs94 : List zAV := [zyv117, zyv26, zyv27, zyv25, zyv118, zyv119, zyv120, zyv121, zyv17, zyv122, zyv25, zyv36, zyv114, zyv17, zyv123, zyv123, zyv124, zyv125, zyv126, zyv127, zyv35, zyv128, zyv129, zyv130, zyv13, zyv131, zyv132, zyv18, zyv18, zyv133, zyv134, zyv135, zyv136, zyv137, zyv138, zyv139, zyv140, zyv141, zyv142, zyv143, zyv144, zyv145, zyv146, zyv147, zyv15, zyv13, zyv15, zyv15, zyv148, zyv149, zyv150]
noncomputable def zyJs : List zJ := [zjp (3, 7, 94, 1), zjp (3, 8, 94, 2)]
theorem zyJ0 : ∀ q ∈ zyJs, q.1 0 = false := by
  intro q hq
  unfold zyJs at hq
  simp only [List.mem_cons, List.not_mem_nil, or_false] at hq
  rcases hq with rfl | rfl
  · exact (by rw [zb0R, zb0R]; rfl : (zbit 0 3 7 || zbit 0 94 1) = false)
  · exact (by rw [zb0R, zb0R]; rfl : (zbit 0 3 8 || zbit 0 94 2) = false)
theorem zyJok {D : va_G} {tys : List (ClassId × FieldType)} {z : Nat} : ∀ q ∈ zyJs, zJok D tys z q := by
  intro q hq
  unfold zyJs at hq
  simp only [List.mem_cons, List.not_mem_nil, or_false] at hq
  rcases hq with rfl | rfl
  · exact zjp_ok (3, 7, 94, 1)
  · exact zjp_ok (3, 8, 94, 2)
noncomputable def zyX (i : Nat) : zH := (zxv (zxv (zxv (zxv zyI 3 7 (((i / 10) % 8 + 1 : Nat) : Int)) 94 1 (((i / 10) % 8 + 1 : Nat) : Int)) 3 8 (((i / 1) % 10 + 0 : Nat) : Int)) 94 2 (((i / 1) % 10 + 0 : Nat) : Int))
noncomputable def zyfm : List zH := (List.range 80).map zyX
noncomputable def zyP (h : zH) : zH := (zxc h (zxc h (zxc h (zxc h zyI 3 7) 94 1) 3 8) 94 2)
def zyjs : List zI := [(.ofNat 0, .ofNat 2), (.ofNat 3, .ofNat 3), (.ofNat 4, .ofNat 5), (.ofNat 6, .ofNat 6), (.ofNat 7, .ofNat 63)]
def zyB1 : zI → List zI := fun j => match j.1 with
  | .ofNat 6 => [(.negSucc 2147483647, .negSucc 0), (.ofNat 0, .ofNat 0), (.ofNat 1, .ofNat 1), (.ofNat 2, .ofNat 2147483647)]
  | _ => [(.negSucc 2147483647, .ofNat 2147483647)]
def zyB2 : zI → List zI := fun j => match j.1 with
  | .ofNat 6 => [(.negSucc 2147483647, .negSucc 0), (.ofNat 0, .ofNat 0), (.ofNat 1, .ofNat 1), (.ofNat 2, .ofNat 2), (.ofNat 3, .ofNat 3), (.ofNat 4, .ofNat 4), (.ofNat 5, .ofNat 5), (.ofNat 6, .ofNat 6), (.ofNat 7, .ofNat 7), (.ofNat 8, .ofNat 8), (.ofNat 9, .ofNat 9), (.ofNat 10, .ofNat 2147483647)]
  | _ => [(.negSucc 2147483647, .ofNat 2147483647)]
theorem zyj_ok : zcov64 0 zyjs = true := by decide +kernel
theorem zyb1_ok : ∀ j ∈ zyjs, zcov (-2147483648) (zyB1 j) = true := by decide +kernel
theorem zyb2_ok : ∀ j ∈ zyjs, zcov (-2147483648) (zyB2 j) = true := by decide +kernel
set_option maxRecDepth 100000 in
theorem zyk94 : zrget zyI.2.1 94 = some (.inr (8, zyfs94)) := rfl
theorem zyfam {tys : List (ClassId × FieldType)} {o : zO} (ws : va_W) (w : zwr vwCl tys o zyI ws) (hR : ∀ q ∈ zyJs, q.2.2 ws) : ∃ h ∈ zyfm, zwr vwCl tys o h ws := by
  obtain ⟨a10, c10, a20, c20, v10, v20, x0, p10, p20, p30, p40⟩ := hR (zjp (3, 7, 94, 1)) (by unfold zyJs; simp)
  have b0 : zmi (.ofNat 1, .ofNat 8) x0 := zbnd w (k := 94) (j := 1) (a := ((.ofNat 1, .ofNat 8), none)) zyk94 rfl (show 94 < 126 by decide) p20 p40
  obtain ⟨l0, u0⟩ := b0
  have l0 : (1 : Int) ≤ x0.toInt := l0
  have u0 : x0.toInt ≤ (8 : Int) := u0
  obtain ⟨n0, hn0⟩ : ∃ n : Nat, x0.toInt = (n : Int) := ⟨x0.toInt.toNat, by omega⟩
  obtain ⟨a11, c11, a21, c21, v11, v21, x1, p11, p21, p31, p41⟩ := hR (zjp (3, 8, 94, 2)) (by unfold zyJs; simp)
  have b1 : zmi (.ofNat 0, .ofNat 9) x1 := zbnd w (k := 94) (j := 2) (a := ((.ofNat 0, .ofNat 9), none)) zyk94 rfl (show 94 < 126 by decide) p21 p41
  obtain ⟨l1, u1⟩ := b1
  have l1 : (0 : Int) ≤ x1.toInt := l1
  have u1 : x1.toInt ≤ (9 : Int) := u1
  obtain ⟨n1, hn1⟩ : ∃ n : Nat, x1.toInt = (n : Int) := ⟨x1.toInt.toNat, by omega⟩
  refine ⟨zyX ((0 * 8 + (n0 - 1)) * 10 + (n1 - 0)), List.mem_map.mpr ⟨_, List.mem_range.mpr (by omega), rfl⟩, ?_⟩
  unfold zyX
  exact (zxv_ok (zxv_ok (zxv_ok (zxv_ok w p10 p30 (by omega)) p20 p40 (by omega)) p11 p31 (by omega)) p21 p41 (by omega))
