/-! THE START: what holds at the law's entry -/
theorem zNest_in : ∀ w ∈ zNest, w ∈ lw_tbl := by
  intro w hw
  have hp : zNest = [185, 191, 192, 193, 202, 208, 341, 399, 401, 403, 408, 410, 412, 414, 416, 418, 446, 454, 455, 457, 458, 460, 462, 463, 465, 466, 468, 469, 485, 491, 495, 505, 515, 524, 526, 561, 567, 574, 628, 636, 644, 649, 669, 673, 689, 694, 699, 710, 720, 731, 749, 761, 763, 774, 778, 784, 793, 802, 819, 835, 874, 879, 887, 892, 896, 904, 921, 934, 943, 944, 952, 960, 969, 984, 985, 988, 1000, 1012, 1048, 1049, 1074, 1095, 1100, 1124, 1132, 1148, 1160, 1169, 1182, 1302, 1313].filterMap (fun i => lw_tbl[i]?) := by decide +kernel
  rw [hp] at hw
  obtain ⟨i, -, hi⟩ := List.mem_filterMap.mp hw
  exact List.mem_of_getElem? hi
theorem zisN_on {w : Cond} (h : zisN w = true) : w.onTables = true := by
  cases w <;> first | rfl | (simp [zisN] at h)
def zByt32 : List (List Int32) := zByt.map (fun l => l.map Int32.ofInt)
def zTm (i : Nat) : Term := match i with
  | 0 => Term.string "RockingHorse$Rule" 48
  | _ => Term.string "RockingHorse$Rule" 92
def zadr (adK adV : Nat → Nat) (k : Nat) : Nat := if k % 2 = 0 then adK (k / 2) else adV (k / 2)
theorem zadr_e {adK adV : Nat → Nat} (i : Nat) : zadr adK adV (2 * i) = adK i := by
  unfold zadr
  rw [if_pos (by omega), show 2 * i / 2 = i by omega]
theorem zadr_o {adK adV : Nat → Nat} (i : Nat) : zadr adK adV (2 * i + 1) = adV i := by
  unfold zadr
  rw [if_neg (by omega), show (2 * i + 1) / 2 = i by omega]
theorem zTconv {t n : Nat} {f g : Nat → Value} {A : Nat → Prop} {U : State} {H : Heap} (h : va_T .byte t n f A U H) (hfg : ∀ j, j < n → f j = g j) : va_T .byte t n g A U H := by
  obtain ⟨cell, h1, h2, h3, h4, h5, h6, h7⟩ := h
  exact ⟨cell, h1, h2, h3, h4, h5, fun j hj => by rw [h6 j hj, hfg j hj], h7⟩
def zByt0 : List Int := [.ofNat 116, .ofNat 43, .ofNat 119, .ofNat 43, .ofNat 40, .ofNat 104, .ofNat 62, .ofNat 53, .ofNat 41, .ofNat 42, .ofNat 57]
theorem zlB0 : zLen[0]? = some 11 ∧ zByt[0]? = some zByt0 := ⟨rfl, rfl⟩
theorem zlC0 : 11 = zByt0.length ∧ 11 < 2147483648 ∧ ∀ b ∈ zByt0, zin 2147483648 b b = true := by decide +kernel
theorem zlD0 : ∀ j, j < 11 → Value.int ((zByt32.getD 0 []).getD j 0) = .int (Int32.ofInt (zByt0.getD j 0)) := by decide +kernel
def zByt1 : List Int := [.ofNat 104, .ofNat 116, .ofNat 119, .ofNat 109, .ofNat 105, .ofNat 110, .ofNat 99]
theorem zlB1 : zLen[1]? = some 7 ∧ zByt[1]? = some zByt1 := ⟨rfl, rfl⟩
theorem zlC1 : 7 = zByt1.length ∧ 7 < 2147483648 ∧ ∀ b ∈ zByt1, zin 2147483648 b b = true := by decide +kernel
theorem zlD1 : ∀ j, j < 7 → Value.int ((zByt32.getD 1 []).getD j 0) = .int (Int32.ofInt (zByt1.getD j 0)) := by decide +kernel
set_option maxRecDepth 100000 in
set_option maxHeartbeats 4000000 in
theorem zstart {s : State} {b : Nat} (hts : ∀ w ∈ lw_tbl, w.before #[Value.ref b] s = true) (hgv : (Jvm.Cond.and given_1 narrow_1).before #[Value.ref b] s = true) : ∃ (D : va_G) (tys : List (ClassId × FieldType)) (adr : Nat → Nat), va_K D vwCl tys s ∧ zEnv tys ∧ ∀ f : Nat → Int32, zXX (b, adr, f) s.heap.size s s.heap := by
  have hts' : ∀ w ∈ zTs, w.before #[Value.ref b] s = true := fun w h => hts w (List.mem_filter.mp h).1
  have hs := flat_of_before _ hgv
  have hA : ∀ a : Nat, a < s.heap.size → ¬ zA s.heap.size a := fun a h q => Nat.not_le.mpr h q
  obtain ⟨c0, i0, k0⟩ := u_known (C := RX0) (T := TX0) (N := 12) (n := 12) hts' zinX0 (hts (Jvm.Cond.instantiable "RockingHorse$House" (12 : Nat)) (List.mem_of_getElem? (i := 201) (by decide +kernel)))
  obtain ⟨c1, i1, k1⟩ := u_known (C := RX1) (T := TX1) (N := 2) (n := 2) hts' zinX1 (hts (Jvm.Cond.instantiable "RockingHorse$Numbers" (2 : Nat)) (List.mem_of_getElem? (i := 560) (by decide +kernel)))
  obtain ⟨c2, i2, k2⟩ := u_known (C := RX2) (T := TX2) (N := 3) (n := 3) hts' zinX2 (hts (Jvm.Cond.instantiable "RockingHorse$Past" (3 : Nat)) (List.mem_of_getElem? (i := 484) (by decide +kernel)))
  obtain ⟨c3, i3, k3⟩ := u_known (C := RX3) (T := TX3) (N := 9) (n := 9) hts' zinX3 (hts (Jvm.Cond.instantiable "RockingHorse$Rule" (9 : Nat)) (List.mem_of_getElem? (i := 207) (by decide +kernel)))
  obtain ⟨c4, i4, k4⟩ := u_known (C := RX4) (T := TX4) (N := 15) (n := 15) hts' zinX4 (hts (Jvm.Cond.instantiable "RockingHorse$Seats" (15 : Nat)) (List.mem_of_getElem? (i := 504) (by decide +kernel)))
  obtain ⟨c5, i5, k5⟩ := u_known (C := RX5) (T := TX5) (N := 6) (n := 6) hts' zinX5 (hts (Jvm.Cond.instantiable "RockingHorse$State" (6 : Nat)) (List.mem_of_getElem? (i := 445) (by decide +kernel)))
  obtain ⟨c6, i6, k6⟩ := u_known (C := RX6) (T := TX6) (N := 2) (n := 2) hts' zinX6 (hts (Jvm.Cond.instantiable "RockingHorse$Text" (2 : Nat)) (List.mem_of_getElem? (i := 184) (by decide +kernel)))
  obtain ⟨c7, i7, k7⟩ := u_known (C := RX7) (T := TX7) (N := 16) (n := 16) hts' zinX7 (hts (Jvm.Cond.instantiable "RockingHorse" (16 : Nat)) (List.mem_of_getElem? (i := 176) (by decide +kernel)))
  obtain ⟨c8, i8, k8⟩ := u_known (C := RX8) (T := TX8) (N := 51) (n := 51) hts' zinX8 (hts (Jvm.Cond.instantiable "RockingHorseModel" (51 : Nat)) (List.mem_of_getElem? (i := 1318) (by decide +kernel)))
  obtain ⟨cI, kI, mI, fI1, fI2, fI3⟩ := Cond.arrayClass_spec (hts (Jvm.Cond.arrayClass Jvm.ClassFile.FieldType.int) (List.mem_of_getElem? (i := 199) (by decide +kernel)))
  obtain ⟨cJ, kJ, mJ, fJ1, fJ2, fJ3⟩ := Cond.arrayClass_spec (hts (Jvm.Cond.arrayClass Jvm.ClassFile.FieldType.long) (List.mem_of_getElem? (i := 558) (by decide +kernel)))
  obtain ⟨cZ, kZ, mZ, fZ1, fZ2, fZ3⟩ := Cond.arrayClass_spec (hts (Jvm.Cond.arrayClass Jvm.ClassFile.FieldType.boolean) (List.mem_of_getElem? (i := 396) (by decide +kernel)))
  obtain ⟨cB, kB, mB, fB1, fB2, fB3⟩ := Cond.arrayClass_spec (hts (Jvm.Cond.arrayClass Jvm.ClassFile.FieldType.byte) (List.mem_of_getElem? (i := 397) (by decide +kernel)))
  obtain ⟨mS, cS, kS, fS1, fS2, fS3, fS4, fS5⟩ := Cond.arrayOver_spec (hts (Jvm.Cond.arrayOver (Jvm.ClassFile.FieldType.object "RockingHorse$State")) (List.mem_of_getElem? (i := 490) (by decide +kernel)))
  obtain ⟨adK, adV, hS, hE⟩ := vk_Sof (args := #[Value.ref b]) (s := s) (N := 2) (tm := zTm) (len := zLen) (byt := zByt32) (A := zA s.heap.size) (fun i hi => match i, hi with | 0, _ => by decide +kernel | 1, _ => by decide +kernel) (fun i hi => match i, hi with | 0, _ => hs _ (by decide +kernel) | 1, _ => hs _ (by decide +kernel)) (fun i hi => match i, hi with | 0, _ => hs _ (by decide +kernel) | 1, _ => hs _ (by decide +kernel)) (fun i hi => match i, hi with | 0, _ => hs _ (by decide +kernel) | 1, _ => hs _ (by decide +kernel)) (fun i hi => match i, hi with | 0, _ => hs _ (by decide +kernel) | 1, _ => hs _ (by decide +kernel))
    (fun i hi => match i, hi with
      | 0, _ => fun j hj => match j, hj with
        | 0, _ => hs _ (by decide +kernel)
        | 1, _ => hs _ (by decide +kernel)
        | 2, _ => hs _ (by decide +kernel)
        | 3, _ => hs _ (by decide +kernel)
        | 4, _ => hs _ (by decide +kernel)
        | 5, _ => hs _ (by decide +kernel)
        | 6, _ => hs _ (by decide +kernel)
        | 7, _ => hs _ (by decide +kernel)
        | 8, _ => hs _ (by decide +kernel)
        | 9, _ => hs _ (by decide +kernel)
        | 10, _ => hs _ (by decide +kernel)
        | j + 11, hj => absurd hj (by show ¬ j + 11 < 11; omega)
      | 1, _ => fun j hj => match j, hj with
        | 0, _ => hs _ (by decide +kernel)
        | 1, _ => hs _ (by decide +kernel)
        | 2, _ => hs _ (by decide +kernel)
        | 3, _ => hs _ (by decide +kernel)
        | 4, _ => hs _ (by decide +kernel)
        | 5, _ => hs _ (by decide +kernel)
        | 6, _ => hs _ (by decide +kernel)
        | j + 7, hj => absurd hj (by show ¬ j + 7 < 7; omega))
    (fun i j hi hj hij => match i, hi, j, hj, hij with
      | 0, _, 1, _, _ => by first | exact Or.inl (hs _ (by decide +kernel)) | exact Or.inr (hs _ (by decide +kernel))
      | 1, _, 0, _, _ => by first | exact Or.inl (hs _ (by decide +kernel)) | exact Or.inr (hs _ (by decide +kernel))
      | 0, _, 0, _, h => absurd rfl h
      | 1, _, 1, _, h => absurd rfl h) hA
  refine ⟨(fun k => match k with | 0 => c0 | 1 => c1 | 2 => c2 | 3 => c3 | 4 => c4 | 5 => c5 | 6 => c6 | 7 => c7 | _ => c8, fun k => match k with | 0 => i0 | 1 => i1 | 2 => i2 | 3 => i3 | 4 => i4 | 5 => i5 | 6 => i6 | 7 => i7 | _ => i8), [(cI, .int), (cJ, .long), (cZ, .boolean), (cB, .byte), (cS, .object "RockingHorse$State")], zadr adK adV, ⟨?_, ?_⟩, ⟨⟨cI, by simp⟩, ⟨cJ, by simp⟩, ⟨cZ, by simp⟩, ⟨cB, by simp⟩, ⟨cS, by simp⟩⟩, ?_⟩
  · intro k q hq
    match k, hq with
    | 0, hq => cases hq; exact k0
    | 1, hq => cases hq; exact k1
    | 2, hq => cases hq; exact k2
    | 3, hq => cases hq; exact k3
    | 4, hq => cases hq; exact k4
    | 5, hq => cases hq; exact k5
    | 6, hq => cases hq; exact k6
    | 7, hq => cases hq; exact k7
    | 8, hq => cases hq; exact k8
    | k + 9, hq => simp [vwCl] at hq
  · intro k q hq
    match k, hq with
    | 0, hq => cases hq; exact ⟨fun n z => ⟨fun k h => (by cases h), kI, fI2, mI, fI3⟩, fI1⟩
    | 1, hq => cases hq; exact ⟨fun n z => ⟨fun k h => (by cases h), kJ, fJ2, mJ, fJ3⟩, fJ1⟩
    | 2, hq => cases hq; exact ⟨fun n z => ⟨fun k h => (by cases h), kZ, fZ2, mZ, fZ3⟩, fZ1⟩
    | 3, hq => cases hq; exact ⟨fun n z => ⟨fun k h => (by cases h), kB, fB2, mB, fB3⟩, fB1⟩
    | 4, hq => cases hq; exact ⟨fun n z => ⟨fun k h => (by cases h), kS, fS3, mS, fS4⟩, kS, mS, fS3, fS4, fS1, fS5⟩
    | k + 5, hq => simp at hq
  · intro f
    have hAO : va_AO "RockingHorse$State" s := va_AO.of (hts (Jvm.Cond.arrayOver (Jvm.ClassFile.FieldType.object "RockingHorse$State")) (List.mem_of_getElem? (i := 490) (by decide +kernel)))
    have hR0 := vk_R.of (hts (Jvm.Cond.stringRef "RockingHorse$Rule" (48 : Nat) "t+w+(h>5)*9") (List.mem_of_getElem? (i := 220) (by decide +kernel))) (hE 0 (by decide))
    have hR1 := vk_R.of (hts (Jvm.Cond.stringRef "RockingHorse$Rule" (92 : Nat) "htwminc") (List.mem_of_getElem? (i := 281) (by decide +kernel))) (hE 1 (by decide))
    have hC : va_Z "java/lang/String" "COMPACT_STRINGS" "Z" (.int 1) (zA s.heap.size) s s.heap := va_Zof (hts (Jvm.Cond.laysStatic "java/lang/String" "COMPACT_STRINGS" "Z") (List.mem_of_getElem? (i := 230) (by decide +kernel))) (hts (Jvm.Cond.initialized "java/lang/String") (List.mem_of_getElem? (i := 157) (by decide +kernel))) (va_eqt (hs (Cond.eq (Term.static "java/lang/String" "COMPACT_STRINGS" "Z") (.int 1)) (by decide +kernel))) hA
    have hF : va_Zq "jdk/internal/util/Preconditions" "SIOOBE_FORMATTER" "Ljava/util/function/BiFunction;" (zA s.heap.size) s s.heap := va_Zqof (hts (Jvm.Cond.laysStatic "jdk/internal/util/Preconditions" "SIOOBE_FORMATTER" "Ljava/util/function/BiFunction;") (List.mem_of_getElem? (i := 246) (by decide +kernel))) (hts (Jvm.Cond.initialized "jdk/internal/util/Preconditions") (List.mem_of_getElem? (i := 159) (by decide +kernel))) (hs (Cond.isRef (Term.static "jdk/internal/util/Preconditions" "SIOOBE_FORMATTER" "Ljava/util/function/BiFunction;")) (by decide +kernel)) hA
    have e1 : Int32.ofInt (.ofNat 1) = 1 := by decide +kernel
    have hT : zTx (b, zadr adK adV, f) s.heap.size zLen zByt s s.heap := by
      intro i hi
      have h := hS.1 i hi
      dsimp only
      rw [zadr_e, zadr_o]
      refine ⟨h.1, h.2.1, h.2.2.1, ?_⟩
      rcases (show i = 0 ∨ i = 1 by omega) with rfl | rfl
      · exact ⟨11, zByt0, zlB0.1, zlB0.2, zlC0.1, zlC0.2.1, zlC0.2.2, zTconv h.2.2.2 zlD0⟩
      · exact ⟨7, zByt1, zlB1.1, zlB1.2, zlC1.1, zlC1.2.1, zlC1.2.2, zTconv h.2.2.2 zlD1⟩
    refine ⟨fun w hw => va_Nw.of (zisN_on (List.all_eq_true.mp zNest_is w hw)) (hts w (zNest_in w hw)), hAO, hT, ?_, ?_, by rw [e1]; exact hC, hF⟩
    · show vk_R _ _ _ (zadr adK adV (2 * 0)) s
      rw [zadr_e]
      exact hR0
    · show vk_R _ _ _ (zadr adK adV (2 * 1)) s
      rw [zadr_e]
      exact hR1
theorem zTh_start {s : State} {b : Nat} (hts : ∀ w ∈ lw_tbl, w.before #[Value.ref b] s = true) (hgv : (Jvm.Cond.and given_1 narrow_1).before #[Value.ref b] s = true) : zTh s.heap.size s s.heap := by
  have hs := flat_of_before _ hgv
  have hA : ∀ a : Nat, a < s.heap.size → ¬ zA s.heap.size a := fun a h q => Nat.not_le.mpr h q
  refine ⟨fun w hw => ?_, vx_Zqof (hts (Jvm.Cond.laysStatic "java/lang/Throwable" "UNASSIGNED_STACK" "[Ljava/lang/StackTraceElement;") (List.mem_of_getElem? (i := 1268) (by decide +kernel))) (hts (Jvm.Cond.initialized "java/lang/Throwable") (List.mem_of_getElem? (i := 169) (by decide +kernel))) (hs (Cond.isRef (Term.static "java/lang/Throwable" "UNASSIGNED_STACK" "[Ljava/lang/StackTraceElement;")) (by decide +kernel)) hA, vx_Zqof (hts (Jvm.Cond.laysStatic "java/lang/Throwable" "SUPPRESSED_SENTINEL" "Ljava/util/List;") (List.mem_of_getElem? (i := 1270) (by decide +kernel))) (hts (Jvm.Cond.initialized "java/lang/Throwable") (List.mem_of_getElem? (i := 169) (by decide +kernel))) (hs (Cond.isRef (Term.static "java/lang/Throwable" "SUPPRESSED_SENTINEL" "Ljava/util/List;")) (by decide +kernel)) hA⟩
  simp only [zThW, List.mem_cons, List.not_mem_nil, or_false] at hw
  rcases hw with rfl | rfl | rfl | rfl
  · exact va_Nw.of rfl (hts (Jvm.Cond.castable "java/util/NoSuchElementException" "java/util/NoSuchElementException") (List.mem_of_getElem? (i := 1243) (by decide +kernel)))
  · exact va_Nw.of rfl (hts (Jvm.Cond.declares ({ cls := "java/lang/RuntimeException", name := "<init>", desc := "()V" } : Jvm.MethodName)) (List.mem_of_getElem? (i := 1244) (by decide +kernel)))
  · exact va_Nw.of rfl (hts (Jvm.Cond.declares ({ cls := "java/lang/Exception", name := "<init>", desc := "()V" } : Jvm.MethodName)) (List.mem_of_getElem? (i := 1246) (by decide +kernel)))
  · exact va_Nw.of rfl (hts (Jvm.Cond.declares ({ cls := "java/lang/Throwable", name := "<init>", desc := "()V" } : Jvm.MethodName)) (List.mem_of_getElem? (i := 1248) (by decide +kernel)))
