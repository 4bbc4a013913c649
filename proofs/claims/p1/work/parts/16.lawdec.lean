/-! THE CLAIM OUT OF ONE WALK OF THE LAW'S BODY. Your part is whole_start (and what it stands on); all else here is the same for every law, but numbers. -/
def R_law : String := "RockingHorseLaw"
def lw_P (b : Addr) (xs : List Int32) (args : Array Value) (s : State) : Prop := args = #[.ref b] ∧ s.IntsAt b xs ∧ xs.length ≤ 5 ∧ (Jvm.Cond.and given_1 narrow_1).before args s = true
def lw_Q (_ : Array Value) (s : State) (o : Outcome) (t : State) : Prop := o = .returned (some (.int 1)) ∧ Framed s o t [] 600002 7302232
def lw_Z (below : List Frame) (a : Array Value) (s : State) : State → Prop := fun t => ∃ o, t.status = .running ∧ Ended t below o ∧ lw_Q a s o t
/-- the law's own end, with 1 on the stack, nothing written that was there before, its room as the claim has it -/
theorem lw_ret {p : Program} {l : Launch} {e : Env} {s : State} {m : MethodId} {below : List Frame} {meth : Method} {c : Code} {b : Nat} (hx : p.tables.exec = Jvm.exec) (hb : c.code = code) (hr : meth.sig.returnType = ret) (hlocks : meth.locks = false) {pc : Nat} {H : Heap} {ls : Array Slot} (hdg : decode code pc = .ok (.ireturn, 1)) : W p l e room_1 s m #[Value.ref b] below meth c H [] 600002 7302232 (lw_Z below #[Value.ref b] s) (F0 m pc ls [.int 1]) := by
  intro T hT X
  obtain ⟨fs, hret, hrun, hended, hW, hframe⟩ := X.leave (v := some (.int 1)) (hlocks := hlocks) (fun h => by rw [hr] at h; cases h)
  have hmeth' : T.vm.method? m = some meth := X.method'
  refine ⟨T.setFrames fs, ?_, .returned (some (.int 1)), hrun, hended, rfl, ⟨_, rfl⟩, hW, hframe⟩
  jvm_step X.here [X.here.top, hx, hb, hdg, hmeth', hr, ret, narrow_b1]
  (try refine ⟨rfl, ?_⟩); (try refine ⟨rfl, ?_⟩)
  first | (intro acts; rw [hret _ acts rfl rfl rfl]) | rw [hret _ _ rfl rfl rfl]
  exact Steps.refl _
/-- what holds at the law's entry: the machine, the code, the tables' words (any of lw_tbl by 'hts w (by decide +kernel)'), the script of L ints xs at the cell b, what the Statement gives of the start (any of its parts by flat_of_before) -/
def lw_At (p : Program) (s : State) (m : MethodId) (meth : Method) (c : Code) (b L : Nat) (xs : Nat → Int32) : Prop :=
  p.tables.exec = Jvm.exec ∧ c.code = code ∧ meth.sig.returnType = ret ∧ c.maxLocals = 8 ∧ s.vm.findClass R_law = some m.cls ∧ (∀ w ∈ lw_tbl, w.before #[Value.ref b] s = true) ∧ va_X b L xs s s.heap ∧ b < s.heap.size ∧ meth.locks = false ∧ (Jvm.Cond.and given_1 narrow_1).before #[Value.ref b] s = true
theorem zw23 : (Jvm.Cond.classLink "RockingHorseLaw" (8 : Nat) "RockingHorse") ∈ zTs := zTs_at 175 (by decide +kernel) (by decide +kernel)
theorem zw24 : (Jvm.Cond.instantiable "RockingHorse" (16 : Nat)) ∈ zTs := zTs_at 176 (by decide +kernel) (by decide +kernel)
theorem zw25 : (Jvm.Cond.methodLink "RockingHorseLaw" (19 : Nat) ({ cls := "RockingHorse", name := "<init>", desc := "()V" } : Jvm.MethodName)) ∈ zTs := zTs_at 177 (by decide +kernel) (by decide +kernel)
theorem zw26 : (Jvm.Cond.instanceMethod ({ cls := "RockingHorse", name := "<init>", desc := "()V" } : Jvm.MethodName)) ∈ zTs := zTs_at 178 (by decide +kernel) (by decide +kernel)
theorem zw27 : (Jvm.Cond.code ({ cls := "RockingHorse", name := "<init>", desc := "()V" } : Jvm.MethodName) prog_1_method_1_code (2 : Nat) (Option.none : Option Jvm.ClassFile.FieldType)) ∈ zTs := zTs_at 179 (by decide +kernel) (by decide +kernel)
theorem zw472 : (Jvm.Cond.methodLink "RockingHorseLaw" (23 : Nat) ({ cls := "RockingHorse", name := "sign", desc := "(I)I" } : Jvm.MethodName)) ∈ zTs := zTs_at 624 (by decide +kernel) (by decide +kernel)
theorem zw473 : (Jvm.Cond.instanceMethod ({ cls := "RockingHorse", name := "sign", desc := "(I)I" } : Jvm.MethodName)) ∈ zTs := zTs_at 625 (by decide +kernel) (by decide +kernel)
theorem zw474 : (Jvm.Cond.selects "RockingHorse" ({ cls := "RockingHorse", name := "sign", desc := "(I)I" } : Jvm.MethodName) ({ cls := "RockingHorse", name := "sign", desc := "(I)I" } : Jvm.MethodName)) ∈ zTs := zTs_at 626 (by decide +kernel) (by decide +kernel)
theorem zw475 : (Jvm.Cond.code ({ cls := "RockingHorse", name := "sign", desc := "(I)I" } : Jvm.MethodName) prog_1_method_2_code (2 : Nat) (Option.some Jvm.ClassFile.FieldType.int)) ∈ zTs := zTs_at 627 (by decide +kernel) (by decide +kernel)
theorem zw480 : (Jvm.Cond.methodLink "RockingHorseLaw" (28 : Nat) ({ cls := "RockingHorse", name := "end", desc := "(I)Z" } : Jvm.MethodName)) ∈ zTs := zTs_at 632 (by decide +kernel) (by decide +kernel)
theorem zw481 : (Jvm.Cond.instanceMethod ({ cls := "RockingHorse", name := "end", desc := "(I)Z" } : Jvm.MethodName)) ∈ zTs := zTs_at 633 (by decide +kernel) (by decide +kernel)
theorem zw482 : (Jvm.Cond.selects "RockingHorse" ({ cls := "RockingHorse", name := "end", desc := "(I)Z" } : Jvm.MethodName) ({ cls := "RockingHorse", name := "end", desc := "(I)Z" } : Jvm.MethodName)) ∈ zTs := zTs_at 634 (by decide +kernel) (by decide +kernel)
theorem zw483 : (Jvm.Cond.code ({ cls := "RockingHorse", name := "end", desc := "(I)Z" } : Jvm.MethodName) prog_1_method_3_code (2 : Nat) (Option.some Jvm.ClassFile.FieldType.boolean)) ∈ zTs := zTs_at 635 (by decide +kernel) (by decide +kernel)
theorem zw488 : (Jvm.Cond.methodLink "RockingHorseLaw" (33 : Nat) ({ cls := "RockingHorse", name := "riders", desc := "()I" } : Jvm.MethodName)) ∈ zTs := zTs_at 640 (by decide +kernel) (by decide +kernel)
theorem zw489 : (Jvm.Cond.instanceMethod ({ cls := "RockingHorse", name := "riders", desc := "()I" } : Jvm.MethodName)) ∈ zTs := zTs_at 641 (by decide +kernel) (by decide +kernel)
theorem zw490 : (Jvm.Cond.selects "RockingHorse" ({ cls := "RockingHorse", name := "riders", desc := "()I" } : Jvm.MethodName) ({ cls := "RockingHorse", name := "riders", desc := "()I" } : Jvm.MethodName)) ∈ zTs := zTs_at 642 (by decide +kernel) (by decide +kernel)
theorem zw491 : (Jvm.Cond.code ({ cls := "RockingHorse", name := "riders", desc := "()I" } : Jvm.MethodName) prog_1_method_4_code (2 : Nat) (Option.some Jvm.ClassFile.FieldType.int)) ∈ zTs := zTs_at 643 (by decide +kernel) (by decide +kernel)
theorem zw529 : (Jvm.Cond.methodLink "RockingHorseLaw" (38 : Nat) ({ cls := "RockingHorse", name := "rule", desc := "()I" } : Jvm.MethodName)) ∈ zTs := zTs_at 681 (by decide +kernel) (by decide +kernel)
theorem zw530 : (Jvm.Cond.instanceMethod ({ cls := "RockingHorse", name := "rule", desc := "()I" } : Jvm.MethodName)) ∈ zTs := zTs_at 682 (by decide +kernel) (by decide +kernel)
theorem zw531 : (Jvm.Cond.selects "RockingHorse" ({ cls := "RockingHorse", name := "rule", desc := "()I" } : Jvm.MethodName) ({ cls := "RockingHorse", name := "rule", desc := "()I" } : Jvm.MethodName)) ∈ zTs := zTs_at 683 (by decide +kernel) (by decide +kernel)
theorem zw532 : (Jvm.Cond.code ({ cls := "RockingHorse", name := "rule", desc := "()I" } : Jvm.MethodName) prog_1_method_5_code (3 : Nat) (Option.some Jvm.ClassFile.FieldType.int)) ∈ zTs := zTs_at 684 (by decide +kernel) (by decide +kernel)
theorem zw543 : (Jvm.Cond.methodLink "RockingHorseLaw" (51 : Nat) ({ cls := "RockingHorse", name := "hard", desc := "(II)I" } : Jvm.MethodName)) ∈ zTs := zTs_at 695 (by decide +kernel) (by decide +kernel)
theorem zw544 : (Jvm.Cond.instanceMethod ({ cls := "RockingHorse", name := "hard", desc := "(II)I" } : Jvm.MethodName)) ∈ zTs := zTs_at 696 (by decide +kernel) (by decide +kernel)
theorem zw545 : (Jvm.Cond.selects "RockingHorse" ({ cls := "RockingHorse", name := "hard", desc := "(II)I" } : Jvm.MethodName) ({ cls := "RockingHorse", name := "hard", desc := "(II)I" } : Jvm.MethodName)) ∈ zTs := zTs_at 697 (by decide +kernel) (by decide +kernel)
theorem zw546 : (Jvm.Cond.code ({ cls := "RockingHorse", name := "hard", desc := "(II)I" } : Jvm.MethodName) prog_1_method_7_code (3 : Nat) (Option.some Jvm.ClassFile.FieldType.int)) ∈ zTs := zTs_at 698 (by decide +kernel) (by decide +kernel)
theorem zw584 : (Jvm.Cond.methodLink "RockingHorseLaw" (55 : Nat) ({ cls := "RockingHorse", name := "set", desc := "(II)I" } : Jvm.MethodName)) ∈ zTs := zTs_at 736 (by decide +kernel) (by decide +kernel)
theorem zw585 : (Jvm.Cond.instanceMethod ({ cls := "RockingHorse", name := "set", desc := "(II)I" } : Jvm.MethodName)) ∈ zTs := zTs_at 737 (by decide +kernel) (by decide +kernel)
theorem zw586 : (Jvm.Cond.selects "RockingHorse" ({ cls := "RockingHorse", name := "set", desc := "(II)I" } : Jvm.MethodName) ({ cls := "RockingHorse", name := "set", desc := "(II)I" } : Jvm.MethodName)) ∈ zTs := zTs_at 738 (by decide +kernel) (by decide +kernel)
theorem zw587 : (Jvm.Cond.code ({ cls := "RockingHorse", name := "set", desc := "(II)I" } : Jvm.MethodName) prog_1_method_8_code (4 : Nat) (Option.some Jvm.ClassFile.FieldType.int)) ∈ zTs := zTs_at 739 (by decide +kernel) (by decide +kernel)
theorem zw588 : (Jvm.Cond.methodLink "RockingHorseLaw" (59 : Nat) ({ cls := "RockingHorse", name := "sheet", desc := "(IIII)I" } : Jvm.MethodName)) ∈ zTs := zTs_at 740 (by decide +kernel) (by decide +kernel)
theorem zw589 : (Jvm.Cond.instanceMethod ({ cls := "RockingHorse", name := "sheet", desc := "(IIII)I" } : Jvm.MethodName)) ∈ zTs := zTs_at 741 (by decide +kernel) (by decide +kernel)
theorem zw590 : (Jvm.Cond.selects "RockingHorse" ({ cls := "RockingHorse", name := "sheet", desc := "(IIII)I" } : Jvm.MethodName) ({ cls := "RockingHorse", name := "sheet", desc := "(IIII)I" } : Jvm.MethodName)) ∈ zTs := zTs_at 742 (by decide +kernel) (by decide +kernel)
theorem zw591 : (Jvm.Cond.code ({ cls := "RockingHorse", name := "sheet", desc := "(IIII)I" } : Jvm.MethodName) prog_1_method_9_code (6 : Nat) (Option.some Jvm.ClassFile.FieldType.int)) ∈ zTs := zTs_at 743 (by decide +kernel) (by decide +kernel)
theorem zw601 : (Jvm.Cond.methodLink "RockingHorseLaw" (64 : Nat) ({ cls := "RockingHorse", name := "rota", desc := "()I" } : Jvm.MethodName)) ∈ zTs := zTs_at 753 (by decide +kernel) (by decide +kernel)
theorem zw602 : (Jvm.Cond.instanceMethod ({ cls := "RockingHorse", name := "rota", desc := "()I" } : Jvm.MethodName)) ∈ zTs := zTs_at 754 (by decide +kernel) (by decide +kernel)
theorem zw603 : (Jvm.Cond.selects "RockingHorse" ({ cls := "RockingHorse", name := "rota", desc := "()I" } : Jvm.MethodName) ({ cls := "RockingHorse", name := "rota", desc := "()I" } : Jvm.MethodName)) ∈ zTs := zTs_at 755 (by decide +kernel) (by decide +kernel)
theorem zw604 : (Jvm.Cond.code ({ cls := "RockingHorse", name := "rota", desc := "()I" } : Jvm.MethodName) prog_1_method_10_code (3 : Nat) (Option.some Jvm.ClassFile.FieldType.int)) ∈ zTs := zTs_at 756 (by decide +kernel) (by decide +kernel)
theorem zw628 : (Jvm.Cond.methodLink "RockingHorseLaw" (68 : Nat) ({ cls := "RockingHorse", name := "give", desc := "(II)I" } : Jvm.MethodName)) ∈ zTs := zTs_at 780 (by decide +kernel) (by decide +kernel)
theorem zw629 : (Jvm.Cond.instanceMethod ({ cls := "RockingHorse", name := "give", desc := "(II)I" } : Jvm.MethodName)) ∈ zTs := zTs_at 781 (by decide +kernel) (by decide +kernel)
theorem zw630 : (Jvm.Cond.selects "RockingHorse" ({ cls := "RockingHorse", name := "give", desc := "(II)I" } : Jvm.MethodName) ({ cls := "RockingHorse", name := "give", desc := "(II)I" } : Jvm.MethodName)) ∈ zTs := zTs_at 782 (by decide +kernel) (by decide +kernel)
theorem zw631 : (Jvm.Cond.code ({ cls := "RockingHorse", name := "give", desc := "(II)I" } : Jvm.MethodName) prog_1_method_11_code (4 : Nat) (Option.some Jvm.ClassFile.FieldType.int)) ∈ zTs := zTs_at 783 (by decide +kernel) (by decide +kernel)
theorem zw637 : (Jvm.Cond.methodLink "RockingHorseLaw" (72 : Nat) ({ cls := "RockingHorse", name := "ill", desc := "(I)I" } : Jvm.MethodName)) ∈ zTs := zTs_at 789 (by decide +kernel) (by decide +kernel)
theorem zw638 : (Jvm.Cond.instanceMethod ({ cls := "RockingHorse", name := "ill", desc := "(I)I" } : Jvm.MethodName)) ∈ zTs := zTs_at 790 (by decide +kernel) (by decide +kernel)
theorem zw639 : (Jvm.Cond.selects "RockingHorse" ({ cls := "RockingHorse", name := "ill", desc := "(I)I" } : Jvm.MethodName) ({ cls := "RockingHorse", name := "ill", desc := "(I)I" } : Jvm.MethodName)) ∈ zTs := zTs_at 791 (by decide +kernel) (by decide +kernel)
theorem zw640 : (Jvm.Cond.code ({ cls := "RockingHorse", name := "ill", desc := "(I)I" } : Jvm.MethodName) prog_1_method_12_code (2 : Nat) (Option.some Jvm.ClassFile.FieldType.int)) ∈ zTs := zTs_at 792 (by decide +kernel) (by decide +kernel)
theorem zw646 : (Jvm.Cond.methodLink "RockingHorseLaw" (76 : Nat) ({ cls := "RockingHorse", name := "nights", desc := "(I)I" } : Jvm.MethodName)) ∈ zTs := zTs_at 798 (by decide +kernel) (by decide +kernel)
theorem zw647 : (Jvm.Cond.instanceMethod ({ cls := "RockingHorse", name := "nights", desc := "(I)I" } : Jvm.MethodName)) ∈ zTs := zTs_at 799 (by decide +kernel) (by decide +kernel)
theorem zw648 : (Jvm.Cond.selects "RockingHorse" ({ cls := "RockingHorse", name := "nights", desc := "(I)I" } : Jvm.MethodName) ({ cls := "RockingHorse", name := "nights", desc := "(I)I" } : Jvm.MethodName)) ∈ zTs := zTs_at 800 (by decide +kernel) (by decide +kernel)
theorem zw649 : (Jvm.Cond.code ({ cls := "RockingHorse", name := "nights", desc := "(I)I" } : Jvm.MethodName) prog_1_method_13_code (4 : Nat) (Option.some Jvm.ClassFile.FieldType.int)) ∈ zTs := zTs_at 801 (by decide +kernel) (by decide +kernel)
theorem zw695 : (Jvm.Cond.methodLink "RockingHorseLaw" (80 : Nat) ({ cls := "RockingHorse", name := "year", desc := "()I" } : Jvm.MethodName)) ∈ zTs := zTs_at 847 (by decide +kernel) (by decide +kernel)
theorem zw696 : (Jvm.Cond.instanceMethod ({ cls := "RockingHorse", name := "year", desc := "()I" } : Jvm.MethodName)) ∈ zTs := zTs_at 848 (by decide +kernel) (by decide +kernel)
theorem zw697 : (Jvm.Cond.selects "RockingHorse" ({ cls := "RockingHorse", name := "year", desc := "()I" } : Jvm.MethodName) ({ cls := "RockingHorse", name := "year", desc := "()I" } : Jvm.MethodName)) ∈ zTs := zTs_at 849 (by decide +kernel) (by decide +kernel)
theorem zw698 : (Jvm.Cond.code ({ cls := "RockingHorse", name := "year", desc := "()I" } : Jvm.MethodName) prog_1_method_14_code (6 : Nat) (Option.some Jvm.ClassFile.FieldType.int)) ∈ zTs := zTs_at 850 (by decide +kernel) (by decide +kernel)
theorem zw723 : (Jvm.Cond.methodLink "RockingHorseLaw" (84 : Nat) ({ cls := "RockingHorse", name := "undo", desc := "()I" } : Jvm.MethodName)) ∈ zTs := zTs_at 875 (by decide +kernel) (by decide +kernel)
theorem zw724 : (Jvm.Cond.instanceMethod ({ cls := "RockingHorse", name := "undo", desc := "()I" } : Jvm.MethodName)) ∈ zTs := zTs_at 876 (by decide +kernel) (by decide +kernel)
theorem zw725 : (Jvm.Cond.selects "RockingHorse" ({ cls := "RockingHorse", name := "undo", desc := "()I" } : Jvm.MethodName) ({ cls := "RockingHorse", name := "undo", desc := "()I" } : Jvm.MethodName)) ∈ zTs := zTs_at 877 (by decide +kernel) (by decide +kernel)
theorem zw726 : (Jvm.Cond.code ({ cls := "RockingHorse", name := "undo", desc := "()I" } : Jvm.MethodName) prog_1_method_15_code (1 : Nat) (Option.some Jvm.ClassFile.FieldType.int)) ∈ zTs := zTs_at 878 (by decide +kernel) (by decide +kernel)
theorem zw731 : (Jvm.Cond.methodLink "RockingHorseLaw" (88 : Nat) ({ cls := "RockingHorse", name := "gaps", desc := "()I" } : Jvm.MethodName)) ∈ zTs := zTs_at 883 (by decide +kernel) (by decide +kernel)
theorem zw732 : (Jvm.Cond.instanceMethod ({ cls := "RockingHorse", name := "gaps", desc := "()I" } : Jvm.MethodName)) ∈ zTs := zTs_at 884 (by decide +kernel) (by decide +kernel)
theorem zw733 : (Jvm.Cond.selects "RockingHorse" ({ cls := "RockingHorse", name := "gaps", desc := "()I" } : Jvm.MethodName) ({ cls := "RockingHorse", name := "gaps", desc := "()I" } : Jvm.MethodName)) ∈ zTs := zTs_at 885 (by decide +kernel) (by decide +kernel)
theorem zw734 : (Jvm.Cond.code ({ cls := "RockingHorse", name := "gaps", desc := "()I" } : Jvm.MethodName) prog_1_method_16_code (1 : Nat) (Option.some Jvm.ClassFile.FieldType.int)) ∈ zTs := zTs_at 886 (by decide +kernel) (by decide +kernel)
theorem zw736 : (Jvm.Cond.methodLink "RockingHorseLaw" (92 : Nat) ({ cls := "RockingHorse", name := "first", desc := "(I)I" } : Jvm.MethodName)) ∈ zTs := zTs_at 888 (by decide +kernel) (by decide +kernel)
theorem zw737 : (Jvm.Cond.instanceMethod ({ cls := "RockingHorse", name := "first", desc := "(I)I" } : Jvm.MethodName)) ∈ zTs := zTs_at 889 (by decide +kernel) (by decide +kernel)
theorem zw738 : (Jvm.Cond.selects "RockingHorse" ({ cls := "RockingHorse", name := "first", desc := "(I)I" } : Jvm.MethodName) ({ cls := "RockingHorse", name := "first", desc := "(I)I" } : Jvm.MethodName)) ∈ zTs := zTs_at 890 (by decide +kernel) (by decide +kernel)
theorem zw739 : (Jvm.Cond.code ({ cls := "RockingHorse", name := "first", desc := "(I)I" } : Jvm.MethodName) prog_1_method_17_code (3 : Nat) (Option.some Jvm.ClassFile.FieldType.int)) ∈ zTs := zTs_at 891 (by decide +kernel) (by decide +kernel)
theorem zw748 : (Jvm.Cond.methodLink "RockingHorseLaw" (96 : Nat) ({ cls := "RockingHorse", name := "later", desc := "(I)I" } : Jvm.MethodName)) ∈ zTs := zTs_at 900 (by decide +kernel) (by decide +kernel)
theorem zw749 : (Jvm.Cond.instanceMethod ({ cls := "RockingHorse", name := "later", desc := "(I)I" } : Jvm.MethodName)) ∈ zTs := zTs_at 901 (by decide +kernel) (by decide +kernel)
theorem zw750 : (Jvm.Cond.selects "RockingHorse" ({ cls := "RockingHorse", name := "later", desc := "(I)I" } : Jvm.MethodName) ({ cls := "RockingHorse", name := "later", desc := "(I)I" } : Jvm.MethodName)) ∈ zTs := zTs_at 902 (by decide +kernel) (by decide +kernel)
theorem zw751 : (Jvm.Cond.code ({ cls := "RockingHorse", name := "later", desc := "(I)I" } : Jvm.MethodName) prog_1_method_18_code (2 : Nat) (Option.some Jvm.ClassFile.FieldType.int)) ∈ zTs := zTs_at 903 (by decide +kernel) (by decide +kernel)
theorem zw757 : (Jvm.Cond.methodLink "RockingHorseLaw" (100 : Nat) ({ cls := "RockingHorse", name := "vigil", desc := "(I)I" } : Jvm.MethodName)) ∈ zTs := zTs_at 909 (by decide +kernel) (by decide +kernel)
theorem zw758 : (Jvm.Cond.instanceMethod ({ cls := "RockingHorse", name := "vigil", desc := "(I)I" } : Jvm.MethodName)) ∈ zTs := zTs_at 910 (by decide +kernel) (by decide +kernel)
theorem zw759 : (Jvm.Cond.selects "RockingHorse" ({ cls := "RockingHorse", name := "vigil", desc := "(I)I" } : Jvm.MethodName) ({ cls := "RockingHorse", name := "vigil", desc := "(I)I" } : Jvm.MethodName)) ∈ zTs := zTs_at 911 (by decide +kernel) (by decide +kernel)
theorem zw760 : (Jvm.Cond.code ({ cls := "RockingHorse", name := "vigil", desc := "(I)I" } : Jvm.MethodName) prog_1_method_19_code (6 : Nat) (Option.some Jvm.ClassFile.FieldType.int)) ∈ zTs := zTs_at 912 (by decide +kernel) (by decide +kernel)
theorem zw761 : (Jvm.Cond.methodLink "RockingHorseLaw" (104 : Nat) ({ cls := "RockingHorse", name := "trade", desc := "()I" } : Jvm.MethodName)) ∈ zTs := zTs_at 913 (by decide +kernel) (by decide +kernel)
theorem zw762 : (Jvm.Cond.instanceMethod ({ cls := "RockingHorse", name := "trade", desc := "()I" } : Jvm.MethodName)) ∈ zTs := zTs_at 914 (by decide +kernel) (by decide +kernel)
theorem zw763 : (Jvm.Cond.selects "RockingHorse" ({ cls := "RockingHorse", name := "trade", desc := "()I" } : Jvm.MethodName) ({ cls := "RockingHorse", name := "trade", desc := "()I" } : Jvm.MethodName)) ∈ zTs := zTs_at 915 (by decide +kernel) (by decide +kernel)
theorem zw764 : (Jvm.Cond.code ({ cls := "RockingHorse", name := "trade", desc := "()I" } : Jvm.MethodName) prog_1_method_20_code (7 : Nat) (Option.some Jvm.ClassFile.FieldType.int)) ∈ zTs := zTs_at 916 (by decide +kernel) (by decide +kernel)
theorem zw770 : (Jvm.Cond.methodLink "RockingHorseLaw" (108 : Nat) ({ cls := "RockingHorse", name := "easiest", desc := "()I" } : Jvm.MethodName)) ∈ zTs := zTs_at 922 (by decide +kernel) (by decide +kernel)
theorem zw771 : (Jvm.Cond.instanceMethod ({ cls := "RockingHorse", name := "easiest", desc := "()I" } : Jvm.MethodName)) ∈ zTs := zTs_at 923 (by decide +kernel) (by decide +kernel)
theorem zw772 : (Jvm.Cond.selects "RockingHorse" ({ cls := "RockingHorse", name := "easiest", desc := "()I" } : Jvm.MethodName) ({ cls := "RockingHorse", name := "easiest", desc := "()I" } : Jvm.MethodName)) ∈ zTs := zTs_at 924 (by decide +kernel) (by decide +kernel)
theorem zw773 : (Jvm.Cond.code ({ cls := "RockingHorse", name := "easiest", desc := "()I" } : Jvm.MethodName) prog_1_method_21_code (3 : Nat) (Option.some Jvm.ClassFile.FieldType.int)) ∈ zTs := zTs_at 925 (by decide +kernel) (by decide +kernel)
theorem zw839 : (Jvm.Cond.methodLink "RockingHorseLaw" (112 : Nat) ({ cls := "RockingHorse", name := "fewest", desc := "()I" } : Jvm.MethodName)) ∈ zTs := zTs_at 991 (by decide +kernel) (by decide +kernel)
theorem zw840 : (Jvm.Cond.instanceMethod ({ cls := "RockingHorse", name := "fewest", desc := "()I" } : Jvm.MethodName)) ∈ zTs := zTs_at 992 (by decide +kernel) (by decide +kernel)
theorem zw841 : (Jvm.Cond.selects "RockingHorse" ({ cls := "RockingHorse", name := "fewest", desc := "()I" } : Jvm.MethodName) ({ cls := "RockingHorse", name := "fewest", desc := "()I" } : Jvm.MethodName)) ∈ zTs := zTs_at 993 (by decide +kernel) (by decide +kernel)
theorem zw842 : (Jvm.Cond.code ({ cls := "RockingHorse", name := "fewest", desc := "()I" } : Jvm.MethodName) prog_1_method_22_code (3 : Nat) (Option.some Jvm.ClassFile.FieldType.int)) ∈ zTs := zTs_at 994 (by decide +kernel) (by decide +kernel)
theorem zw844 : (Jvm.Cond.methodLink "RockingHorseLaw" (116 : Nat) ({ cls := "RockingHorse", name := "bare", desc := "()I" } : Jvm.MethodName)) ∈ zTs := zTs_at 996 (by decide +kernel) (by decide +kernel)
theorem zw845 : (Jvm.Cond.instanceMethod ({ cls := "RockingHorse", name := "bare", desc := "()I" } : Jvm.MethodName)) ∈ zTs := zTs_at 997 (by decide +kernel) (by decide +kernel)
theorem zw846 : (Jvm.Cond.selects "RockingHorse" ({ cls := "RockingHorse", name := "bare", desc := "()I" } : Jvm.MethodName) ({ cls := "RockingHorse", name := "bare", desc := "()I" } : Jvm.MethodName)) ∈ zTs := zTs_at 998 (by decide +kernel) (by decide +kernel)
theorem zw847 : (Jvm.Cond.code ({ cls := "RockingHorse", name := "bare", desc := "()I" } : Jvm.MethodName) prog_1_method_23_code (4 : Nat) (Option.some Jvm.ClassFile.FieldType.int)) ∈ zTs := zTs_at 999 (by decide +kernel) (by decide +kernel)
theorem zw852 : (Jvm.Cond.methodLink "RockingHorseLaw" (120 : Nat) ({ cls := "RockingHorse", name := "rotas", desc := "()I" } : Jvm.MethodName)) ∈ zTs := zTs_at 1004 (by decide +kernel) (by decide +kernel)
theorem zw853 : (Jvm.Cond.instanceMethod ({ cls := "RockingHorse", name := "rotas", desc := "()I" } : Jvm.MethodName)) ∈ zTs := zTs_at 1005 (by decide +kernel) (by decide +kernel)
theorem zw854 : (Jvm.Cond.selects "RockingHorse" ({ cls := "RockingHorse", name := "rotas", desc := "()I" } : Jvm.MethodName) ({ cls := "RockingHorse", name := "rotas", desc := "()I" } : Jvm.MethodName)) ∈ zTs := zTs_at 1006 (by decide +kernel) (by decide +kernel)
theorem zw855 : (Jvm.Cond.code ({ cls := "RockingHorse", name := "rotas", desc := "()I" } : Jvm.MethodName) prog_1_method_24_code (1 : Nat) (Option.some Jvm.ClassFile.FieldType.int)) ∈ zTs := zTs_at 1007 (by decide +kernel) (by decide +kernel)
theorem zw872 : (Jvm.Cond.methodLink "RockingHorseLaw" (124 : Nat) ({ cls := "RockingHorse", name := "mended", desc := "(I)I" } : Jvm.MethodName)) ∈ zTs := zTs_at 1024 (by decide +kernel) (by decide +kernel)
theorem zw873 : (Jvm.Cond.instanceMethod ({ cls := "RockingHorse", name := "mended", desc := "(I)I" } : Jvm.MethodName)) ∈ zTs := zTs_at 1025 (by decide +kernel) (by decide +kernel)
theorem zw874 : (Jvm.Cond.selects "RockingHorse" ({ cls := "RockingHorse", name := "mended", desc := "(I)I" } : Jvm.MethodName) ({ cls := "RockingHorse", name := "mended", desc := "(I)I" } : Jvm.MethodName)) ∈ zTs := zTs_at 1026 (by decide +kernel) (by decide +kernel)
theorem zw875 : (Jvm.Cond.code ({ cls := "RockingHorse", name := "mended", desc := "(I)I" } : Jvm.MethodName) prog_1_method_25_code (4 : Nat) (Option.some Jvm.ClassFile.FieldType.int)) ∈ zTs := zTs_at 1027 (by decide +kernel) (by decide +kernel)
theorem zw880 : (Jvm.Cond.methodLink "RockingHorseLaw" (128 : Nat) ({ cls := "RockingHorse", name := "takes", desc := "()I" } : Jvm.MethodName)) ∈ zTs := zTs_at 1032 (by decide +kernel) (by decide +kernel)
theorem zw881 : (Jvm.Cond.instanceMethod ({ cls := "RockingHorse", name := "takes", desc := "()I" } : Jvm.MethodName)) ∈ zTs := zTs_at 1033 (by decide +kernel) (by decide +kernel)
theorem zw882 : (Jvm.Cond.selects "RockingHorse" ({ cls := "RockingHorse", name := "takes", desc := "()I" } : Jvm.MethodName) ({ cls := "RockingHorse", name := "takes", desc := "()I" } : Jvm.MethodName)) ∈ zTs := zTs_at 1034 (by decide +kernel) (by decide +kernel)
theorem zw883 : (Jvm.Cond.code ({ cls := "RockingHorse", name := "takes", desc := "()I" } : Jvm.MethodName) prog_1_method_26_code (6 : Nat) (Option.some Jvm.ClassFile.FieldType.int)) ∈ zTs := zTs_at 1035 (by decide +kernel) (by decide +kernel)
theorem zw884 : (Jvm.Cond.methodLink "RockingHorseLaw" (132 : Nat) ({ cls := "RockingHorse", name := "missed", desc := "(I)I" } : Jvm.MethodName)) ∈ zTs := zTs_at 1036 (by decide +kernel) (by decide +kernel)
theorem zw885 : (Jvm.Cond.instanceMethod ({ cls := "RockingHorse", name := "missed", desc := "(I)I" } : Jvm.MethodName)) ∈ zTs := zTs_at 1037 (by decide +kernel) (by decide +kernel)
theorem zw886 : (Jvm.Cond.selects "RockingHorse" ({ cls := "RockingHorse", name := "missed", desc := "(I)I" } : Jvm.MethodName) ({ cls := "RockingHorse", name := "missed", desc := "(I)I" } : Jvm.MethodName)) ∈ zTs := zTs_at 1038 (by decide +kernel) (by decide +kernel)
theorem zw887 : (Jvm.Cond.code ({ cls := "RockingHorse", name := "missed", desc := "(I)I" } : Jvm.MethodName) prog_1_method_27_code (6 : Nat) (Option.some Jvm.ClassFile.FieldType.int)) ∈ zTs := zTs_at 1039 (by decide +kernel) (by decide +kernel)
theorem zw888 : (Jvm.Cond.methodLink "RockingHorseLaw" (136 : Nat) ({ cls := "RockingHorse", name := "paid", desc := "(I)I" } : Jvm.MethodName)) ∈ zTs := zTs_at 1040 (by decide +kernel) (by decide +kernel)
theorem zw889 : (Jvm.Cond.instanceMethod ({ cls := "RockingHorse", name := "paid", desc := "(I)I" } : Jvm.MethodName)) ∈ zTs := zTs_at 1041 (by decide +kernel) (by decide +kernel)
theorem zw890 : (Jvm.Cond.selects "RockingHorse" ({ cls := "RockingHorse", name := "paid", desc := "(I)I" } : Jvm.MethodName) ({ cls := "RockingHorse", name := "paid", desc := "(I)I" } : Jvm.MethodName)) ∈ zTs := zTs_at 1042 (by decide +kernel) (by decide +kernel)
theorem zw891 : (Jvm.Cond.code ({ cls := "RockingHorse", name := "paid", desc := "(I)I" } : Jvm.MethodName) prog_1_method_28_code (8 : Nat) (Option.some Jvm.ClassFile.FieldType.int)) ∈ zTs := zTs_at 1043 (by decide +kernel) (by decide +kernel)
theorem zw892 : (Jvm.Cond.methodLink "RockingHorseLaw" (140 : Nat) ({ cls := "RockingHorse", name := "fairest", desc := "()I" } : Jvm.MethodName)) ∈ zTs := zTs_at 1044 (by decide +kernel) (by decide +kernel)
theorem zw893 : (Jvm.Cond.instanceMethod ({ cls := "RockingHorse", name := "fairest", desc := "()I" } : Jvm.MethodName)) ∈ zTs := zTs_at 1045 (by decide +kernel) (by decide +kernel)
theorem zw894 : (Jvm.Cond.selects "RockingHorse" ({ cls := "RockingHorse", name := "fairest", desc := "()I" } : Jvm.MethodName) ({ cls := "RockingHorse", name := "fairest", desc := "()I" } : Jvm.MethodName)) ∈ zTs := zTs_at 1046 (by decide +kernel) (by decide +kernel)
theorem zw895 : (Jvm.Cond.code ({ cls := "RockingHorse", name := "fairest", desc := "()I" } : Jvm.MethodName) prog_1_method_29_code (3 : Nat) (Option.some Jvm.ClassFile.FieldType.int)) ∈ zTs := zTs_at 1047 (by decide +kernel) (by decide +kernel)
theorem zw905 : (Jvm.Cond.methodLink "RockingHorseLaw" (144 : Nat) ({ cls := "RockingHorse", name := "away", desc := "()I" } : Jvm.MethodName)) ∈ zTs := zTs_at 1057 (by decide +kernel) (by decide +kernel)
theorem zw906 : (Jvm.Cond.instanceMethod ({ cls := "RockingHorse", name := "away", desc := "()I" } : Jvm.MethodName)) ∈ zTs := zTs_at 1058 (by decide +kernel) (by decide +kernel)
theorem zw907 : (Jvm.Cond.selects "RockingHorse" ({ cls := "RockingHorse", name := "away", desc := "()I" } : Jvm.MethodName) ({ cls := "RockingHorse", name := "away", desc := "()I" } : Jvm.MethodName)) ∈ zTs := zTs_at 1059 (by decide +kernel) (by decide +kernel)
theorem zw908 : (Jvm.Cond.code ({ cls := "RockingHorse", name := "away", desc := "()I" } : Jvm.MethodName) prog_1_method_30_code (5 : Nat) (Option.some Jvm.ClassFile.FieldType.int)) ∈ zTs := zTs_at 1060 (by decide +kernel) (by decide +kernel)
theorem zw914 : (Jvm.Cond.methodLink "RockingHorseLaw" (148 : Nat) ({ cls := "RockingHorse", name := "able", desc := "(I)I" } : Jvm.MethodName)) ∈ zTs := zTs_at 1066 (by decide +kernel) (by decide +kernel)
theorem zw915 : (Jvm.Cond.instanceMethod ({ cls := "RockingHorse", name := "able", desc := "(I)I" } : Jvm.MethodName)) ∈ zTs := zTs_at 1067 (by decide +kernel) (by decide +kernel)
theorem zw916 : (Jvm.Cond.selects "RockingHorse" ({ cls := "RockingHorse", name := "able", desc := "(I)I" } : Jvm.MethodName) ({ cls := "RockingHorse", name := "able", desc := "(I)I" } : Jvm.MethodName)) ∈ zTs := zTs_at 1068 (by decide +kernel) (by decide +kernel)
theorem zw917 : (Jvm.Cond.code ({ cls := "RockingHorse", name := "able", desc := "(I)I" } : Jvm.MethodName) prog_1_method_31_code (5 : Nat) (Option.some Jvm.ClassFile.FieldType.int)) ∈ zTs := zTs_at 1069 (by decide +kernel) (by decide +kernel)
theorem zw923 : (Jvm.Cond.methodLink "RockingHorseLaw" (152 : Nat) ({ cls := "RockingHorse", name := "spent", desc := "(I)I" } : Jvm.MethodName)) ∈ zTs := zTs_at 1075 (by decide +kernel) (by decide +kernel)
theorem zw924 : (Jvm.Cond.instanceMethod ({ cls := "RockingHorse", name := "spent", desc := "(I)I" } : Jvm.MethodName)) ∈ zTs := zTs_at 1076 (by decide +kernel) (by decide +kernel)
theorem zw925 : (Jvm.Cond.selects "RockingHorse" ({ cls := "RockingHorse", name := "spent", desc := "(I)I" } : Jvm.MethodName) ({ cls := "RockingHorse", name := "spent", desc := "(I)I" } : Jvm.MethodName)) ∈ zTs := zTs_at 1077 (by decide +kernel) (by decide +kernel)
theorem zw926 : (Jvm.Cond.code ({ cls := "RockingHorse", name := "spent", desc := "(I)I" } : Jvm.MethodName) prog_1_method_32_code (6 : Nat) (Option.some Jvm.ClassFile.FieldType.int)) ∈ zTs := zTs_at 1078 (by decide +kernel) (by decide +kernel)
theorem zw931 : (Jvm.Cond.methodLink "RockingHorseLaw" (156 : Nat) ({ cls := "RockingHorse", name := "shared", desc := "(II)I" } : Jvm.MethodName)) ∈ zTs := zTs_at 1083 (by decide +kernel) (by decide +kernel)
theorem zw932 : (Jvm.Cond.instanceMethod ({ cls := "RockingHorse", name := "shared", desc := "(II)I" } : Jvm.MethodName)) ∈ zTs := zTs_at 1084 (by decide +kernel) (by decide +kernel)
theorem zw933 : (Jvm.Cond.selects "RockingHorse" ({ cls := "RockingHorse", name := "shared", desc := "(II)I" } : Jvm.MethodName) ({ cls := "RockingHorse", name := "shared", desc := "(II)I" } : Jvm.MethodName)) ∈ zTs := zTs_at 1085 (by decide +kernel) (by decide +kernel)
theorem zw934 : (Jvm.Cond.code ({ cls := "RockingHorse", name := "shared", desc := "(II)I" } : Jvm.MethodName) prog_1_method_33_code (3 : Nat) (Option.some Jvm.ClassFile.FieldType.int)) ∈ zTs := zTs_at 1086 (by decide +kernel) (by decide +kernel)
theorem zw935 : (Jvm.Cond.methodLink "RockingHorseLaw" (160 : Nat) ({ cls := "RockingHorse", name := "thin", desc := "()I" } : Jvm.MethodName)) ∈ zTs := zTs_at 1087 (by decide +kernel) (by decide +kernel)
theorem zw936 : (Jvm.Cond.instanceMethod ({ cls := "RockingHorse", name := "thin", desc := "()I" } : Jvm.MethodName)) ∈ zTs := zTs_at 1088 (by decide +kernel) (by decide +kernel)
theorem zw937 : (Jvm.Cond.selects "RockingHorse" ({ cls := "RockingHorse", name := "thin", desc := "()I" } : Jvm.MethodName) ({ cls := "RockingHorse", name := "thin", desc := "()I" } : Jvm.MethodName)) ∈ zTs := zTs_at 1089 (by decide +kernel) (by decide +kernel)
theorem zw938 : (Jvm.Cond.code ({ cls := "RockingHorse", name := "thin", desc := "()I" } : Jvm.MethodName) prog_1_method_34_code (6 : Nat) (Option.some Jvm.ClassFile.FieldType.int)) ∈ zTs := zTs_at 1090 (by decide +kernel) (by decide +kernel)
theorem zw939 : (Jvm.Cond.methodLink "RockingHorseLaw" (164 : Nat) ({ cls := "RockingHorse", name := "changes", desc := "()I" } : Jvm.MethodName)) ∈ zTs := zTs_at 1091 (by decide +kernel) (by decide +kernel)
theorem zw940 : (Jvm.Cond.instanceMethod ({ cls := "RockingHorse", name := "changes", desc := "()I" } : Jvm.MethodName)) ∈ zTs := zTs_at 1092 (by decide +kernel) (by decide +kernel)
theorem zw941 : (Jvm.Cond.selects "RockingHorse" ({ cls := "RockingHorse", name := "changes", desc := "()I" } : Jvm.MethodName) ({ cls := "RockingHorse", name := "changes", desc := "()I" } : Jvm.MethodName)) ∈ zTs := zTs_at 1093 (by decide +kernel) (by decide +kernel)
theorem zw942 : (Jvm.Cond.code ({ cls := "RockingHorse", name := "changes", desc := "()I" } : Jvm.MethodName) prog_1_method_35_code (8 : Nat) (Option.some Jvm.ClassFile.FieldType.int)) ∈ zTs := zTs_at 1094 (by decide +kernel) (by decide +kernel)
theorem zw944 : (Jvm.Cond.methodLink "RockingHorseLaw" (168 : Nat) ({ cls := "RockingHorse", name := "smoothest", desc := "()I" } : Jvm.MethodName)) ∈ zTs := zTs_at 1096 (by decide +kernel) (by decide +kernel)
theorem zw945 : (Jvm.Cond.instanceMethod ({ cls := "RockingHorse", name := "smoothest", desc := "()I" } : Jvm.MethodName)) ∈ zTs := zTs_at 1097 (by decide +kernel) (by decide +kernel)
theorem zw946 : (Jvm.Cond.selects "RockingHorse" ({ cls := "RockingHorse", name := "smoothest", desc := "()I" } : Jvm.MethodName) ({ cls := "RockingHorse", name := "smoothest", desc := "()I" } : Jvm.MethodName)) ∈ zTs := zTs_at 1098 (by decide +kernel) (by decide +kernel)
theorem zw947 : (Jvm.Cond.code ({ cls := "RockingHorse", name := "smoothest", desc := "()I" } : Jvm.MethodName) prog_1_method_36_code (3 : Nat) (Option.some Jvm.ClassFile.FieldType.int)) ∈ zTs := zTs_at 1099 (by decide +kernel) (by decide +kernel)
theorem zw952 : (Jvm.Cond.methodLink "RockingHorseLaw" (172 : Nat) ({ cls := "RockingHorse", name := "meets", desc := "(III)I" } : Jvm.MethodName)) ∈ zTs := zTs_at 1104 (by decide +kernel) (by decide +kernel)
theorem zw953 : (Jvm.Cond.instanceMethod ({ cls := "RockingHorse", name := "meets", desc := "(III)I" } : Jvm.MethodName)) ∈ zTs := zTs_at 1105 (by decide +kernel) (by decide +kernel)
theorem zw954 : (Jvm.Cond.selects "RockingHorse" ({ cls := "RockingHorse", name := "meets", desc := "(III)I" } : Jvm.MethodName) ({ cls := "RockingHorse", name := "meets", desc := "(III)I" } : Jvm.MethodName)) ∈ zTs := zTs_at 1106 (by decide +kernel) (by decide +kernel)
theorem zw955 : (Jvm.Cond.code ({ cls := "RockingHorse", name := "meets", desc := "(III)I" } : Jvm.MethodName) prog_1_method_37_code (7 : Nat) (Option.some Jvm.ClassFile.FieldType.int)) ∈ zTs := zTs_at 1107 (by decide +kernel) (by decide +kernel)
theorem zw956 : (Jvm.Cond.methodLink "RockingHorseLaw" (177 : Nat) ({ cls := "RockingHorse", name := "found", desc := "(III)I" } : Jvm.MethodName)) ∈ zTs := zTs_at 1108 (by decide +kernel) (by decide +kernel)
theorem zw957 : (Jvm.Cond.instanceMethod ({ cls := "RockingHorse", name := "found", desc := "(III)I" } : Jvm.MethodName)) ∈ zTs := zTs_at 1109 (by decide +kernel) (by decide +kernel)
theorem zw958 : (Jvm.Cond.selects "RockingHorse" ({ cls := "RockingHorse", name := "found", desc := "(III)I" } : Jvm.MethodName) ({ cls := "RockingHorse", name := "found", desc := "(III)I" } : Jvm.MethodName)) ∈ zTs := zTs_at 1110 (by decide +kernel) (by decide +kernel)
theorem zw959 : (Jvm.Cond.code ({ cls := "RockingHorse", name := "found", desc := "(III)I" } : Jvm.MethodName) prog_1_method_38_code (4 : Nat) (Option.some Jvm.ClassFile.FieldType.int)) ∈ zTs := zTs_at 1111 (by decide +kernel) (by decide +kernel)
theorem zw960 : (Jvm.Cond.methodLink "RockingHorseLaw" (181 : Nat) ({ cls := "RockingHorse", name := "forget", desc := "()I" } : Jvm.MethodName)) ∈ zTs := zTs_at 1112 (by decide +kernel) (by decide +kernel)
theorem zw961 : (Jvm.Cond.instanceMethod ({ cls := "RockingHorse", name := "forget", desc := "()I" } : Jvm.MethodName)) ∈ zTs := zTs_at 1113 (by decide +kernel) (by decide +kernel)
theorem zw962 : (Jvm.Cond.selects "RockingHorse" ({ cls := "RockingHorse", name := "forget", desc := "()I" } : Jvm.MethodName) ({ cls := "RockingHorse", name := "forget", desc := "()I" } : Jvm.MethodName)) ∈ zTs := zTs_at 1114 (by decide +kernel) (by decide +kernel)
theorem zw963 : (Jvm.Cond.code ({ cls := "RockingHorse", name := "forget", desc := "()I" } : Jvm.MethodName) prog_1_method_39_code (2 : Nat) (Option.some Jvm.ClassFile.FieldType.int)) ∈ zTs := zTs_at 1115 (by decide +kernel) (by decide +kernel)
theorem zw964 : (Jvm.Cond.methodLink "RockingHorseLaw" (185 : Nat) ({ cls := "RockingHorse", name := "fits", desc := "()I" } : Jvm.MethodName)) ∈ zTs := zTs_at 1116 (by decide +kernel) (by decide +kernel)
theorem zw965 : (Jvm.Cond.instanceMethod ({ cls := "RockingHorse", name := "fits", desc := "()I" } : Jvm.MethodName)) ∈ zTs := zTs_at 1117 (by decide +kernel) (by decide +kernel)
theorem zw966 : (Jvm.Cond.selects "RockingHorse" ({ cls := "RockingHorse", name := "fits", desc := "()I" } : Jvm.MethodName) ({ cls := "RockingHorse", name := "fits", desc := "()I" } : Jvm.MethodName)) ∈ zTs := zTs_at 1118 (by decide +kernel) (by decide +kernel)
theorem zw967 : (Jvm.Cond.code ({ cls := "RockingHorse", name := "fits", desc := "()I" } : Jvm.MethodName) prog_1_method_40_code (1 : Nat) (Option.some Jvm.ClassFile.FieldType.int)) ∈ zTs := zTs_at 1119 (by decide +kernel) (by decide +kernel)
theorem zw981 : (Jvm.Cond.methodLink "RockingHorseLaw" (189 : Nat) ({ cls := "RockingHorse", name := "sure", desc := "(II)I" } : Jvm.MethodName)) ∈ zTs := zTs_at 1133 (by decide +kernel) (by decide +kernel)
theorem zw982 : (Jvm.Cond.instanceMethod ({ cls := "RockingHorse", name := "sure", desc := "(II)I" } : Jvm.MethodName)) ∈ zTs := zTs_at 1134 (by decide +kernel) (by decide +kernel)
theorem zw983 : (Jvm.Cond.selects "RockingHorse" ({ cls := "RockingHorse", name := "sure", desc := "(II)I" } : Jvm.MethodName) ({ cls := "RockingHorse", name := "sure", desc := "(II)I" } : Jvm.MethodName)) ∈ zTs := zTs_at 1135 (by decide +kernel) (by decide +kernel)
theorem zw984 : (Jvm.Cond.code ({ cls := "RockingHorse", name := "sure", desc := "(II)I" } : Jvm.MethodName) prog_1_method_41_code (5 : Nat) (Option.some Jvm.ClassFile.FieldType.int)) ∈ zTs := zTs_at 1136 (by decide +kernel) (by decide +kernel)
theorem zw992 : (Jvm.Cond.methodLink "RockingHorseLaw" (193 : Nat) ({ cls := "RockingHorse", name := "ask", desc := "()I" } : Jvm.MethodName)) ∈ zTs := zTs_at 1144 (by decide +kernel) (by decide +kernel)
theorem zw993 : (Jvm.Cond.instanceMethod ({ cls := "RockingHorse", name := "ask", desc := "()I" } : Jvm.MethodName)) ∈ zTs := zTs_at 1145 (by decide +kernel) (by decide +kernel)
theorem zw994 : (Jvm.Cond.selects "RockingHorse" ({ cls := "RockingHorse", name := "ask", desc := "()I" } : Jvm.MethodName) ({ cls := "RockingHorse", name := "ask", desc := "()I" } : Jvm.MethodName)) ∈ zTs := zTs_at 1146 (by decide +kernel) (by decide +kernel)
theorem zw995 : (Jvm.Cond.code ({ cls := "RockingHorse", name := "ask", desc := "()I" } : Jvm.MethodName) prog_1_method_42_code (5 : Nat) (Option.some Jvm.ClassFile.FieldType.int)) ∈ zTs := zTs_at 1147 (by decide +kernel) (by decide +kernel)
theorem zw1013 : (Jvm.Cond.methodLink "RockingHorseLaw" (197 : Nat) ({ cls := "RockingHorse", name := "held", desc := "(I)I" } : Jvm.MethodName)) ∈ zTs := zTs_at 1165 (by decide +kernel) (by decide +kernel)
theorem zw1014 : (Jvm.Cond.instanceMethod ({ cls := "RockingHorse", name := "held", desc := "(I)I" } : Jvm.MethodName)) ∈ zTs := zTs_at 1166 (by decide +kernel) (by decide +kernel)
theorem zw1015 : (Jvm.Cond.selects "RockingHorse" ({ cls := "RockingHorse", name := "held", desc := "(I)I" } : Jvm.MethodName) ({ cls := "RockingHorse", name := "held", desc := "(I)I" } : Jvm.MethodName)) ∈ zTs := zTs_at 1167 (by decide +kernel) (by decide +kernel)
theorem zw1016 : (Jvm.Cond.code ({ cls := "RockingHorse", name := "held", desc := "(I)I" } : Jvm.MethodName) prog_1_method_43_code (2 : Nat) (Option.some Jvm.ClassFile.FieldType.int)) ∈ zTs := zTs_at 1168 (by decide +kernel) (by decide +kernel)
theorem zw1037 : (Jvm.Cond.methodLink "RockingHorseLaw" (201 : Nat) ({ cls := "RockingHorse", name := "keystone", desc := "(I)I" } : Jvm.MethodName)) ∈ zTs := zTs_at 1189 (by decide +kernel) (by decide +kernel)
theorem zw1038 : (Jvm.Cond.instanceMethod ({ cls := "RockingHorse", name := "keystone", desc := "(I)I" } : Jvm.MethodName)) ∈ zTs := zTs_at 1190 (by decide +kernel) (by decide +kernel)
theorem zw1039 : (Jvm.Cond.selects "RockingHorse" ({ cls := "RockingHorse", name := "keystone", desc := "(I)I" } : Jvm.MethodName) ({ cls := "RockingHorse", name := "keystone", desc := "(I)I" } : Jvm.MethodName)) ∈ zTs := zTs_at 1191 (by decide +kernel) (by decide +kernel)
theorem zw1040 : (Jvm.Cond.code ({ cls := "RockingHorse", name := "keystone", desc := "(I)I" } : Jvm.MethodName) prog_1_method_44_code (9 : Nat) (Option.some Jvm.ClassFile.FieldType.int)) ∈ zTs := zTs_at 1192 (by decide +kernel) (by decide +kernel)
theorem zw1041 : (Jvm.Cond.methodLink "RockingHorseLaw" (205 : Nat) ({ cls := "RockingHorse", name := "rests", desc := "(II)I" } : Jvm.MethodName)) ∈ zTs := zTs_at 1193 (by decide +kernel) (by decide +kernel)
theorem zw1042 : (Jvm.Cond.instanceMethod ({ cls := "RockingHorse", name := "rests", desc := "(II)I" } : Jvm.MethodName)) ∈ zTs := zTs_at 1194 (by decide +kernel) (by decide +kernel)
theorem zw1043 : (Jvm.Cond.selects "RockingHorse" ({ cls := "RockingHorse", name := "rests", desc := "(II)I" } : Jvm.MethodName) ({ cls := "RockingHorse", name := "rests", desc := "(II)I" } : Jvm.MethodName)) ∈ zTs := zTs_at 1195 (by decide +kernel) (by decide +kernel)
theorem zw1044 : (Jvm.Cond.code ({ cls := "RockingHorse", name := "rests", desc := "(II)I" } : Jvm.MethodName) prog_1_method_45_code (7 : Nat) (Option.some Jvm.ClassFile.FieldType.int)) ∈ zTs := zTs_at 1196 (by decide +kernel) (by decide +kernel)
theorem zw1048 : (Jvm.Cond.methodLink "RockingHorseLaw" (209 : Nat) ({ cls := "RockingHorse", name := "law", desc := "()I" } : Jvm.MethodName)) ∈ zTs := zTs_at 1200 (by decide +kernel) (by decide +kernel)
theorem zw1049 : (Jvm.Cond.instanceMethod ({ cls := "RockingHorse", name := "law", desc := "()I" } : Jvm.MethodName)) ∈ zTs := zTs_at 1201 (by decide +kernel) (by decide +kernel)
theorem zw1050 : (Jvm.Cond.selects "RockingHorse" ({ cls := "RockingHorse", name := "law", desc := "()I" } : Jvm.MethodName) ({ cls := "RockingHorse", name := "law", desc := "()I" } : Jvm.MethodName)) ∈ zTs := zTs_at 1202 (by decide +kernel) (by decide +kernel)
theorem zw1051 : (Jvm.Cond.code ({ cls := "RockingHorse", name := "law", desc := "()I" } : Jvm.MethodName) prog_1_method_46_code (4 : Nat) (Option.some Jvm.ClassFile.FieldType.int)) ∈ zTs := zTs_at 1203 (by decide +kernel) (by decide +kernel)
theorem zw1056 : (Jvm.Cond.methodLink "RockingHorseLaw" (213 : Nat) ({ cls := "RockingHorse", name := "years", desc := "(II)I" } : Jvm.MethodName)) ∈ zTs := zTs_at 1208 (by decide +kernel) (by decide +kernel)
theorem zw1057 : (Jvm.Cond.instanceMethod ({ cls := "RockingHorse", name := "years", desc := "(II)I" } : Jvm.MethodName)) ∈ zTs := zTs_at 1209 (by decide +kernel) (by decide +kernel)
theorem zw1058 : (Jvm.Cond.selects "RockingHorse" ({ cls := "RockingHorse", name := "years", desc := "(II)I" } : Jvm.MethodName) ({ cls := "RockingHorse", name := "years", desc := "(II)I" } : Jvm.MethodName)) ∈ zTs := zTs_at 1210 (by decide +kernel) (by decide +kernel)
theorem zw1059 : (Jvm.Cond.code ({ cls := "RockingHorse", name := "years", desc := "(II)I" } : Jvm.MethodName) prog_1_method_47_code (4 : Nat) (Option.some Jvm.ClassFile.FieldType.int)) ∈ zTs := zTs_at 1211 (by decide +kernel) (by decide +kernel)
theorem zw1069 : (Jvm.Cond.methodLink "RockingHorseLaw" (217 : Nat) ({ cls := "RockingHorse", name := "keep", desc := "(I)Z" } : Jvm.MethodName)) ∈ zTs := zTs_at 1221 (by decide +kernel) (by decide +kernel)
theorem zw1070 : (Jvm.Cond.instanceMethod ({ cls := "RockingHorse", name := "keep", desc := "(I)Z" } : Jvm.MethodName)) ∈ zTs := zTs_at 1222 (by decide +kernel) (by decide +kernel)
theorem zw1071 : (Jvm.Cond.selects "RockingHorse" ({ cls := "RockingHorse", name := "keep", desc := "(I)Z" } : Jvm.MethodName) ({ cls := "RockingHorse", name := "keep", desc := "(I)Z" } : Jvm.MethodName)) ∈ zTs := zTs_at 1223 (by decide +kernel) (by decide +kernel)
theorem zw1072 : (Jvm.Cond.code ({ cls := "RockingHorse", name := "keep", desc := "(I)Z" } : Jvm.MethodName) prog_1_method_48_code (2 : Nat) (Option.some Jvm.ClassFile.FieldType.boolean)) ∈ zTs := zTs_at 1224 (by decide +kernel) (by decide +kernel)
theorem zw1073 : (Jvm.Cond.methodLink "RockingHorseLaw" (221 : Nat) ({ cls := "RockingHorse", name := "again", desc := "(I)Z" } : Jvm.MethodName)) ∈ zTs := zTs_at 1225 (by decide +kernel) (by decide +kernel)
theorem zw1074 : (Jvm.Cond.instanceMethod ({ cls := "RockingHorse", name := "again", desc := "(I)Z" } : Jvm.MethodName)) ∈ zTs := zTs_at 1226 (by decide +kernel) (by decide +kernel)
theorem zw1075 : (Jvm.Cond.selects "RockingHorse" ({ cls := "RockingHorse", name := "again", desc := "(I)Z" } : Jvm.MethodName) ({ cls := "RockingHorse", name := "again", desc := "(I)Z" } : Jvm.MethodName)) ∈ zTs := zTs_at 1227 (by decide +kernel) (by decide +kernel)
theorem zw1076 : (Jvm.Cond.code ({ cls := "RockingHorse", name := "again", desc := "(I)Z" } : Jvm.MethodName) prog_1_method_49_code (2 : Nat) (Option.some Jvm.ClassFile.FieldType.boolean)) ∈ zTs := zTs_at 1228 (by decide +kernel) (by decide +kernel)
theorem zw1077 : (Jvm.Cond.methodLink "RockingHorseLaw" (225 : Nat) ({ cls := "RockingHorse", name := "count", desc := "(I)I" } : Jvm.MethodName)) ∈ zTs := zTs_at 1229 (by decide +kernel) (by decide +kernel)
theorem zw1078 : (Jvm.Cond.instanceMethod ({ cls := "RockingHorse", name := "count", desc := "(I)I" } : Jvm.MethodName)) ∈ zTs := zTs_at 1230 (by decide +kernel) (by decide +kernel)
theorem zw1079 : (Jvm.Cond.selects "RockingHorse" ({ cls := "RockingHorse", name := "count", desc := "(I)I" } : Jvm.MethodName) ({ cls := "RockingHorse", name := "count", desc := "(I)I" } : Jvm.MethodName)) ∈ zTs := zTs_at 1231 (by decide +kernel) (by decide +kernel)
theorem zw1080 : (Jvm.Cond.code ({ cls := "RockingHorse", name := "count", desc := "(I)I" } : Jvm.MethodName) prog_1_method_50_code (2 : Nat) (Option.some Jvm.ClassFile.FieldType.int)) ∈ zTs := zTs_at 1232 (by decide +kernel) (by decide +kernel)
theorem zw1165 : (Jvm.Cond.classLink "RockingHorseLaw" (20 : Nat) "RockingHorseModel") ∈ zTs := zTs_at 1317 (by decide +kernel) (by decide +kernel)
theorem zw1166 : (Jvm.Cond.instantiable "RockingHorseModel" (51 : Nat)) ∈ zTs := zTs_at 1318 (by decide +kernel) (by decide +kernel)
theorem zw1167 : (Jvm.Cond.methodLink "RockingHorseLaw" (22 : Nat) ({ cls := "RockingHorseModel", name := "<init>", desc := "()V" } : Jvm.MethodName)) ∈ zTs := zTs_at 1319 (by decide +kernel) (by decide +kernel)
theorem zw1168 : (Jvm.Cond.instanceMethod ({ cls := "RockingHorseModel", name := "<init>", desc := "()V" } : Jvm.MethodName)) ∈ zTs := zTs_at 1320 (by decide +kernel) (by decide +kernel)
theorem zw1169 : (Jvm.Cond.code ({ cls := "RockingHorseModel", name := "<init>", desc := "()V" } : Jvm.MethodName) prog_10_method_1_code (2 : Nat) (Option.none : Option Jvm.ClassFile.FieldType)) ∈ zTs := zTs_at 1321 (by decide +kernel) (by decide +kernel)
theorem zw1326 : (Jvm.Cond.methodLink "RockingHorseLaw" (48 : Nat) ({ cls := "RockingHorseModel", name := "thrown", desc := "()I" } : Jvm.MethodName)) ∈ zTs := zTs_at 1478 (by decide +kernel) (by decide +kernel)
theorem zw1327 : (Jvm.Cond.instanceMethod ({ cls := "RockingHorseModel", name := "thrown", desc := "()I" } : Jvm.MethodName)) ∈ zTs := zTs_at 1479 (by decide +kernel) (by decide +kernel)
theorem zw1328 : (Jvm.Cond.selects "RockingHorseModel" ({ cls := "RockingHorseModel", name := "thrown", desc := "()I" } : Jvm.MethodName) ({ cls := "RockingHorseModel", name := "thrown", desc := "()I" } : Jvm.MethodName)) ∈ zTs := zTs_at 1480 (by decide +kernel) (by decide +kernel)
theorem zw1329 : (Jvm.Cond.code ({ cls := "RockingHorseModel", name := "thrown", desc := "()I" } : Jvm.MethodName) prog_10_method_2_code (1 : Nat) (Option.some Jvm.ClassFile.FieldType.int)) ∈ zTs := zTs_at 1481 (by decide +kernel) (by decide +kernel)
theorem zw1330 : (Jvm.Cond.methodLink "RockingHorseLaw" (27 : Nat) ({ cls := "RockingHorseModel", name := "sign", desc := "(I)I" } : Jvm.MethodName)) ∈ zTs := zTs_at 1482 (by decide +kernel) (by decide +kernel)
theorem zw1331 : (Jvm.Cond.instanceMethod ({ cls := "RockingHorseModel", name := "sign", desc := "(I)I" } : Jvm.MethodName)) ∈ zTs := zTs_at 1483 (by decide +kernel) (by decide +kernel)
theorem zw1332 : (Jvm.Cond.selects "RockingHorseModel" ({ cls := "RockingHorseModel", name := "sign", desc := "(I)I" } : Jvm.MethodName) ({ cls := "RockingHorseModel", name := "sign", desc := "(I)I" } : Jvm.MethodName)) ∈ zTs := zTs_at 1484 (by decide +kernel) (by decide +kernel)
theorem zw1333 : (Jvm.Cond.code ({ cls := "RockingHorseModel", name := "sign", desc := "(I)I" } : Jvm.MethodName) prog_10_method_11_code (3 : Nat) (Option.some Jvm.ClassFile.FieldType.int)) ∈ zTs := zTs_at 1485 (by decide +kernel) (by decide +kernel)
theorem zw1334 : (Jvm.Cond.methodLink "RockingHorseLaw" (32 : Nat) ({ cls := "RockingHorseModel", name := "end", desc := "(I)Z" } : Jvm.MethodName)) ∈ zTs := zTs_at 1486 (by decide +kernel) (by decide +kernel)
theorem zw1335 : (Jvm.Cond.instanceMethod ({ cls := "RockingHorseModel", name := "end", desc := "(I)Z" } : Jvm.MethodName)) ∈ zTs := zTs_at 1487 (by decide +kernel) (by decide +kernel)
theorem zw1336 : (Jvm.Cond.selects "RockingHorseModel" ({ cls := "RockingHorseModel", name := "end", desc := "(I)Z" } : Jvm.MethodName) ({ cls := "RockingHorseModel", name := "end", desc := "(I)Z" } : Jvm.MethodName)) ∈ zTs := zTs_at 1488 (by decide +kernel) (by decide +kernel)
theorem zw1337 : (Jvm.Cond.code ({ cls := "RockingHorseModel", name := "end", desc := "(I)Z" } : Jvm.MethodName) prog_10_method_12_code (2 : Nat) (Option.some Jvm.ClassFile.FieldType.boolean)) ∈ zTs := zTs_at 1489 (by decide +kernel) (by decide +kernel)
theorem zw1341 : (Jvm.Cond.methodLink "RockingHorseLaw" (37 : Nat) ({ cls := "RockingHorseModel", name := "riders", desc := "()I" } : Jvm.MethodName)) ∈ zTs := zTs_at 1493 (by decide +kernel) (by decide +kernel)
theorem zw1342 : (Jvm.Cond.instanceMethod ({ cls := "RockingHorseModel", name := "riders", desc := "()I" } : Jvm.MethodName)) ∈ zTs := zTs_at 1494 (by decide +kernel) (by decide +kernel)
theorem zw1343 : (Jvm.Cond.selects "RockingHorseModel" ({ cls := "RockingHorseModel", name := "riders", desc := "()I" } : Jvm.MethodName) ({ cls := "RockingHorseModel", name := "riders", desc := "()I" } : Jvm.MethodName)) ∈ zTs := zTs_at 1495 (by decide +kernel) (by decide +kernel)
theorem zw1344 : (Jvm.Cond.code ({ cls := "RockingHorseModel", name := "riders", desc := "()I" } : Jvm.MethodName) prog_10_method_24_code (4 : Nat) (Option.some Jvm.ClassFile.FieldType.int)) ∈ zTs := zTs_at 1496 (by decide +kernel) (by decide +kernel)
theorem zw1381 : (Jvm.Cond.methodLink "RockingHorseLaw" (41 : Nat) ({ cls := "RockingHorseModel", name := "rule", desc := "()I" } : Jvm.MethodName)) ∈ zTs := zTs_at 1533 (by decide +kernel) (by decide +kernel)
theorem zw1382 : (Jvm.Cond.instanceMethod ({ cls := "RockingHorseModel", name := "rule", desc := "()I" } : Jvm.MethodName)) ∈ zTs := zTs_at 1534 (by decide +kernel) (by decide +kernel)
theorem zw1383 : (Jvm.Cond.selects "RockingHorseModel" ({ cls := "RockingHorseModel", name := "rule", desc := "()I" } : Jvm.MethodName) ({ cls := "RockingHorseModel", name := "rule", desc := "()I" } : Jvm.MethodName)) ∈ zTs := zTs_at 1535 (by decide +kernel) (by decide +kernel)
theorem zw1384 : (Jvm.Cond.code ({ cls := "RockingHorseModel", name := "rule", desc := "()I" } : Jvm.MethodName) prog_10_method_31_code (3 : Nat) (Option.some Jvm.ClassFile.FieldType.int)) ∈ zTs := zTs_at 1536 (by decide +kernel) (by decide +kernel)
theorem zw1416 : (Jvm.Cond.methodLink "RockingHorseLaw" (47 : Nat) ({ cls := "RockingHorseModel", name := "rider", desc := "(II)I" } : Jvm.MethodName)) ∈ zTs := zTs_at 1568 (by decide +kernel) (by decide +kernel)
theorem zw1417 : (Jvm.Cond.instanceMethod ({ cls := "RockingHorseModel", name := "rider", desc := "(II)I" } : Jvm.MethodName)) ∈ zTs := zTs_at 1569 (by decide +kernel) (by decide +kernel)
theorem zw1418 : (Jvm.Cond.selects "RockingHorseModel" ({ cls := "RockingHorseModel", name := "rider", desc := "(II)I" } : Jvm.MethodName) ({ cls := "RockingHorseModel", name := "rider", desc := "(II)I" } : Jvm.MethodName)) ∈ zTs := zTs_at 1570 (by decide +kernel) (by decide +kernel)
theorem zw1419 : (Jvm.Cond.code ({ cls := "RockingHorseModel", name := "rider", desc := "(II)I" } : Jvm.MethodName) prog_10_method_34_code (3 : Nat) (Option.some Jvm.ClassFile.FieldType.int)) ∈ zTs := zTs_at 1571 (by decide +kernel) (by decide +kernel)
theorem zw1432 : (Jvm.Cond.methodLink "RockingHorseLaw" (54 : Nat) ({ cls := "RockingHorseModel", name := "hard", desc := "(II)I" } : Jvm.MethodName)) ∈ zTs := zTs_at 1584 (by decide +kernel) (by decide +kernel)
theorem zw1433 : (Jvm.Cond.instanceMethod ({ cls := "RockingHorseModel", name := "hard", desc := "(II)I" } : Jvm.MethodName)) ∈ zTs := zTs_at 1585 (by decide +kernel) (by decide +kernel)
theorem zw1434 : (Jvm.Cond.selects "RockingHorseModel" ({ cls := "RockingHorseModel", name := "hard", desc := "(II)I" } : Jvm.MethodName) ({ cls := "RockingHorseModel", name := "hard", desc := "(II)I" } : Jvm.MethodName)) ∈ zTs := zTs_at 1586 (by decide +kernel) (by decide +kernel)
theorem zw1435 : (Jvm.Cond.code ({ cls := "RockingHorseModel", name := "hard", desc := "(II)I" } : Jvm.MethodName) prog_10_method_35_code (3 : Nat) (Option.some Jvm.ClassFile.FieldType.int)) ∈ zTs := zTs_at 1587 (by decide +kernel) (by decide +kernel)
theorem zw1446 : (Jvm.Cond.methodLink "RockingHorseLaw" (58 : Nat) ({ cls := "RockingHorseModel", name := "set", desc := "(II)I" } : Jvm.MethodName)) ∈ zTs := zTs_at 1598 (by decide +kernel) (by decide +kernel)
theorem zw1447 : (Jvm.Cond.instanceMethod ({ cls := "RockingHorseModel", name := "set", desc := "(II)I" } : Jvm.MethodName)) ∈ zTs := zTs_at 1599 (by decide +kernel) (by decide +kernel)
theorem zw1448 : (Jvm.Cond.selects "RockingHorseModel" ({ cls := "RockingHorseModel", name := "set", desc := "(II)I" } : Jvm.MethodName) ({ cls := "RockingHorseModel", name := "set", desc := "(II)I" } : Jvm.MethodName)) ∈ zTs := zTs_at 1600 (by decide +kernel) (by decide +kernel)
theorem zw1449 : (Jvm.Cond.code ({ cls := "RockingHorseModel", name := "set", desc := "(II)I" } : Jvm.MethodName) prog_10_method_36_code (4 : Nat) (Option.some Jvm.ClassFile.FieldType.int)) ∈ zTs := zTs_at 1601 (by decide +kernel) (by decide +kernel)
theorem zw1450 : (Jvm.Cond.methodLink "RockingHorseLaw" (63 : Nat) ({ cls := "RockingHorseModel", name := "sheet", desc := "(IIII)I" } : Jvm.MethodName)) ∈ zTs := zTs_at 1602 (by decide +kernel) (by decide +kernel)
theorem zw1451 : (Jvm.Cond.instanceMethod ({ cls := "RockingHorseModel", name := "sheet", desc := "(IIII)I" } : Jvm.MethodName)) ∈ zTs := zTs_at 1603 (by decide +kernel) (by decide +kernel)
theorem zw1452 : (Jvm.Cond.selects "RockingHorseModel" ({ cls := "RockingHorseModel", name := "sheet", desc := "(IIII)I" } : Jvm.MethodName) ({ cls := "RockingHorseModel", name := "sheet", desc := "(IIII)I" } : Jvm.MethodName)) ∈ zTs := zTs_at 1604 (by decide +kernel) (by decide +kernel)
theorem zw1453 : (Jvm.Cond.code ({ cls := "RockingHorseModel", name := "sheet", desc := "(IIII)I" } : Jvm.MethodName) prog_10_method_37_code (9 : Nat) (Option.some Jvm.ClassFile.FieldType.int)) ∈ zTs := zTs_at 1605 (by decide +kernel) (by decide +kernel)
theorem zw1454 : (Jvm.Cond.methodLink "RockingHorseLaw" (67 : Nat) ({ cls := "RockingHorseModel", name := "rota", desc := "()I" } : Jvm.MethodName)) ∈ zTs := zTs_at 1606 (by decide +kernel) (by decide +kernel)
theorem zw1455 : (Jvm.Cond.instanceMethod ({ cls := "RockingHorseModel", name := "rota", desc := "()I" } : Jvm.MethodName)) ∈ zTs := zTs_at 1607 (by decide +kernel) (by decide +kernel)
theorem zw1456 : (Jvm.Cond.selects "RockingHorseModel" ({ cls := "RockingHorseModel", name := "rota", desc := "()I" } : Jvm.MethodName) ({ cls := "RockingHorseModel", name := "rota", desc := "()I" } : Jvm.MethodName)) ∈ zTs := zTs_at 1608 (by decide +kernel) (by decide +kernel)
theorem zw1457 : (Jvm.Cond.code ({ cls := "RockingHorseModel", name := "rota", desc := "()I" } : Jvm.MethodName) prog_10_method_40_code (3 : Nat) (Option.some Jvm.ClassFile.FieldType.int)) ∈ zTs := zTs_at 1609 (by decide +kernel) (by decide +kernel)
theorem zw1465 : (Jvm.Cond.methodLink "RockingHorseLaw" (71 : Nat) ({ cls := "RockingHorseModel", name := "give", desc := "(II)I" } : Jvm.MethodName)) ∈ zTs := zTs_at 1617 (by decide +kernel) (by decide +kernel)
theorem zw1466 : (Jvm.Cond.instanceMethod ({ cls := "RockingHorseModel", name := "give", desc := "(II)I" } : Jvm.MethodName)) ∈ zTs := zTs_at 1618 (by decide +kernel) (by decide +kernel)
theorem zw1467 : (Jvm.Cond.selects "RockingHorseModel" ({ cls := "RockingHorseModel", name := "give", desc := "(II)I" } : Jvm.MethodName) ({ cls := "RockingHorseModel", name := "give", desc := "(II)I" } : Jvm.MethodName)) ∈ zTs := zTs_at 1619 (by decide +kernel) (by decide +kernel)
theorem zw1468 : (Jvm.Cond.code ({ cls := "RockingHorseModel", name := "give", desc := "(II)I" } : Jvm.MethodName) prog_10_method_42_code (4 : Nat) (Option.some Jvm.ClassFile.FieldType.int)) ∈ zTs := zTs_at 1620 (by decide +kernel) (by decide +kernel)
theorem zw1473 : (Jvm.Cond.methodLink "RockingHorseLaw" (75 : Nat) ({ cls := "RockingHorseModel", name := "ill", desc := "(I)I" } : Jvm.MethodName)) ∈ zTs := zTs_at 1625 (by decide +kernel) (by decide +kernel)
theorem zw1474 : (Jvm.Cond.instanceMethod ({ cls := "RockingHorseModel", name := "ill", desc := "(I)I" } : Jvm.MethodName)) ∈ zTs := zTs_at 1626 (by decide +kernel) (by decide +kernel)
theorem zw1475 : (Jvm.Cond.selects "RockingHorseModel" ({ cls := "RockingHorseModel", name := "ill", desc := "(I)I" } : Jvm.MethodName) ({ cls := "RockingHorseModel", name := "ill", desc := "(I)I" } : Jvm.MethodName)) ∈ zTs := zTs_at 1627 (by decide +kernel) (by decide +kernel)
theorem zw1476 : (Jvm.Cond.code ({ cls := "RockingHorseModel", name := "ill", desc := "(I)I" } : Jvm.MethodName) prog_10_method_44_code (2 : Nat) (Option.some Jvm.ClassFile.FieldType.int)) ∈ zTs := zTs_at 1628 (by decide +kernel) (by decide +kernel)
theorem zw1481 : (Jvm.Cond.methodLink "RockingHorseLaw" (79 : Nat) ({ cls := "RockingHorseModel", name := "nights", desc := "(I)I" } : Jvm.MethodName)) ∈ zTs := zTs_at 1633 (by decide +kernel) (by decide +kernel)
theorem zw1482 : (Jvm.Cond.instanceMethod ({ cls := "RockingHorseModel", name := "nights", desc := "(I)I" } : Jvm.MethodName)) ∈ zTs := zTs_at 1634 (by decide +kernel) (by decide +kernel)
theorem zw1483 : (Jvm.Cond.selects "RockingHorseModel" ({ cls := "RockingHorseModel", name := "nights", desc := "(I)I" } : Jvm.MethodName) ({ cls := "RockingHorseModel", name := "nights", desc := "(I)I" } : Jvm.MethodName)) ∈ zTs := zTs_at 1635 (by decide +kernel) (by decide +kernel)
theorem zw1484 : (Jvm.Cond.code ({ cls := "RockingHorseModel", name := "nights", desc := "(I)I" } : Jvm.MethodName) prog_10_method_48_code (4 : Nat) (Option.some Jvm.ClassFile.FieldType.int)) ∈ zTs := zTs_at 1636 (by decide +kernel) (by decide +kernel)
theorem zw1505 : (Jvm.Cond.methodLink "RockingHorseLaw" (83 : Nat) ({ cls := "RockingHorseModel", name := "year", desc := "()I" } : Jvm.MethodName)) ∈ zTs := zTs_at 1657 (by decide +kernel) (by decide +kernel)
theorem zw1506 : (Jvm.Cond.instanceMethod ({ cls := "RockingHorseModel", name := "year", desc := "()I" } : Jvm.MethodName)) ∈ zTs := zTs_at 1658 (by decide +kernel) (by decide +kernel)
theorem zw1507 : (Jvm.Cond.selects "RockingHorseModel" ({ cls := "RockingHorseModel", name := "year", desc := "()I" } : Jvm.MethodName) ({ cls := "RockingHorseModel", name := "year", desc := "()I" } : Jvm.MethodName)) ∈ zTs := zTs_at 1659 (by decide +kernel) (by decide +kernel)
theorem zw1508 : (Jvm.Cond.code ({ cls := "RockingHorseModel", name := "year", desc := "()I" } : Jvm.MethodName) prog_10_method_50_code (3 : Nat) (Option.some Jvm.ClassFile.FieldType.int)) ∈ zTs := zTs_at 1660 (by decide +kernel) (by decide +kernel)
theorem zw1525 : (Jvm.Cond.methodLink "RockingHorseLaw" (87 : Nat) ({ cls := "RockingHorseModel", name := "undo", desc := "()I" } : Jvm.MethodName)) ∈ zTs := zTs_at 1677 (by decide +kernel) (by decide +kernel)
theorem zw1526 : (Jvm.Cond.instanceMethod ({ cls := "RockingHorseModel", name := "undo", desc := "()I" } : Jvm.MethodName)) ∈ zTs := zTs_at 1678 (by decide +kernel) (by decide +kernel)
theorem zw1527 : (Jvm.Cond.selects "RockingHorseModel" ({ cls := "RockingHorseModel", name := "undo", desc := "()I" } : Jvm.MethodName) ({ cls := "RockingHorseModel", name := "undo", desc := "()I" } : Jvm.MethodName)) ∈ zTs := zTs_at 1679 (by decide +kernel) (by decide +kernel)
theorem zw1528 : (Jvm.Cond.code ({ cls := "RockingHorseModel", name := "undo", desc := "()I" } : Jvm.MethodName) prog_10_method_53_code (2 : Nat) (Option.some Jvm.ClassFile.FieldType.int)) ∈ zTs := zTs_at 1680 (by decide +kernel) (by decide +kernel)
theorem zw1529 : (Jvm.Cond.methodLink "RockingHorseLaw" (91 : Nat) ({ cls := "RockingHorseModel", name := "gaps", desc := "()I" } : Jvm.MethodName)) ∈ zTs := zTs_at 1681 (by decide +kernel) (by decide +kernel)
theorem zw1530 : (Jvm.Cond.instanceMethod ({ cls := "RockingHorseModel", name := "gaps", desc := "()I" } : Jvm.MethodName)) ∈ zTs := zTs_at 1682 (by decide +kernel) (by decide +kernel)
theorem zw1531 : (Jvm.Cond.selects "RockingHorseModel" ({ cls := "RockingHorseModel", name := "gaps", desc := "()I" } : Jvm.MethodName) ({ cls := "RockingHorseModel", name := "gaps", desc := "()I" } : Jvm.MethodName)) ∈ zTs := zTs_at 1683 (by decide +kernel) (by decide +kernel)
theorem zw1532 : (Jvm.Cond.code ({ cls := "RockingHorseModel", name := "gaps", desc := "()I" } : Jvm.MethodName) prog_10_method_54_code (1 : Nat) (Option.some Jvm.ClassFile.FieldType.int)) ∈ zTs := zTs_at 1684 (by decide +kernel) (by decide +kernel)
theorem zw1533 : (Jvm.Cond.methodLink "RockingHorseLaw" (95 : Nat) ({ cls := "RockingHorseModel", name := "first", desc := "(I)I" } : Jvm.MethodName)) ∈ zTs := zTs_at 1685 (by decide +kernel) (by decide +kernel)
theorem zw1534 : (Jvm.Cond.instanceMethod ({ cls := "RockingHorseModel", name := "first", desc := "(I)I" } : Jvm.MethodName)) ∈ zTs := zTs_at 1686 (by decide +kernel) (by decide +kernel)
theorem zw1535 : (Jvm.Cond.selects "RockingHorseModel" ({ cls := "RockingHorseModel", name := "first", desc := "(I)I" } : Jvm.MethodName) ({ cls := "RockingHorseModel", name := "first", desc := "(I)I" } : Jvm.MethodName)) ∈ zTs := zTs_at 1687 (by decide +kernel) (by decide +kernel)
theorem zw1536 : (Jvm.Cond.code ({ cls := "RockingHorseModel", name := "first", desc := "(I)I" } : Jvm.MethodName) prog_10_method_55_code (3 : Nat) (Option.some Jvm.ClassFile.FieldType.int)) ∈ zTs := zTs_at 1688 (by decide +kernel) (by decide +kernel)
theorem zw1541 : (Jvm.Cond.methodLink "RockingHorseLaw" (99 : Nat) ({ cls := "RockingHorseModel", name := "later", desc := "(I)I" } : Jvm.MethodName)) ∈ zTs := zTs_at 1693 (by decide +kernel) (by decide +kernel)
theorem zw1542 : (Jvm.Cond.instanceMethod ({ cls := "RockingHorseModel", name := "later", desc := "(I)I" } : Jvm.MethodName)) ∈ zTs := zTs_at 1694 (by decide +kernel) (by decide +kernel)
theorem zw1543 : (Jvm.Cond.selects "RockingHorseModel" ({ cls := "RockingHorseModel", name := "later", desc := "(I)I" } : Jvm.MethodName) ({ cls := "RockingHorseModel", name := "later", desc := "(I)I" } : Jvm.MethodName)) ∈ zTs := zTs_at 1695 (by decide +kernel) (by decide +kernel)
theorem zw1544 : (Jvm.Cond.code ({ cls := "RockingHorseModel", name := "later", desc := "(I)I" } : Jvm.MethodName) prog_10_method_56_code (4 : Nat) (Option.some Jvm.ClassFile.FieldType.int)) ∈ zTs := zTs_at 1696 (by decide +kernel) (by decide +kernel)
theorem zw1545 : (Jvm.Cond.methodLink "RockingHorseLaw" (103 : Nat) ({ cls := "RockingHorseModel", name := "vigil", desc := "(I)I" } : Jvm.MethodName)) ∈ zTs := zTs_at 1697 (by decide +kernel) (by decide +kernel)
theorem zw1546 : (Jvm.Cond.instanceMethod ({ cls := "RockingHorseModel", name := "vigil", desc := "(I)I" } : Jvm.MethodName)) ∈ zTs := zTs_at 1698 (by decide +kernel) (by decide +kernel)
theorem zw1547 : (Jvm.Cond.selects "RockingHorseModel" ({ cls := "RockingHorseModel", name := "vigil", desc := "(I)I" } : Jvm.MethodName) ({ cls := "RockingHorseModel", name := "vigil", desc := "(I)I" } : Jvm.MethodName)) ∈ zTs := zTs_at 1699 (by decide +kernel) (by decide +kernel)
theorem zw1548 : (Jvm.Cond.code ({ cls := "RockingHorseModel", name := "vigil", desc := "(I)I" } : Jvm.MethodName) prog_10_method_57_code (6 : Nat) (Option.some Jvm.ClassFile.FieldType.int)) ∈ zTs := zTs_at 1700 (by decide +kernel) (by decide +kernel)
theorem zw1549 : (Jvm.Cond.methodLink "RockingHorseLaw" (107 : Nat) ({ cls := "RockingHorseModel", name := "trade", desc := "()I" } : Jvm.MethodName)) ∈ zTs := zTs_at 1701 (by decide +kernel) (by decide +kernel)
theorem zw1550 : (Jvm.Cond.instanceMethod ({ cls := "RockingHorseModel", name := "trade", desc := "()I" } : Jvm.MethodName)) ∈ zTs := zTs_at 1702 (by decide +kernel) (by decide +kernel)
theorem zw1551 : (Jvm.Cond.selects "RockingHorseModel" ({ cls := "RockingHorseModel", name := "trade", desc := "()I" } : Jvm.MethodName) ({ cls := "RockingHorseModel", name := "trade", desc := "()I" } : Jvm.MethodName)) ∈ zTs := zTs_at 1703 (by decide +kernel) (by decide +kernel)
theorem zw1552 : (Jvm.Cond.code ({ cls := "RockingHorseModel", name := "trade", desc := "()I" } : Jvm.MethodName) prog_10_method_58_code (6 : Nat) (Option.some Jvm.ClassFile.FieldType.int)) ∈ zTs := zTs_at 1704 (by decide +kernel) (by decide +kernel)
theorem zw1553 : (Jvm.Cond.methodLink "RockingHorseLaw" (111 : Nat) ({ cls := "RockingHorseModel", name := "easiest", desc := "()I" } : Jvm.MethodName)) ∈ zTs := zTs_at 1705 (by decide +kernel) (by decide +kernel)
theorem zw1554 : (Jvm.Cond.instanceMethod ({ cls := "RockingHorseModel", name := "easiest", desc := "()I" } : Jvm.MethodName)) ∈ zTs := zTs_at 1706 (by decide +kernel) (by decide +kernel)
theorem zw1555 : (Jvm.Cond.selects "RockingHorseModel" ({ cls := "RockingHorseModel", name := "easiest", desc := "()I" } : Jvm.MethodName) ({ cls := "RockingHorseModel", name := "easiest", desc := "()I" } : Jvm.MethodName)) ∈ zTs := zTs_at 1707 (by decide +kernel) (by decide +kernel)
theorem zw1556 : (Jvm.Cond.code ({ cls := "RockingHorseModel", name := "easiest", desc := "()I" } : Jvm.MethodName) prog_10_method_72_code (2 : Nat) (Option.some Jvm.ClassFile.FieldType.int)) ∈ zTs := zTs_at 1708 (by decide +kernel) (by decide +kernel)
theorem zw1609 : (Jvm.Cond.methodLink "RockingHorseLaw" (115 : Nat) ({ cls := "RockingHorseModel", name := "fewest", desc := "()I" } : Jvm.MethodName)) ∈ zTs := zTs_at 1761 (by decide +kernel) (by decide +kernel)
theorem zw1610 : (Jvm.Cond.instanceMethod ({ cls := "RockingHorseModel", name := "fewest", desc := "()I" } : Jvm.MethodName)) ∈ zTs := zTs_at 1762 (by decide +kernel) (by decide +kernel)
theorem zw1611 : (Jvm.Cond.selects "RockingHorseModel" ({ cls := "RockingHorseModel", name := "fewest", desc := "()I" } : Jvm.MethodName) ({ cls := "RockingHorseModel", name := "fewest", desc := "()I" } : Jvm.MethodName)) ∈ zTs := zTs_at 1763 (by decide +kernel) (by decide +kernel)
theorem zw1612 : (Jvm.Cond.code ({ cls := "RockingHorseModel", name := "fewest", desc := "()I" } : Jvm.MethodName) prog_10_method_74_code (3 : Nat) (Option.some Jvm.ClassFile.FieldType.int)) ∈ zTs := zTs_at 1764 (by decide +kernel) (by decide +kernel)
theorem zw1617 : (Jvm.Cond.methodLink "RockingHorseLaw" (119 : Nat) ({ cls := "RockingHorseModel", name := "bare", desc := "()I" } : Jvm.MethodName)) ∈ zTs := zTs_at 1769 (by decide +kernel) (by decide +kernel)
theorem zw1618 : (Jvm.Cond.instanceMethod ({ cls := "RockingHorseModel", name := "bare", desc := "()I" } : Jvm.MethodName)) ∈ zTs := zTs_at 1770 (by decide +kernel) (by decide +kernel)
theorem zw1619 : (Jvm.Cond.selects "RockingHorseModel" ({ cls := "RockingHorseModel", name := "bare", desc := "()I" } : Jvm.MethodName) ({ cls := "RockingHorseModel", name := "bare", desc := "()I" } : Jvm.MethodName)) ∈ zTs := zTs_at 1771 (by decide +kernel) (by decide +kernel)
theorem zw1620 : (Jvm.Cond.code ({ cls := "RockingHorseModel", name := "bare", desc := "()I" } : Jvm.MethodName) prog_10_method_75_code (3 : Nat) (Option.some Jvm.ClassFile.FieldType.int)) ∈ zTs := zTs_at 1772 (by decide +kernel) (by decide +kernel)
theorem zw1621 : (Jvm.Cond.methodLink "RockingHorseLaw" (123 : Nat) ({ cls := "RockingHorseModel", name := "rotas", desc := "()I" } : Jvm.MethodName)) ∈ zTs := zTs_at 1773 (by decide +kernel) (by decide +kernel)
theorem zw1622 : (Jvm.Cond.instanceMethod ({ cls := "RockingHorseModel", name := "rotas", desc := "()I" } : Jvm.MethodName)) ∈ zTs := zTs_at 1774 (by decide +kernel) (by decide +kernel)
theorem zw1623 : (Jvm.Cond.selects "RockingHorseModel" ({ cls := "RockingHorseModel", name := "rotas", desc := "()I" } : Jvm.MethodName) ({ cls := "RockingHorseModel", name := "rotas", desc := "()I" } : Jvm.MethodName)) ∈ zTs := zTs_at 1775 (by decide +kernel) (by decide +kernel)
theorem zw1624 : (Jvm.Cond.code ({ cls := "RockingHorseModel", name := "rotas", desc := "()I" } : Jvm.MethodName) prog_10_method_77_code (1 : Nat) (Option.some Jvm.ClassFile.FieldType.int)) ∈ zTs := zTs_at 1776 (by decide +kernel) (by decide +kernel)
theorem zw1633 : (Jvm.Cond.methodLink "RockingHorseLaw" (127 : Nat) ({ cls := "RockingHorseModel", name := "mended", desc := "(I)I" } : Jvm.MethodName)) ∈ zTs := zTs_at 1785 (by decide +kernel) (by decide +kernel)
theorem zw1634 : (Jvm.Cond.instanceMethod ({ cls := "RockingHorseModel", name := "mended", desc := "(I)I" } : Jvm.MethodName)) ∈ zTs := zTs_at 1786 (by decide +kernel) (by decide +kernel)
theorem zw1635 : (Jvm.Cond.selects "RockingHorseModel" ({ cls := "RockingHorseModel", name := "mended", desc := "(I)I" } : Jvm.MethodName) ({ cls := "RockingHorseModel", name := "mended", desc := "(I)I" } : Jvm.MethodName)) ∈ zTs := zTs_at 1787 (by decide +kernel) (by decide +kernel)
theorem zw1636 : (Jvm.Cond.code ({ cls := "RockingHorseModel", name := "mended", desc := "(I)I" } : Jvm.MethodName) prog_10_method_78_code (3 : Nat) (Option.some Jvm.ClassFile.FieldType.int)) ∈ zTs := zTs_at 1788 (by decide +kernel) (by decide +kernel)
theorem zw1637 : (Jvm.Cond.methodLink "RockingHorseLaw" (131 : Nat) ({ cls := "RockingHorseModel", name := "takes", desc := "()I" } : Jvm.MethodName)) ∈ zTs := zTs_at 1789 (by decide +kernel) (by decide +kernel)
theorem zw1638 : (Jvm.Cond.instanceMethod ({ cls := "RockingHorseModel", name := "takes", desc := "()I" } : Jvm.MethodName)) ∈ zTs := zTs_at 1790 (by decide +kernel) (by decide +kernel)
theorem zw1639 : (Jvm.Cond.selects "RockingHorseModel" ({ cls := "RockingHorseModel", name := "takes", desc := "()I" } : Jvm.MethodName) ({ cls := "RockingHorseModel", name := "takes", desc := "()I" } : Jvm.MethodName)) ∈ zTs := zTs_at 1791 (by decide +kernel) (by decide +kernel)
theorem zw1640 : (Jvm.Cond.code ({ cls := "RockingHorseModel", name := "takes", desc := "()I" } : Jvm.MethodName) prog_10_method_79_code (4 : Nat) (Option.some Jvm.ClassFile.FieldType.int)) ∈ zTs := zTs_at 1792 (by decide +kernel) (by decide +kernel)
theorem zw1641 : (Jvm.Cond.methodLink "RockingHorseLaw" (135 : Nat) ({ cls := "RockingHorseModel", name := "missed", desc := "(I)I" } : Jvm.MethodName)) ∈ zTs := zTs_at 1793 (by decide +kernel) (by decide +kernel)
theorem zw1642 : (Jvm.Cond.instanceMethod ({ cls := "RockingHorseModel", name := "missed", desc := "(I)I" } : Jvm.MethodName)) ∈ zTs := zTs_at 1794 (by decide +kernel) (by decide +kernel)
theorem zw1643 : (Jvm.Cond.selects "RockingHorseModel" ({ cls := "RockingHorseModel", name := "missed", desc := "(I)I" } : Jvm.MethodName) ({ cls := "RockingHorseModel", name := "missed", desc := "(I)I" } : Jvm.MethodName)) ∈ zTs := zTs_at 1795 (by decide +kernel) (by decide +kernel)
theorem zw1644 : (Jvm.Cond.code ({ cls := "RockingHorseModel", name := "missed", desc := "(I)I" } : Jvm.MethodName) prog_10_method_80_code (4 : Nat) (Option.some Jvm.ClassFile.FieldType.int)) ∈ zTs := zTs_at 1796 (by decide +kernel) (by decide +kernel)
theorem zw1645 : (Jvm.Cond.methodLink "RockingHorseLaw" (139 : Nat) ({ cls := "RockingHorseModel", name := "paid", desc := "(I)I" } : Jvm.MethodName)) ∈ zTs := zTs_at 1797 (by decide +kernel) (by decide +kernel)
theorem zw1646 : (Jvm.Cond.instanceMethod ({ cls := "RockingHorseModel", name := "paid", desc := "(I)I" } : Jvm.MethodName)) ∈ zTs := zTs_at 1798 (by decide +kernel) (by decide +kernel)
theorem zw1647 : (Jvm.Cond.selects "RockingHorseModel" ({ cls := "RockingHorseModel", name := "paid", desc := "(I)I" } : Jvm.MethodName) ({ cls := "RockingHorseModel", name := "paid", desc := "(I)I" } : Jvm.MethodName)) ∈ zTs := zTs_at 1799 (by decide +kernel) (by decide +kernel)
theorem zw1648 : (Jvm.Cond.code ({ cls := "RockingHorseModel", name := "paid", desc := "(I)I" } : Jvm.MethodName) prog_10_method_81_code (6 : Nat) (Option.some Jvm.ClassFile.FieldType.int)) ∈ zTs := zTs_at 1800 (by decide +kernel) (by decide +kernel)
theorem zw1649 : (Jvm.Cond.methodLink "RockingHorseLaw" (143 : Nat) ({ cls := "RockingHorseModel", name := "fairest", desc := "()I" } : Jvm.MethodName)) ∈ zTs := zTs_at 1801 (by decide +kernel) (by decide +kernel)
theorem zw1650 : (Jvm.Cond.instanceMethod ({ cls := "RockingHorseModel", name := "fairest", desc := "()I" } : Jvm.MethodName)) ∈ zTs := zTs_at 1802 (by decide +kernel) (by decide +kernel)
theorem zw1651 : (Jvm.Cond.selects "RockingHorseModel" ({ cls := "RockingHorseModel", name := "fairest", desc := "()I" } : Jvm.MethodName) ({ cls := "RockingHorseModel", name := "fairest", desc := "()I" } : Jvm.MethodName)) ∈ zTs := zTs_at 1803 (by decide +kernel) (by decide +kernel)
theorem zw1652 : (Jvm.Cond.code ({ cls := "RockingHorseModel", name := "fairest", desc := "()I" } : Jvm.MethodName) prog_10_method_82_code (4 : Nat) (Option.some Jvm.ClassFile.FieldType.int)) ∈ zTs := zTs_at 1804 (by decide +kernel) (by decide +kernel)
theorem zw1653 : (Jvm.Cond.methodLink "RockingHorseLaw" (147 : Nat) ({ cls := "RockingHorseModel", name := "away", desc := "()I" } : Jvm.MethodName)) ∈ zTs := zTs_at 1805 (by decide +kernel) (by decide +kernel)
theorem zw1654 : (Jvm.Cond.instanceMethod ({ cls := "RockingHorseModel", name := "away", desc := "()I" } : Jvm.MethodName)) ∈ zTs := zTs_at 1806 (by decide +kernel) (by decide +kernel)
theorem zw1655 : (Jvm.Cond.selects "RockingHorseModel" ({ cls := "RockingHorseModel", name := "away", desc := "()I" } : Jvm.MethodName) ({ cls := "RockingHorseModel", name := "away", desc := "()I" } : Jvm.MethodName)) ∈ zTs := zTs_at 1807 (by decide +kernel) (by decide +kernel)
theorem zw1656 : (Jvm.Cond.code ({ cls := "RockingHorseModel", name := "away", desc := "()I" } : Jvm.MethodName) prog_10_method_83_code (4 : Nat) (Option.some Jvm.ClassFile.FieldType.int)) ∈ zTs := zTs_at 1808 (by decide +kernel) (by decide +kernel)
theorem zw1657 : (Jvm.Cond.methodLink "RockingHorseLaw" (151 : Nat) ({ cls := "RockingHorseModel", name := "able", desc := "(I)I" } : Jvm.MethodName)) ∈ zTs := zTs_at 1809 (by decide +kernel) (by decide +kernel)
theorem zw1658 : (Jvm.Cond.instanceMethod ({ cls := "RockingHorseModel", name := "able", desc := "(I)I" } : Jvm.MethodName)) ∈ zTs := zTs_at 1810 (by decide +kernel) (by decide +kernel)
theorem zw1659 : (Jvm.Cond.selects "RockingHorseModel" ({ cls := "RockingHorseModel", name := "able", desc := "(I)I" } : Jvm.MethodName) ({ cls := "RockingHorseModel", name := "able", desc := "(I)I" } : Jvm.MethodName)) ∈ zTs := zTs_at 1811 (by decide +kernel) (by decide +kernel)
theorem zw1660 : (Jvm.Cond.code ({ cls := "RockingHorseModel", name := "able", desc := "(I)I" } : Jvm.MethodName) prog_10_method_84_code (6 : Nat) (Option.some Jvm.ClassFile.FieldType.int)) ∈ zTs := zTs_at 1812 (by decide +kernel) (by decide +kernel)
theorem zw1661 : (Jvm.Cond.methodLink "RockingHorseLaw" (155 : Nat) ({ cls := "RockingHorseModel", name := "spent", desc := "(I)I" } : Jvm.MethodName)) ∈ zTs := zTs_at 1813 (by decide +kernel) (by decide +kernel)
theorem zw1662 : (Jvm.Cond.instanceMethod ({ cls := "RockingHorseModel", name := "spent", desc := "(I)I" } : Jvm.MethodName)) ∈ zTs := zTs_at 1814 (by decide +kernel) (by decide +kernel)
theorem zw1663 : (Jvm.Cond.selects "RockingHorseModel" ({ cls := "RockingHorseModel", name := "spent", desc := "(I)I" } : Jvm.MethodName) ({ cls := "RockingHorseModel", name := "spent", desc := "(I)I" } : Jvm.MethodName)) ∈ zTs := zTs_at 1815 (by decide +kernel) (by decide +kernel)
theorem zw1664 : (Jvm.Cond.code ({ cls := "RockingHorseModel", name := "spent", desc := "(I)I" } : Jvm.MethodName) prog_10_method_85_code (6 : Nat) (Option.some Jvm.ClassFile.FieldType.int)) ∈ zTs := zTs_at 1816 (by decide +kernel) (by decide +kernel)
theorem zw1665 : (Jvm.Cond.methodLink "RockingHorseLaw" (159 : Nat) ({ cls := "RockingHorseModel", name := "shared", desc := "(II)I" } : Jvm.MethodName)) ∈ zTs := zTs_at 1817 (by decide +kernel) (by decide +kernel)
theorem zw1666 : (Jvm.Cond.instanceMethod ({ cls := "RockingHorseModel", name := "shared", desc := "(II)I" } : Jvm.MethodName)) ∈ zTs := zTs_at 1818 (by decide +kernel) (by decide +kernel)
theorem zw1667 : (Jvm.Cond.selects "RockingHorseModel" ({ cls := "RockingHorseModel", name := "shared", desc := "(II)I" } : Jvm.MethodName) ({ cls := "RockingHorseModel", name := "shared", desc := "(II)I" } : Jvm.MethodName)) ∈ zTs := zTs_at 1819 (by decide +kernel) (by decide +kernel)
theorem zw1668 : (Jvm.Cond.code ({ cls := "RockingHorseModel", name := "shared", desc := "(II)I" } : Jvm.MethodName) prog_10_method_86_code (3 : Nat) (Option.some Jvm.ClassFile.FieldType.int)) ∈ zTs := zTs_at 1820 (by decide +kernel) (by decide +kernel)
theorem zw1669 : (Jvm.Cond.methodLink "RockingHorseLaw" (163 : Nat) ({ cls := "RockingHorseModel", name := "thin", desc := "()I" } : Jvm.MethodName)) ∈ zTs := zTs_at 1821 (by decide +kernel) (by decide +kernel)
theorem zw1670 : (Jvm.Cond.instanceMethod ({ cls := "RockingHorseModel", name := "thin", desc := "()I" } : Jvm.MethodName)) ∈ zTs := zTs_at 1822 (by decide +kernel) (by decide +kernel)
theorem zw1671 : (Jvm.Cond.selects "RockingHorseModel" ({ cls := "RockingHorseModel", name := "thin", desc := "()I" } : Jvm.MethodName) ({ cls := "RockingHorseModel", name := "thin", desc := "()I" } : Jvm.MethodName)) ∈ zTs := zTs_at 1823 (by decide +kernel) (by decide +kernel)
theorem zw1672 : (Jvm.Cond.code ({ cls := "RockingHorseModel", name := "thin", desc := "()I" } : Jvm.MethodName) prog_10_method_88_code (3 : Nat) (Option.some Jvm.ClassFile.FieldType.int)) ∈ zTs := zTs_at 1824 (by decide +kernel) (by decide +kernel)
theorem zw1677 : (Jvm.Cond.methodLink "RockingHorseLaw" (167 : Nat) ({ cls := "RockingHorseModel", name := "changes", desc := "()I" } : Jvm.MethodName)) ∈ zTs := zTs_at 1829 (by decide +kernel) (by decide +kernel)
theorem zw1678 : (Jvm.Cond.instanceMethod ({ cls := "RockingHorseModel", name := "changes", desc := "()I" } : Jvm.MethodName)) ∈ zTs := zTs_at 1830 (by decide +kernel) (by decide +kernel)
theorem zw1679 : (Jvm.Cond.selects "RockingHorseModel" ({ cls := "RockingHorseModel", name := "changes", desc := "()I" } : Jvm.MethodName) ({ cls := "RockingHorseModel", name := "changes", desc := "()I" } : Jvm.MethodName)) ∈ zTs := zTs_at 1831 (by decide +kernel) (by decide +kernel)
theorem zw1680 : (Jvm.Cond.code ({ cls := "RockingHorseModel", name := "changes", desc := "()I" } : Jvm.MethodName) prog_10_method_89_code (8 : Nat) (Option.some Jvm.ClassFile.FieldType.int)) ∈ zTs := zTs_at 1832 (by decide +kernel) (by decide +kernel)
theorem zw1681 : (Jvm.Cond.methodLink "RockingHorseLaw" (171 : Nat) ({ cls := "RockingHorseModel", name := "smoothest", desc := "()I" } : Jvm.MethodName)) ∈ zTs := zTs_at 1833 (by decide +kernel) (by decide +kernel)
theorem zw1682 : (Jvm.Cond.instanceMethod ({ cls := "RockingHorseModel", name := "smoothest", desc := "()I" } : Jvm.MethodName)) ∈ zTs := zTs_at 1834 (by decide +kernel) (by decide +kernel)
theorem zw1683 : (Jvm.Cond.selects "RockingHorseModel" ({ cls := "RockingHorseModel", name := "smoothest", desc := "()I" } : Jvm.MethodName) ({ cls := "RockingHorseModel", name := "smoothest", desc := "()I" } : Jvm.MethodName)) ∈ zTs := zTs_at 1835 (by decide +kernel) (by decide +kernel)
theorem zw1684 : (Jvm.Cond.code ({ cls := "RockingHorseModel", name := "smoothest", desc := "()I" } : Jvm.MethodName) prog_10_method_91_code (2 : Nat) (Option.some Jvm.ClassFile.FieldType.int)) ∈ zTs := zTs_at 1836 (by decide +kernel) (by decide +kernel)
theorem zw1689 : (Jvm.Cond.methodLink "RockingHorseLaw" (176 : Nat) ({ cls := "RockingHorseModel", name := "meets", desc := "(III)I" } : Jvm.MethodName)) ∈ zTs := zTs_at 1841 (by decide +kernel) (by decide +kernel)
theorem zw1690 : (Jvm.Cond.instanceMethod ({ cls := "RockingHorseModel", name := "meets", desc := "(III)I" } : Jvm.MethodName)) ∈ zTs := zTs_at 1842 (by decide +kernel) (by decide +kernel)
theorem zw1691 : (Jvm.Cond.selects "RockingHorseModel" ({ cls := "RockingHorseModel", name := "meets", desc := "(III)I" } : Jvm.MethodName) ({ cls := "RockingHorseModel", name := "meets", desc := "(III)I" } : Jvm.MethodName)) ∈ zTs := zTs_at 1843 (by decide +kernel) (by decide +kernel)
theorem zw1692 : (Jvm.Cond.code ({ cls := "RockingHorseModel", name := "meets", desc := "(III)I" } : Jvm.MethodName) prog_10_method_92_code (7 : Nat) (Option.some Jvm.ClassFile.FieldType.int)) ∈ zTs := zTs_at 1844 (by decide +kernel) (by decide +kernel)
theorem zw1693 : (Jvm.Cond.methodLink "RockingHorseLaw" (180 : Nat) ({ cls := "RockingHorseModel", name := "found", desc := "(III)I" } : Jvm.MethodName)) ∈ zTs := zTs_at 1845 (by decide +kernel) (by decide +kernel)
theorem zw1694 : (Jvm.Cond.instanceMethod ({ cls := "RockingHorseModel", name := "found", desc := "(III)I" } : Jvm.MethodName)) ∈ zTs := zTs_at 1846 (by decide +kernel) (by decide +kernel)
theorem zw1695 : (Jvm.Cond.selects "RockingHorseModel" ({ cls := "RockingHorseModel", name := "found", desc := "(III)I" } : Jvm.MethodName) ({ cls := "RockingHorseModel", name := "found", desc := "(III)I" } : Jvm.MethodName)) ∈ zTs := zTs_at 1847 (by decide +kernel) (by decide +kernel)
theorem zw1696 : (Jvm.Cond.code ({ cls := "RockingHorseModel", name := "found", desc := "(III)I" } : Jvm.MethodName) prog_10_method_93_code (4 : Nat) (Option.some Jvm.ClassFile.FieldType.int)) ∈ zTs := zTs_at 1848 (by decide +kernel) (by decide +kernel)
theorem zw1697 : (Jvm.Cond.methodLink "RockingHorseLaw" (184 : Nat) ({ cls := "RockingHorseModel", name := "forget", desc := "()I" } : Jvm.MethodName)) ∈ zTs := zTs_at 1849 (by decide +kernel) (by decide +kernel)
theorem zw1698 : (Jvm.Cond.instanceMethod ({ cls := "RockingHorseModel", name := "forget", desc := "()I" } : Jvm.MethodName)) ∈ zTs := zTs_at 1850 (by decide +kernel) (by decide +kernel)
theorem zw1699 : (Jvm.Cond.selects "RockingHorseModel" ({ cls := "RockingHorseModel", name := "forget", desc := "()I" } : Jvm.MethodName) ({ cls := "RockingHorseModel", name := "forget", desc := "()I" } : Jvm.MethodName)) ∈ zTs := zTs_at 1851 (by decide +kernel) (by decide +kernel)
theorem zw1700 : (Jvm.Cond.code ({ cls := "RockingHorseModel", name := "forget", desc := "()I" } : Jvm.MethodName) prog_10_method_94_code (2 : Nat) (Option.some Jvm.ClassFile.FieldType.int)) ∈ zTs := zTs_at 1852 (by decide +kernel) (by decide +kernel)
theorem zw1701 : (Jvm.Cond.methodLink "RockingHorseLaw" (188 : Nat) ({ cls := "RockingHorseModel", name := "fits", desc := "()I" } : Jvm.MethodName)) ∈ zTs := zTs_at 1853 (by decide +kernel) (by decide +kernel)
theorem zw1702 : (Jvm.Cond.instanceMethod ({ cls := "RockingHorseModel", name := "fits", desc := "()I" } : Jvm.MethodName)) ∈ zTs := zTs_at 1854 (by decide +kernel) (by decide +kernel)
theorem zw1703 : (Jvm.Cond.selects "RockingHorseModel" ({ cls := "RockingHorseModel", name := "fits", desc := "()I" } : Jvm.MethodName) ({ cls := "RockingHorseModel", name := "fits", desc := "()I" } : Jvm.MethodName)) ∈ zTs := zTs_at 1855 (by decide +kernel) (by decide +kernel)
theorem zw1704 : (Jvm.Cond.code ({ cls := "RockingHorseModel", name := "fits", desc := "()I" } : Jvm.MethodName) prog_10_method_97_code (2 : Nat) (Option.some Jvm.ClassFile.FieldType.int)) ∈ zTs := zTs_at 1856 (by decide +kernel) (by decide +kernel)
theorem zw1713 : (Jvm.Cond.methodLink "RockingHorseLaw" (192 : Nat) ({ cls := "RockingHorseModel", name := "sure", desc := "(II)I" } : Jvm.MethodName)) ∈ zTs := zTs_at 1865 (by decide +kernel) (by decide +kernel)
theorem zw1714 : (Jvm.Cond.instanceMethod ({ cls := "RockingHorseModel", name := "sure", desc := "(II)I" } : Jvm.MethodName)) ∈ zTs := zTs_at 1866 (by decide +kernel) (by decide +kernel)
theorem zw1715 : (Jvm.Cond.selects "RockingHorseModel" ({ cls := "RockingHorseModel", name := "sure", desc := "(II)I" } : Jvm.MethodName) ({ cls := "RockingHorseModel", name := "sure", desc := "(II)I" } : Jvm.MethodName)) ∈ zTs := zTs_at 1867 (by decide +kernel) (by decide +kernel)
theorem zw1716 : (Jvm.Cond.code ({ cls := "RockingHorseModel", name := "sure", desc := "(II)I" } : Jvm.MethodName) prog_10_method_100_code (5 : Nat) (Option.some Jvm.ClassFile.FieldType.int)) ∈ zTs := zTs_at 1868 (by decide +kernel) (by decide +kernel)
theorem zw1724 : (Jvm.Cond.methodLink "RockingHorseLaw" (196 : Nat) ({ cls := "RockingHorseModel", name := "ask", desc := "()I" } : Jvm.MethodName)) ∈ zTs := zTs_at 1876 (by decide +kernel) (by decide +kernel)
theorem zw1725 : (Jvm.Cond.instanceMethod ({ cls := "RockingHorseModel", name := "ask", desc := "()I" } : Jvm.MethodName)) ∈ zTs := zTs_at 1877 (by decide +kernel) (by decide +kernel)
theorem zw1726 : (Jvm.Cond.selects "RockingHorseModel" ({ cls := "RockingHorseModel", name := "ask", desc := "()I" } : Jvm.MethodName) ({ cls := "RockingHorseModel", name := "ask", desc := "()I" } : Jvm.MethodName)) ∈ zTs := zTs_at 1878 (by decide +kernel) (by decide +kernel)
theorem zw1727 : (Jvm.Cond.code ({ cls := "RockingHorseModel", name := "ask", desc := "()I" } : Jvm.MethodName) prog_10_method_101_code (6 : Nat) (Option.some Jvm.ClassFile.FieldType.int)) ∈ zTs := zTs_at 1879 (by decide +kernel) (by decide +kernel)
theorem zw1728 : (Jvm.Cond.methodLink "RockingHorseLaw" (200 : Nat) ({ cls := "RockingHorseModel", name := "held", desc := "(I)I" } : Jvm.MethodName)) ∈ zTs := zTs_at 1880 (by decide +kernel) (by decide +kernel)
theorem zw1729 : (Jvm.Cond.instanceMethod ({ cls := "RockingHorseModel", name := "held", desc := "(I)I" } : Jvm.MethodName)) ∈ zTs := zTs_at 1881 (by decide +kernel) (by decide +kernel)
theorem zw1730 : (Jvm.Cond.selects "RockingHorseModel" ({ cls := "RockingHorseModel", name := "held", desc := "(I)I" } : Jvm.MethodName) ({ cls := "RockingHorseModel", name := "held", desc := "(I)I" } : Jvm.MethodName)) ∈ zTs := zTs_at 1882 (by decide +kernel) (by decide +kernel)
theorem zw1731 : (Jvm.Cond.code ({ cls := "RockingHorseModel", name := "held", desc := "(I)I" } : Jvm.MethodName) prog_10_method_105_code (2 : Nat) (Option.some Jvm.ClassFile.FieldType.int)) ∈ zTs := zTs_at 1883 (by decide +kernel) (by decide +kernel)
theorem zw1744 : (Jvm.Cond.methodLink "RockingHorseLaw" (204 : Nat) ({ cls := "RockingHorseModel", name := "keystone", desc := "(I)I" } : Jvm.MethodName)) ∈ zTs := zTs_at 1896 (by decide +kernel) (by decide +kernel)
theorem zw1745 : (Jvm.Cond.instanceMethod ({ cls := "RockingHorseModel", name := "keystone", desc := "(I)I" } : Jvm.MethodName)) ∈ zTs := zTs_at 1897 (by decide +kernel) (by decide +kernel)
theorem zw1746 : (Jvm.Cond.selects "RockingHorseModel" ({ cls := "RockingHorseModel", name := "keystone", desc := "(I)I" } : Jvm.MethodName) ({ cls := "RockingHorseModel", name := "keystone", desc := "(I)I" } : Jvm.MethodName)) ∈ zTs := zTs_at 1898 (by decide +kernel) (by decide +kernel)
theorem zw1747 : (Jvm.Cond.code ({ cls := "RockingHorseModel", name := "keystone", desc := "(I)I" } : Jvm.MethodName) prog_10_method_106_code (9 : Nat) (Option.some Jvm.ClassFile.FieldType.int)) ∈ zTs := zTs_at 1899 (by decide +kernel) (by decide +kernel)
theorem zw1748 : (Jvm.Cond.methodLink "RockingHorseLaw" (208 : Nat) ({ cls := "RockingHorseModel", name := "rests", desc := "(II)I" } : Jvm.MethodName)) ∈ zTs := zTs_at 1900 (by decide +kernel) (by decide +kernel)
theorem zw1749 : (Jvm.Cond.instanceMethod ({ cls := "RockingHorseModel", name := "rests", desc := "(II)I" } : Jvm.MethodName)) ∈ zTs := zTs_at 1901 (by decide +kernel) (by decide +kernel)
theorem zw1750 : (Jvm.Cond.selects "RockingHorseModel" ({ cls := "RockingHorseModel", name := "rests", desc := "(II)I" } : Jvm.MethodName) ({ cls := "RockingHorseModel", name := "rests", desc := "(II)I" } : Jvm.MethodName)) ∈ zTs := zTs_at 1902 (by decide +kernel) (by decide +kernel)
theorem zw1751 : (Jvm.Cond.code ({ cls := "RockingHorseModel", name := "rests", desc := "(II)I" } : Jvm.MethodName) prog_10_method_110_code (7 : Nat) (Option.some Jvm.ClassFile.FieldType.int)) ∈ zTs := zTs_at 1903 (by decide +kernel) (by decide +kernel)
theorem zw1761 : (Jvm.Cond.methodLink "RockingHorseLaw" (212 : Nat) ({ cls := "RockingHorseModel", name := "law", desc := "()I" } : Jvm.MethodName)) ∈ zTs := zTs_at 1913 (by decide +kernel) (by decide +kernel)
theorem zw1762 : (Jvm.Cond.instanceMethod ({ cls := "RockingHorseModel", name := "law", desc := "()I" } : Jvm.MethodName)) ∈ zTs := zTs_at 1914 (by decide +kernel) (by decide +kernel)
theorem zw1763 : (Jvm.Cond.selects "RockingHorseModel" ({ cls := "RockingHorseModel", name := "law", desc := "()I" } : Jvm.MethodName) ({ cls := "RockingHorseModel", name := "law", desc := "()I" } : Jvm.MethodName)) ∈ zTs := zTs_at 1915 (by decide +kernel) (by decide +kernel)
theorem zw1764 : (Jvm.Cond.code ({ cls := "RockingHorseModel", name := "law", desc := "()I" } : Jvm.MethodName) prog_10_method_112_code (6 : Nat) (Option.some Jvm.ClassFile.FieldType.int)) ∈ zTs := zTs_at 1916 (by decide +kernel) (by decide +kernel)
theorem zw1769 : (Jvm.Cond.methodLink "RockingHorseLaw" (216 : Nat) ({ cls := "RockingHorseModel", name := "years", desc := "(II)I" } : Jvm.MethodName)) ∈ zTs := zTs_at 1921 (by decide +kernel) (by decide +kernel)
theorem zw1770 : (Jvm.Cond.instanceMethod ({ cls := "RockingHorseModel", name := "years", desc := "(II)I" } : Jvm.MethodName)) ∈ zTs := zTs_at 1922 (by decide +kernel) (by decide +kernel)
theorem zw1771 : (Jvm.Cond.selects "RockingHorseModel" ({ cls := "RockingHorseModel", name := "years", desc := "(II)I" } : Jvm.MethodName) ({ cls := "RockingHorseModel", name := "years", desc := "(II)I" } : Jvm.MethodName)) ∈ zTs := zTs_at 1923 (by decide +kernel) (by decide +kernel)
theorem zw1772 : (Jvm.Cond.code ({ cls := "RockingHorseModel", name := "years", desc := "(II)I" } : Jvm.MethodName) prog_10_method_114_code (6 : Nat) (Option.some Jvm.ClassFile.FieldType.int)) ∈ zTs := zTs_at 1924 (by decide +kernel) (by decide +kernel)
theorem zw1778 : (Jvm.Cond.methodLink "RockingHorseLaw" (220 : Nat) ({ cls := "RockingHorseModel", name := "keep", desc := "(I)Z" } : Jvm.MethodName)) ∈ zTs := zTs_at 1930 (by decide +kernel) (by decide +kernel)
theorem zw1779 : (Jvm.Cond.instanceMethod ({ cls := "RockingHorseModel", name := "keep", desc := "(I)Z" } : Jvm.MethodName)) ∈ zTs := zTs_at 1931 (by decide +kernel) (by decide +kernel)
theorem zw1780 : (Jvm.Cond.selects "RockingHorseModel" ({ cls := "RockingHorseModel", name := "keep", desc := "(I)Z" } : Jvm.MethodName) ({ cls := "RockingHorseModel", name := "keep", desc := "(I)Z" } : Jvm.MethodName)) ∈ zTs := zTs_at 1932 (by decide +kernel) (by decide +kernel)
theorem zw1781 : (Jvm.Cond.code ({ cls := "RockingHorseModel", name := "keep", desc := "(I)Z" } : Jvm.MethodName) prog_10_method_115_code (2 : Nat) (Option.some Jvm.ClassFile.FieldType.boolean)) ∈ zTs := zTs_at 1933 (by decide +kernel) (by decide +kernel)
theorem zw1782 : (Jvm.Cond.methodLink "RockingHorseLaw" (224 : Nat) ({ cls := "RockingHorseModel", name := "again", desc := "(I)Z" } : Jvm.MethodName)) ∈ zTs := zTs_at 1934 (by decide +kernel) (by decide +kernel)
theorem zw1783 : (Jvm.Cond.instanceMethod ({ cls := "RockingHorseModel", name := "again", desc := "(I)Z" } : Jvm.MethodName)) ∈ zTs := zTs_at 1935 (by decide +kernel) (by decide +kernel)
theorem zw1784 : (Jvm.Cond.selects "RockingHorseModel" ({ cls := "RockingHorseModel", name := "again", desc := "(I)Z" } : Jvm.MethodName) ({ cls := "RockingHorseModel", name := "again", desc := "(I)Z" } : Jvm.MethodName)) ∈ zTs := zTs_at 1936 (by decide +kernel) (by decide +kernel)
theorem zw1785 : (Jvm.Cond.code ({ cls := "RockingHorseModel", name := "again", desc := "(I)Z" } : Jvm.MethodName) prog_10_method_116_code (3 : Nat) (Option.some Jvm.ClassFile.FieldType.boolean)) ∈ zTs := zTs_at 1937 (by decide +kernel) (by decide +kernel)
theorem zw1786 : (Jvm.Cond.methodLink "RockingHorseLaw" (228 : Nat) ({ cls := "RockingHorseModel", name := "count", desc := "(I)I" } : Jvm.MethodName)) ∈ zTs := zTs_at 1938 (by decide +kernel) (by decide +kernel)
theorem zw1787 : (Jvm.Cond.instanceMethod ({ cls := "RockingHorseModel", name := "count", desc := "(I)I" } : Jvm.MethodName)) ∈ zTs := zTs_at 1939 (by decide +kernel) (by decide +kernel)
theorem zw1788 : (Jvm.Cond.selects "RockingHorseModel" ({ cls := "RockingHorseModel", name := "count", desc := "(I)I" } : Jvm.MethodName) ({ cls := "RockingHorseModel", name := "count", desc := "(I)I" } : Jvm.MethodName)) ∈ zTs := zTs_at 1940 (by decide +kernel) (by decide +kernel)
theorem zw1789 : (Jvm.Cond.code ({ cls := "RockingHorseModel", name := "count", desc := "(I)I" } : Jvm.MethodName) prog_10_method_117_code (2 : Nat) (Option.some Jvm.ClassFile.FieldType.int)) ∈ zTs := zTs_at 1941 (by decide +kernel) (by decide +kernel)
theorem zw1790 : (Jvm.Cond.methodLink "RockingHorseLaw" (232 : Nat) ({ cls := "RockingHorseModel", name := "row", desc := "(I)J" } : Jvm.MethodName)) ∈ zTs := zTs_at 1942 (by decide +kernel) (by decide +kernel)
theorem zw1791 : (Jvm.Cond.instanceMethod ({ cls := "RockingHorseModel", name := "row", desc := "(I)J" } : Jvm.MethodName)) ∈ zTs := zTs_at 1943 (by decide +kernel) (by decide +kernel)
theorem zw1792 : (Jvm.Cond.selects "RockingHorseModel" ({ cls := "RockingHorseModel", name := "row", desc := "(I)J" } : Jvm.MethodName) ({ cls := "RockingHorseModel", name := "row", desc := "(I)J" } : Jvm.MethodName)) ∈ zTs := zTs_at 1944 (by decide +kernel) (by decide +kernel)
theorem zw1793 : (Jvm.Cond.code ({ cls := "RockingHorseModel", name := "row", desc := "(I)J" } : Jvm.MethodName) prog_10_method_118_code (2 : Nat) (Option.some Jvm.ClassFile.FieldType.long)) ∈ zTs := zTs_at 1945 (by decide +kernel) (by decide +kernel)
theorem dL_law_0 : decode cL_law 0 = .ok (.new 8, 3) := by decide +kernel
theorem dL_law_3 : decode cL_law 3 = .ok (.dup, 1) := by decide +kernel
theorem dL_law_4 : decode cL_law 4 = .ok (.invokespecial 19, 3) := by decide +kernel
theorem dL_law_7 : decode cL_law 7 = .ok (.astore_n 1, 1) := by decide +kernel
theorem dL_law_8 : decode cL_law 8 = .ok (.new 20, 3) := by decide +kernel
theorem dL_law_11 : decode cL_law 11 = .ok (.dup, 1) := by decide +kernel
theorem dL_law_12 : decode cL_law 12 = .ok (.invokespecial 22, 3) := by decide +kernel
theorem dL_law_15 : decode cL_law 15 = .ok (.astore_n 2, 1) := by decide +kernel
theorem dL_law_16 : decode cL_law 16 = .ok (.iconst 1, 1) := by decide +kernel
theorem dL_law_17 : decode cL_law 17 = .ok (.newarray .long, 2) := by decide +kernel
theorem dL_law_19 : decode cL_law 19 = .ok (.astore_n 3, 1) := by decide +kernel
theorem dL_law_20 : decode cL_law 20 = .ok (.iconst 0, 1) := by decide +kernel
theorem dL_law_21 : decode cL_law 21 = .ok (.istore 4, 2) := by decide +kernel
theorem dL_law_23 : decode cL_law 23 = .ok (.iload 4, 2) := by decide +kernel
theorem dL_law_25 : decode cL_law 25 = .ok (.aload_n 0, 1) := by decide +kernel
theorem dL_law_26 : decode cL_law 26 = .ok (.arraylength, 1) := by decide +kernel
theorem dL_law_27 : decode cL_law 27 = .ok (.iconst 5, 1) := by decide +kernel
theorem dL_law_28 : decode cL_law 28 = .ok (.isub, 1) := by decide +kernel
theorem dL_law_29 : decode cL_law 29 = .ok (.if_icmp .gt 1468, 3) := by decide +kernel
theorem dL_law_32 : decode cL_law 32 = .ok (.aload_n 0, 1) := by decide +kernel
theorem dL_law_33 : decode cL_law 33 = .ok (.iload 4, 2) := by decide +kernel
theorem dL_law_35 : decode cL_law 35 = .ok (.iaload, 1) := by decide +kernel
theorem dL_law_36 : decode cL_law 36 = .ok (.bipush 63, 2) := by decide +kernel
theorem dL_law_38 : decode cL_law 38 = .ok (.iand, 1) := by decide +kernel
theorem dL_law_39 : decode cL_law 39 = .ok (.tableswitch 1452 0 49 #[213, 238, 263, 276, 289, 357, 394, 431, 492, 505, 542, 567, 592, 605, 618, 631, 656, 681, 706, 719, 732, 745, 758, 771, 796, 809, 834, 859, 872, 885, 910, 935, 972, 985, 998, 1011, 1060, 1109, 1122, 1135, 1172, 1185, 1210, 1235, 1272, 1285, 1322, 1347, 1372, 1397], 213) := by decide +kernel
theorem dL_law_252 : decode cL_law 252 = .ok (.aload_n 1, 1) := by decide +kernel
theorem dL_law_253 : decode cL_law 253 = .ok (.aload_n 0, 1) := by decide +kernel
theorem dL_law_254 : decode cL_law 254 = .ok (.iload 4, 2) := by decide +kernel
theorem dL_law_256 : decode cL_law 256 = .ok (.iconst 1, 1) := by decide +kernel
theorem dL_law_257 : decode cL_law 257 = .ok (.iadd, 1) := by decide +kernel
theorem dL_law_258 : decode cL_law 258 = .ok (.iaload, 1) := by decide +kernel
theorem dL_law_259 : decode cL_law 259 = .ok (.invokevirtual 23, 3) := by decide +kernel
theorem dL_law_262 : decode cL_law 262 = .ok (.aload_n 2, 1) := by decide +kernel
theorem dL_law_263 : decode cL_law 263 = .ok (.aload_n 0, 1) := by decide +kernel
theorem dL_law_264 : decode cL_law 264 = .ok (.iload 4, 2) := by decide +kernel
theorem dL_law_266 : decode cL_law 266 = .ok (.iconst 1, 1) := by decide +kernel
theorem dL_law_267 : decode cL_law 267 = .ok (.iadd, 1) := by decide +kernel
theorem dL_law_268 : decode cL_law 268 = .ok (.iaload, 1) := by decide +kernel
theorem dL_law_269 : decode cL_law 269 = .ok (.invokevirtual 27, 3) := by decide +kernel
theorem dL_law_272 : decode cL_law 272 = .ok (.if_icmp .eq 1219, 3) := by decide +kernel
theorem dL_law_275 : decode cL_law 275 = .ok (.iconst 0, 1) := by decide +kernel
theorem dL_law_277 : decode cL_law 277 = .ok (.aload_n 1, 1) := by decide +kernel
theorem dL_law_278 : decode cL_law 278 = .ok (.aload_n 0, 1) := by decide +kernel
theorem dL_law_279 : decode cL_law 279 = .ok (.iload 4, 2) := by decide +kernel
theorem dL_law_281 : decode cL_law 281 = .ok (.iconst 1, 1) := by decide +kernel
theorem dL_law_282 : decode cL_law 282 = .ok (.iadd, 1) := by decide +kernel
theorem dL_law_283 : decode cL_law 283 = .ok (.iaload, 1) := by decide +kernel
theorem dL_law_284 : decode cL_law 284 = .ok (.invokevirtual 28, 3) := by decide +kernel
theorem dL_law_287 : decode cL_law 287 = .ok (.aload_n 2, 1) := by decide +kernel
theorem dL_law_288 : decode cL_law 288 = .ok (.aload_n 0, 1) := by decide +kernel
theorem dL_law_289 : decode cL_law 289 = .ok (.iload 4, 2) := by decide +kernel
theorem dL_law_291 : decode cL_law 291 = .ok (.iconst 1, 1) := by decide +kernel
theorem dL_law_292 : decode cL_law 292 = .ok (.iadd, 1) := by decide +kernel
theorem dL_law_293 : decode cL_law 293 = .ok (.iaload, 1) := by decide +kernel
theorem dL_law_294 : decode cL_law 294 = .ok (.invokevirtual 32, 3) := by decide +kernel
theorem dL_law_297 : decode cL_law 297 = .ok (.if_icmp .eq 1194, 3) := by decide +kernel
theorem dL_law_300 : decode cL_law 300 = .ok (.iconst 0, 1) := by decide +kernel
theorem dL_law_302 : decode cL_law 302 = .ok (.aload_n 1, 1) := by decide +kernel
theorem dL_law_303 : decode cL_law 303 = .ok (.invokevirtual 33, 3) := by decide +kernel
theorem dL_law_306 : decode cL_law 306 = .ok (.aload_n 2, 1) := by decide +kernel
theorem dL_law_307 : decode cL_law 307 = .ok (.invokevirtual 37, 3) := by decide +kernel
theorem dL_law_310 : decode cL_law 310 = .ok (.if_icmp .eq 1181, 3) := by decide +kernel
theorem dL_law_313 : decode cL_law 313 = .ok (.iconst 0, 1) := by decide +kernel
theorem dL_law_315 : decode cL_law 315 = .ok (.aload_n 1, 1) := by decide +kernel
theorem dL_law_316 : decode cL_law 316 = .ok (.invokevirtual 38, 3) := by decide +kernel
theorem dL_law_319 : decode cL_law 319 = .ok (.aload_n 2, 1) := by decide +kernel
theorem dL_law_320 : decode cL_law 320 = .ok (.invokevirtual 41, 3) := by decide +kernel
theorem dL_law_323 : decode cL_law 323 = .ok (.if_icmp .eq 1168, 3) := by decide +kernel
theorem dL_law_326 : decode cL_law 326 = .ok (.iconst 0, 1) := by decide +kernel
theorem dL_law_328 : decode cL_law 328 = .ok (.aload_n 1, 1) := by decide +kernel
theorem dL_law_329 : decode cL_law 329 = .ok (.aload_n 0, 1) := by decide +kernel
theorem dL_law_330 : decode cL_law 330 = .ok (.iload 4, 2) := by decide +kernel
theorem dL_law_332 : decode cL_law 332 = .ok (.iconst 1, 1) := by decide +kernel
theorem dL_law_333 : decode cL_law 333 = .ok (.iadd, 1) := by decide +kernel
theorem dL_law_334 : decode cL_law 334 = .ok (.iaload, 1) := by decide +kernel
theorem dL_law_335 : decode cL_law 335 = .ok (.aload_n 0, 1) := by decide +kernel
theorem dL_law_336 : decode cL_law 336 = .ok (.iload 4, 2) := by decide +kernel
theorem dL_law_338 : decode cL_law 338 = .ok (.iconst 2, 1) := by decide +kernel
theorem dL_law_339 : decode cL_law 339 = .ok (.iadd, 1) := by decide +kernel
theorem dL_law_340 : decode cL_law 340 = .ok (.iaload, 1) := by decide +kernel
theorem dL_law_341 : decode cL_law 341 = .ok (.aload_n 3, 1) := by decide +kernel
theorem dL_law_345 : decode cL_law 345 = .ok (.istore 5, 2) := by decide +kernel
theorem dL_law_347 : decode cL_law 347 = .ok (.aload_n 2, 1) := by decide +kernel
theorem dL_law_348 : decode cL_law 348 = .ok (.aload_n 0, 1) := by decide +kernel
theorem dL_law_349 : decode cL_law 349 = .ok (.iload 4, 2) := by decide +kernel
theorem dL_law_351 : decode cL_law 351 = .ok (.iconst 1, 1) := by decide +kernel
theorem dL_law_352 : decode cL_law 352 = .ok (.iadd, 1) := by decide +kernel
theorem dL_law_353 : decode cL_law 353 = .ok (.iaload, 1) := by decide +kernel
theorem dL_law_354 : decode cL_law 354 = .ok (.aload_n 0, 1) := by decide +kernel
theorem dL_law_355 : decode cL_law 355 = .ok (.iload 4, 2) := by decide +kernel
theorem dL_law_357 : decode cL_law 357 = .ok (.iconst 2, 1) := by decide +kernel
theorem dL_law_358 : decode cL_law 358 = .ok (.iadd, 1) := by decide +kernel
theorem dL_law_359 : decode cL_law 359 = .ok (.iaload, 1) := by decide +kernel
theorem dL_law_360 : decode cL_law 360 = .ok (.invokevirtual 47, 3) := by decide +kernel
theorem dL_law_363 : decode cL_law 363 = .ok (.istore 6, 2) := by decide +kernel
theorem dL_law_365 : decode cL_law 365 = .ok (.aload_n 2, 1) := by decide +kernel
theorem dL_law_366 : decode cL_law 366 = .ok (.invokevirtual 48, 3) := by decide +kernel
theorem dL_law_369 : decode cL_law 369 = .ok (.iload 5, 2) := by decide +kernel
theorem dL_law_371 : decode cL_law 371 = .ok (.if_icmp .eq 5, 3) := by decide +kernel
theorem dL_law_374 : decode cL_law 374 = .ok (.iconst 0, 1) := by decide +kernel
theorem dL_law_376 : decode cL_law 376 = .ok (.iload 5, 2) := by decide +kernel
theorem dL_law_378 : decode cL_law 378 = .ok (.ifCond .ne 15, 3) := by decide +kernel
theorem dL_law_381 : decode cL_law 381 = .ok (.aload_n 3, 1) := by decide +kernel
theorem dL_law_382 : decode cL_law 382 = .ok (.iconst 0, 1) := by decide +kernel
theorem dL_law_384 : decode cL_law 384 = .ok (.iload 6, 2) := by decide +kernel
theorem dL_law_387 : decode cL_law 387 = .ok (.lcmp, 1) := by decide +kernel
theorem dL_law_388 : decode cL_law 388 = .ok (.ifCond .eq 5, 3) := by decide +kernel
theorem dL_law_391 : decode cL_law 391 = .ok (.iconst 0, 1) := by decide +kernel
theorem dL_law_393 : decode cL_law 393 = .ok (.goto 1098, 3) := by decide +kernel
theorem dL_law_396 : decode cL_law 396 = .ok (.aload_n 1, 1) := by decide +kernel
theorem dL_law_397 : decode cL_law 397 = .ok (.aload_n 0, 1) := by decide +kernel
theorem dL_law_398 : decode cL_law 398 = .ok (.iload 4, 2) := by decide +kernel
theorem dL_law_400 : decode cL_law 400 = .ok (.iconst 1, 1) := by decide +kernel
theorem dL_law_401 : decode cL_law 401 = .ok (.iadd, 1) := by decide +kernel
theorem dL_law_402 : decode cL_law 402 = .ok (.iaload, 1) := by decide +kernel
theorem dL_law_403 : decode cL_law 403 = .ok (.aload_n 0, 1) := by decide +kernel
theorem dL_law_404 : decode cL_law 404 = .ok (.iload 4, 2) := by decide +kernel
theorem dL_law_406 : decode cL_law 406 = .ok (.iconst 2, 1) := by decide +kernel
theorem dL_law_407 : decode cL_law 407 = .ok (.iadd, 1) := by decide +kernel
theorem dL_law_408 : decode cL_law 408 = .ok (.iaload, 1) := by decide +kernel
theorem dL_law_409 : decode cL_law 409 = .ok (.invokevirtual 51, 3) := by decide +kernel
theorem dL_law_412 : decode cL_law 412 = .ok (.aload_n 2, 1) := by decide +kernel
theorem dL_law_413 : decode cL_law 413 = .ok (.aload_n 0, 1) := by decide +kernel
theorem dL_law_414 : decode cL_law 414 = .ok (.iload 4, 2) := by decide +kernel
theorem dL_law_416 : decode cL_law 416 = .ok (.iconst 1, 1) := by decide +kernel
theorem dL_law_417 : decode cL_law 417 = .ok (.iadd, 1) := by decide +kernel
theorem dL_law_418 : decode cL_law 418 = .ok (.iaload, 1) := by decide +kernel
theorem dL_law_419 : decode cL_law 419 = .ok (.aload_n 0, 1) := by decide +kernel
theorem dL_law_420 : decode cL_law 420 = .ok (.iload 4, 2) := by decide +kernel
theorem dL_law_422 : decode cL_law 422 = .ok (.iconst 2, 1) := by decide +kernel
theorem dL_law_423 : decode cL_law 423 = .ok (.iadd, 1) := by decide +kernel
theorem dL_law_424 : decode cL_law 424 = .ok (.iaload, 1) := by decide +kernel
theorem dL_law_425 : decode cL_law 425 = .ok (.invokevirtual 54, 3) := by decide +kernel
theorem dL_law_428 : decode cL_law 428 = .ok (.if_icmp .eq 1063, 3) := by decide +kernel
theorem dL_law_431 : decode cL_law 431 = .ok (.iconst 0, 1) := by decide +kernel
theorem dL_law_433 : decode cL_law 433 = .ok (.aload_n 1, 1) := by decide +kernel
theorem dL_law_434 : decode cL_law 434 = .ok (.aload_n 0, 1) := by decide +kernel
theorem dL_law_435 : decode cL_law 435 = .ok (.iload 4, 2) := by decide +kernel
theorem dL_law_437 : decode cL_law 437 = .ok (.iconst 1, 1) := by decide +kernel
theorem dL_law_438 : decode cL_law 438 = .ok (.iadd, 1) := by decide +kernel
theorem dL_law_439 : decode cL_law 439 = .ok (.iaload, 1) := by decide +kernel
theorem dL_law_440 : decode cL_law 440 = .ok (.aload_n 0, 1) := by decide +kernel
theorem dL_law_441 : decode cL_law 441 = .ok (.iload 4, 2) := by decide +kernel
theorem dL_law_443 : decode cL_law 443 = .ok (.iconst 2, 1) := by decide +kernel
theorem dL_law_444 : decode cL_law 444 = .ok (.iadd, 1) := by decide +kernel
theorem dL_law_445 : decode cL_law 445 = .ok (.iaload, 1) := by decide +kernel
theorem dL_law_446 : decode cL_law 446 = .ok (.invokevirtual 55, 3) := by decide +kernel
theorem dL_law_449 : decode cL_law 449 = .ok (.aload_n 2, 1) := by decide +kernel
theorem dL_law_450 : decode cL_law 450 = .ok (.aload_n 0, 1) := by decide +kernel
theorem dL_law_451 : decode cL_law 451 = .ok (.iload 4, 2) := by decide +kernel
theorem dL_law_453 : decode cL_law 453 = .ok (.iconst 1, 1) := by decide +kernel
theorem dL_law_454 : decode cL_law 454 = .ok (.iadd, 1) := by decide +kernel
theorem dL_law_455 : decode cL_law 455 = .ok (.iaload, 1) := by decide +kernel
theorem dL_law_456 : decode cL_law 456 = .ok (.aload_n 0, 1) := by decide +kernel
theorem dL_law_457 : decode cL_law 457 = .ok (.iload 4, 2) := by decide +kernel
theorem dL_law_459 : decode cL_law 459 = .ok (.iconst 2, 1) := by decide +kernel
theorem dL_law_460 : decode cL_law 460 = .ok (.iadd, 1) := by decide +kernel
theorem dL_law_461 : decode cL_law 461 = .ok (.iaload, 1) := by decide +kernel
theorem dL_law_462 : decode cL_law 462 = .ok (.invokevirtual 58, 3) := by decide +kernel
theorem dL_law_465 : decode cL_law 465 = .ok (.if_icmp .eq 1026, 3) := by decide +kernel
theorem dL_law_468 : decode cL_law 468 = .ok (.iconst 0, 1) := by decide +kernel
theorem dL_law_470 : decode cL_law 470 = .ok (.aload_n 1, 1) := by decide +kernel
theorem dL_law_471 : decode cL_law 471 = .ok (.aload_n 0, 1) := by decide +kernel
theorem dL_law_472 : decode cL_law 472 = .ok (.iload 4, 2) := by decide +kernel
theorem dL_law_474 : decode cL_law 474 = .ok (.iconst 1, 1) := by decide +kernel
theorem dL_law_475 : decode cL_law 475 = .ok (.iadd, 1) := by decide +kernel
theorem dL_law_476 : decode cL_law 476 = .ok (.iaload, 1) := by decide +kernel
theorem dL_law_477 : decode cL_law 477 = .ok (.aload_n 0, 1) := by decide +kernel
theorem dL_law_478 : decode cL_law 478 = .ok (.iload 4, 2) := by decide +kernel
theorem dL_law_480 : decode cL_law 480 = .ok (.iconst 2, 1) := by decide +kernel
theorem dL_law_481 : decode cL_law 481 = .ok (.iadd, 1) := by decide +kernel
theorem dL_law_482 : decode cL_law 482 = .ok (.iaload, 1) := by decide +kernel
theorem dL_law_483 : decode cL_law 483 = .ok (.aload_n 0, 1) := by decide +kernel
theorem dL_law_484 : decode cL_law 484 = .ok (.iload 4, 2) := by decide +kernel
theorem dL_law_486 : decode cL_law 486 = .ok (.iconst 3, 1) := by decide +kernel
theorem dL_law_487 : decode cL_law 487 = .ok (.iadd, 1) := by decide +kernel
theorem dL_law_488 : decode cL_law 488 = .ok (.iaload, 1) := by decide +kernel
theorem dL_law_489 : decode cL_law 489 = .ok (.aload_n 0, 1) := by decide +kernel
theorem dL_law_490 : decode cL_law 490 = .ok (.iload 4, 2) := by decide +kernel
theorem dL_law_492 : decode cL_law 492 = .ok (.iconst 4, 1) := by decide +kernel
theorem dL_law_493 : decode cL_law 493 = .ok (.iadd, 1) := by decide +kernel
theorem dL_law_494 : decode cL_law 494 = .ok (.iaload, 1) := by decide +kernel
theorem dL_law_495 : decode cL_law 495 = .ok (.invokevirtual 59, 3) := by decide +kernel
theorem dL_law_498 : decode cL_law 498 = .ok (.aload_n 2, 1) := by decide +kernel
theorem dL_law_499 : decode cL_law 499 = .ok (.aload_n 0, 1) := by decide +kernel
theorem dL_law_500 : decode cL_law 500 = .ok (.iload 4, 2) := by decide +kernel
theorem dL_law_502 : decode cL_law 502 = .ok (.iconst 1, 1) := by decide +kernel
theorem dL_law_503 : decode cL_law 503 = .ok (.iadd, 1) := by decide +kernel
theorem dL_law_504 : decode cL_law 504 = .ok (.iaload, 1) := by decide +kernel
theorem dL_law_505 : decode cL_law 505 = .ok (.aload_n 0, 1) := by decide +kernel
theorem dL_law_506 : decode cL_law 506 = .ok (.iload 4, 2) := by decide +kernel
theorem dL_law_508 : decode cL_law 508 = .ok (.iconst 2, 1) := by decide +kernel
theorem dL_law_509 : decode cL_law 509 = .ok (.iadd, 1) := by decide +kernel
theorem dL_law_510 : decode cL_law 510 = .ok (.iaload, 1) := by decide +kernel
theorem dL_law_511 : decode cL_law 511 = .ok (.aload_n 0, 1) := by decide +kernel
theorem dL_law_512 : decode cL_law 512 = .ok (.iload 4, 2) := by decide +kernel
theorem dL_law_514 : decode cL_law 514 = .ok (.iconst 3, 1) := by decide +kernel
theorem dL_law_515 : decode cL_law 515 = .ok (.iadd, 1) := by decide +kernel
theorem dL_law_516 : decode cL_law 516 = .ok (.iaload, 1) := by decide +kernel
theorem dL_law_517 : decode cL_law 517 = .ok (.aload_n 0, 1) := by decide +kernel
theorem dL_law_518 : decode cL_law 518 = .ok (.iload 4, 2) := by decide +kernel
theorem dL_law_520 : decode cL_law 520 = .ok (.iconst 4, 1) := by decide +kernel
theorem dL_law_521 : decode cL_law 521 = .ok (.iadd, 1) := by decide +kernel
theorem dL_law_522 : decode cL_law 522 = .ok (.iaload, 1) := by decide +kernel
theorem dL_law_523 : decode cL_law 523 = .ok (.invokevirtual 63, 3) := by decide +kernel
theorem dL_law_526 : decode cL_law 526 = .ok (.if_icmp .eq 965, 3) := by decide +kernel
theorem dL_law_529 : decode cL_law 529 = .ok (.iconst 0, 1) := by decide +kernel
theorem dL_law_531 : decode cL_law 531 = .ok (.aload_n 1, 1) := by decide +kernel
theorem dL_law_532 : decode cL_law 532 = .ok (.invokevirtual 64, 3) := by decide +kernel
theorem dL_law_535 : decode cL_law 535 = .ok (.aload_n 2, 1) := by decide +kernel
theorem dL_law_536 : decode cL_law 536 = .ok (.invokevirtual 67, 3) := by decide +kernel
theorem dL_law_539 : decode cL_law 539 = .ok (.if_icmp .eq 952, 3) := by decide +kernel
theorem dL_law_542 : decode cL_law 542 = .ok (.iconst 0, 1) := by decide +kernel
theorem dL_law_544 : decode cL_law 544 = .ok (.aload_n 1, 1) := by decide +kernel
theorem dL_law_545 : decode cL_law 545 = .ok (.aload_n 0, 1) := by decide +kernel
theorem dL_law_546 : decode cL_law 546 = .ok (.iload 4, 2) := by decide +kernel
theorem dL_law_548 : decode cL_law 548 = .ok (.iconst 1, 1) := by decide +kernel
theorem dL_law_549 : decode cL_law 549 = .ok (.iadd, 1) := by decide +kernel
theorem dL_law_550 : decode cL_law 550 = .ok (.iaload, 1) := by decide +kernel
theorem dL_law_551 : decode cL_law 551 = .ok (.aload_n 0, 1) := by decide +kernel
theorem dL_law_552 : decode cL_law 552 = .ok (.iload 4, 2) := by decide +kernel
theorem dL_law_554 : decode cL_law 554 = .ok (.iconst 2, 1) := by decide +kernel
theorem dL_law_555 : decode cL_law 555 = .ok (.iadd, 1) := by decide +kernel
theorem dL_law_556 : decode cL_law 556 = .ok (.iaload, 1) := by decide +kernel
theorem dL_law_557 : decode cL_law 557 = .ok (.invokevirtual 68, 3) := by decide +kernel
theorem dL_law_560 : decode cL_law 560 = .ok (.aload_n 2, 1) := by decide +kernel
theorem dL_law_561 : decode cL_law 561 = .ok (.aload_n 0, 1) := by decide +kernel
theorem dL_law_562 : decode cL_law 562 = .ok (.iload 4, 2) := by decide +kernel
theorem dL_law_564 : decode cL_law 564 = .ok (.iconst 1, 1) := by decide +kernel
theorem dL_law_565 : decode cL_law 565 = .ok (.iadd, 1) := by decide +kernel
theorem dL_law_566 : decode cL_law 566 = .ok (.iaload, 1) := by decide +kernel
theorem dL_law_567 : decode cL_law 567 = .ok (.aload_n 0, 1) := by decide +kernel
theorem dL_law_568 : decode cL_law 568 = .ok (.iload 4, 2) := by decide +kernel
theorem dL_law_570 : decode cL_law 570 = .ok (.iconst 2, 1) := by decide +kernel
theorem dL_law_571 : decode cL_law 571 = .ok (.iadd, 1) := by decide +kernel
theorem dL_law_572 : decode cL_law 572 = .ok (.iaload, 1) := by decide +kernel
theorem dL_law_573 : decode cL_law 573 = .ok (.invokevirtual 71, 3) := by decide +kernel
theorem dL_law_576 : decode cL_law 576 = .ok (.if_icmp .eq 915, 3) := by decide +kernel
theorem dL_law_579 : decode cL_law 579 = .ok (.iconst 0, 1) := by decide +kernel
theorem dL_law_581 : decode cL_law 581 = .ok (.aload_n 1, 1) := by decide +kernel
theorem dL_law_582 : decode cL_law 582 = .ok (.aload_n 0, 1) := by decide +kernel
theorem dL_law_583 : decode cL_law 583 = .ok (.iload 4, 2) := by decide +kernel
theorem dL_law_585 : decode cL_law 585 = .ok (.iconst 1, 1) := by decide +kernel
theorem dL_law_586 : decode cL_law 586 = .ok (.iadd, 1) := by decide +kernel
theorem dL_law_587 : decode cL_law 587 = .ok (.iaload, 1) := by decide +kernel
theorem dL_law_588 : decode cL_law 588 = .ok (.invokevirtual 72, 3) := by decide +kernel
theorem dL_law_591 : decode cL_law 591 = .ok (.aload_n 2, 1) := by decide +kernel
theorem dL_law_592 : decode cL_law 592 = .ok (.aload_n 0, 1) := by decide +kernel
theorem dL_law_593 : decode cL_law 593 = .ok (.iload 4, 2) := by decide +kernel
theorem dL_law_595 : decode cL_law 595 = .ok (.iconst 1, 1) := by decide +kernel
theorem dL_law_596 : decode cL_law 596 = .ok (.iadd, 1) := by decide +kernel
theorem dL_law_597 : decode cL_law 597 = .ok (.iaload, 1) := by decide +kernel
theorem dL_law_598 : decode cL_law 598 = .ok (.invokevirtual 75, 3) := by decide +kernel
theorem dL_law_601 : decode cL_law 601 = .ok (.if_icmp .eq 890, 3) := by decide +kernel
theorem dL_law_604 : decode cL_law 604 = .ok (.iconst 0, 1) := by decide +kernel
theorem dL_law_606 : decode cL_law 606 = .ok (.aload_n 1, 1) := by decide +kernel
theorem dL_law_607 : decode cL_law 607 = .ok (.aload_n 0, 1) := by decide +kernel
theorem dL_law_608 : decode cL_law 608 = .ok (.iload 4, 2) := by decide +kernel
theorem dL_law_610 : decode cL_law 610 = .ok (.iconst 1, 1) := by decide +kernel
theorem dL_law_611 : decode cL_law 611 = .ok (.iadd, 1) := by decide +kernel
theorem dL_law_612 : decode cL_law 612 = .ok (.iaload, 1) := by decide +kernel
theorem dL_law_613 : decode cL_law 613 = .ok (.invokevirtual 76, 3) := by decide +kernel
theorem dL_law_616 : decode cL_law 616 = .ok (.aload_n 2, 1) := by decide +kernel
theorem dL_law_617 : decode cL_law 617 = .ok (.aload_n 0, 1) := by decide +kernel
theorem dL_law_618 : decode cL_law 618 = .ok (.iload 4, 2) := by decide +kernel
theorem dL_law_620 : decode cL_law 620 = .ok (.iconst 1, 1) := by decide +kernel
theorem dL_law_621 : decode cL_law 621 = .ok (.iadd, 1) := by decide +kernel
theorem dL_law_622 : decode cL_law 622 = .ok (.iaload, 1) := by decide +kernel
theorem dL_law_623 : decode cL_law 623 = .ok (.invokevirtual 79, 3) := by decide +kernel
theorem dL_law_626 : decode cL_law 626 = .ok (.if_icmp .eq 865, 3) := by decide +kernel
theorem dL_law_629 : decode cL_law 629 = .ok (.iconst 0, 1) := by decide +kernel
theorem dL_law_631 : decode cL_law 631 = .ok (.aload_n 1, 1) := by decide +kernel
theorem dL_law_632 : decode cL_law 632 = .ok (.invokevirtual 80, 3) := by decide +kernel
theorem dL_law_635 : decode cL_law 635 = .ok (.aload_n 2, 1) := by decide +kernel
theorem dL_law_636 : decode cL_law 636 = .ok (.invokevirtual 83, 3) := by decide +kernel
theorem dL_law_639 : decode cL_law 639 = .ok (.if_icmp .eq 852, 3) := by decide +kernel
theorem dL_law_642 : decode cL_law 642 = .ok (.iconst 0, 1) := by decide +kernel
theorem dL_law_644 : decode cL_law 644 = .ok (.aload_n 1, 1) := by decide +kernel
theorem dL_law_645 : decode cL_law 645 = .ok (.invokevirtual 84, 3) := by decide +kernel
theorem dL_law_648 : decode cL_law 648 = .ok (.aload_n 2, 1) := by decide +kernel
theorem dL_law_649 : decode cL_law 649 = .ok (.invokevirtual 87, 3) := by decide +kernel
theorem dL_law_652 : decode cL_law 652 = .ok (.if_icmp .eq 839, 3) := by decide +kernel
theorem dL_law_655 : decode cL_law 655 = .ok (.iconst 0, 1) := by decide +kernel
theorem dL_law_657 : decode cL_law 657 = .ok (.aload_n 1, 1) := by decide +kernel
theorem dL_law_658 : decode cL_law 658 = .ok (.invokevirtual 88, 3) := by decide +kernel
theorem dL_law_661 : decode cL_law 661 = .ok (.aload_n 2, 1) := by decide +kernel
theorem dL_law_662 : decode cL_law 662 = .ok (.invokevirtual 91, 3) := by decide +kernel
theorem dL_law_665 : decode cL_law 665 = .ok (.if_icmp .eq 826, 3) := by decide +kernel
theorem dL_law_668 : decode cL_law 668 = .ok (.iconst 0, 1) := by decide +kernel
theorem dL_law_670 : decode cL_law 670 = .ok (.aload_n 1, 1) := by decide +kernel
theorem dL_law_671 : decode cL_law 671 = .ok (.aload_n 0, 1) := by decide +kernel
theorem dL_law_672 : decode cL_law 672 = .ok (.iload 4, 2) := by decide +kernel
theorem dL_law_674 : decode cL_law 674 = .ok (.iconst 1, 1) := by decide +kernel
theorem dL_law_675 : decode cL_law 675 = .ok (.iadd, 1) := by decide +kernel
theorem dL_law_676 : decode cL_law 676 = .ok (.iaload, 1) := by decide +kernel
theorem dL_law_677 : decode cL_law 677 = .ok (.invokevirtual 92, 3) := by decide +kernel
theorem dL_law_680 : decode cL_law 680 = .ok (.aload_n 2, 1) := by decide +kernel
theorem dL_law_681 : decode cL_law 681 = .ok (.aload_n 0, 1) := by decide +kernel
theorem dL_law_682 : decode cL_law 682 = .ok (.iload 4, 2) := by decide +kernel
theorem dL_law_684 : decode cL_law 684 = .ok (.iconst 1, 1) := by decide +kernel
theorem dL_law_685 : decode cL_law 685 = .ok (.iadd, 1) := by decide +kernel
theorem dL_law_686 : decode cL_law 686 = .ok (.iaload, 1) := by decide +kernel
theorem dL_law_687 : decode cL_law 687 = .ok (.invokevirtual 95, 3) := by decide +kernel
theorem dL_law_690 : decode cL_law 690 = .ok (.if_icmp .eq 801, 3) := by decide +kernel
theorem dL_law_693 : decode cL_law 693 = .ok (.iconst 0, 1) := by decide +kernel
theorem dL_law_695 : decode cL_law 695 = .ok (.aload_n 1, 1) := by decide +kernel
theorem dL_law_696 : decode cL_law 696 = .ok (.aload_n 0, 1) := by decide +kernel
theorem dL_law_697 : decode cL_law 697 = .ok (.iload 4, 2) := by decide +kernel
theorem dL_law_699 : decode cL_law 699 = .ok (.iconst 1, 1) := by decide +kernel
theorem dL_law_700 : decode cL_law 700 = .ok (.iadd, 1) := by decide +kernel
theorem dL_law_701 : decode cL_law 701 = .ok (.iaload, 1) := by decide +kernel
theorem dL_law_702 : decode cL_law 702 = .ok (.invokevirtual 96, 3) := by decide +kernel
theorem dL_law_705 : decode cL_law 705 = .ok (.aload_n 2, 1) := by decide +kernel
theorem dL_law_706 : decode cL_law 706 = .ok (.aload_n 0, 1) := by decide +kernel
theorem dL_law_707 : decode cL_law 707 = .ok (.iload 4, 2) := by decide +kernel
theorem dL_law_709 : decode cL_law 709 = .ok (.iconst 1, 1) := by decide +kernel
theorem dL_law_710 : decode cL_law 710 = .ok (.iadd, 1) := by decide +kernel
theorem dL_law_711 : decode cL_law 711 = .ok (.iaload, 1) := by decide +kernel
theorem dL_law_712 : decode cL_law 712 = .ok (.invokevirtual 99, 3) := by decide +kernel
theorem dL_law_715 : decode cL_law 715 = .ok (.if_icmp .eq 776, 3) := by decide +kernel
theorem dL_law_718 : decode cL_law 718 = .ok (.iconst 0, 1) := by decide +kernel
theorem dL_law_720 : decode cL_law 720 = .ok (.aload_n 1, 1) := by decide +kernel
theorem dL_law_721 : decode cL_law 721 = .ok (.aload_n 0, 1) := by decide +kernel
theorem dL_law_722 : decode cL_law 722 = .ok (.iload 4, 2) := by decide +kernel
theorem dL_law_724 : decode cL_law 724 = .ok (.iconst 1, 1) := by decide +kernel
theorem dL_law_725 : decode cL_law 725 = .ok (.iadd, 1) := by decide +kernel
theorem dL_law_726 : decode cL_law 726 = .ok (.iaload, 1) := by decide +kernel
theorem dL_law_727 : decode cL_law 727 = .ok (.invokevirtual 100, 3) := by decide +kernel
theorem dL_law_730 : decode cL_law 730 = .ok (.aload_n 2, 1) := by decide +kernel
theorem dL_law_731 : decode cL_law 731 = .ok (.aload_n 0, 1) := by decide +kernel
theorem dL_law_732 : decode cL_law 732 = .ok (.iload 4, 2) := by decide +kernel
theorem dL_law_734 : decode cL_law 734 = .ok (.iconst 1, 1) := by decide +kernel
theorem dL_law_735 : decode cL_law 735 = .ok (.iadd, 1) := by decide +kernel
theorem dL_law_736 : decode cL_law 736 = .ok (.iaload, 1) := by decide +kernel
theorem dL_law_737 : decode cL_law 737 = .ok (.invokevirtual 103, 3) := by decide +kernel
theorem dL_law_740 : decode cL_law 740 = .ok (.if_icmp .eq 751, 3) := by decide +kernel
theorem dL_law_743 : decode cL_law 743 = .ok (.iconst 0, 1) := by decide +kernel
theorem dL_law_745 : decode cL_law 745 = .ok (.aload_n 1, 1) := by decide +kernel
theorem dL_law_746 : decode cL_law 746 = .ok (.invokevirtual 104, 3) := by decide +kernel
theorem dL_law_749 : decode cL_law 749 = .ok (.aload_n 2, 1) := by decide +kernel
theorem dL_law_750 : decode cL_law 750 = .ok (.invokevirtual 107, 3) := by decide +kernel
theorem dL_law_753 : decode cL_law 753 = .ok (.if_icmp .eq 738, 3) := by decide +kernel
theorem dL_law_756 : decode cL_law 756 = .ok (.iconst 0, 1) := by decide +kernel
theorem dL_law_758 : decode cL_law 758 = .ok (.aload_n 1, 1) := by decide +kernel
theorem dL_law_759 : decode cL_law 759 = .ok (.invokevirtual 108, 3) := by decide +kernel
theorem dL_law_762 : decode cL_law 762 = .ok (.aload_n 2, 1) := by decide +kernel
theorem dL_law_763 : decode cL_law 763 = .ok (.invokevirtual 111, 3) := by decide +kernel
theorem dL_law_766 : decode cL_law 766 = .ok (.if_icmp .eq 725, 3) := by decide +kernel
theorem dL_law_769 : decode cL_law 769 = .ok (.iconst 0, 1) := by decide +kernel
theorem dL_law_771 : decode cL_law 771 = .ok (.aload_n 1, 1) := by decide +kernel
theorem dL_law_772 : decode cL_law 772 = .ok (.invokevirtual 112, 3) := by decide +kernel
theorem dL_law_775 : decode cL_law 775 = .ok (.aload_n 2, 1) := by decide +kernel
theorem dL_law_776 : decode cL_law 776 = .ok (.invokevirtual 115, 3) := by decide +kernel
theorem dL_law_779 : decode cL_law 779 = .ok (.if_icmp .eq 712, 3) := by decide +kernel
theorem dL_law_782 : decode cL_law 782 = .ok (.iconst 0, 1) := by decide +kernel
theorem dL_law_784 : decode cL_law 784 = .ok (.aload_n 1, 1) := by decide +kernel
theorem dL_law_785 : decode cL_law 785 = .ok (.invokevirtual 116, 3) := by decide +kernel
theorem dL_law_788 : decode cL_law 788 = .ok (.aload_n 2, 1) := by decide +kernel
theorem dL_law_789 : decode cL_law 789 = .ok (.invokevirtual 119, 3) := by decide +kernel
theorem dL_law_792 : decode cL_law 792 = .ok (.if_icmp .eq 699, 3) := by decide +kernel
theorem dL_law_795 : decode cL_law 795 = .ok (.iconst 0, 1) := by decide +kernel
theorem dL_law_797 : decode cL_law 797 = .ok (.aload_n 1, 1) := by decide +kernel
theorem dL_law_798 : decode cL_law 798 = .ok (.invokevirtual 120, 3) := by decide +kernel
theorem dL_law_801 : decode cL_law 801 = .ok (.aload_n 2, 1) := by decide +kernel
theorem dL_law_802 : decode cL_law 802 = .ok (.invokevirtual 123, 3) := by decide +kernel
theorem dL_law_805 : decode cL_law 805 = .ok (.if_icmp .eq 686, 3) := by decide +kernel
theorem dL_law_808 : decode cL_law 808 = .ok (.iconst 0, 1) := by decide +kernel
theorem dL_law_810 : decode cL_law 810 = .ok (.aload_n 1, 1) := by decide +kernel
theorem dL_law_811 : decode cL_law 811 = .ok (.aload_n 0, 1) := by decide +kernel
theorem dL_law_812 : decode cL_law 812 = .ok (.iload 4, 2) := by decide +kernel
theorem dL_law_814 : decode cL_law 814 = .ok (.iconst 1, 1) := by decide +kernel
theorem dL_law_815 : decode cL_law 815 = .ok (.iadd, 1) := by decide +kernel
theorem dL_law_816 : decode cL_law 816 = .ok (.iaload, 1) := by decide +kernel
theorem dL_law_817 : decode cL_law 817 = .ok (.invokevirtual 124, 3) := by decide +kernel
theorem dL_law_820 : decode cL_law 820 = .ok (.aload_n 2, 1) := by decide +kernel
theorem dL_law_821 : decode cL_law 821 = .ok (.aload_n 0, 1) := by decide +kernel
theorem dL_law_822 : decode cL_law 822 = .ok (.iload 4, 2) := by decide +kernel
theorem dL_law_824 : decode cL_law 824 = .ok (.iconst 1, 1) := by decide +kernel
theorem dL_law_825 : decode cL_law 825 = .ok (.iadd, 1) := by decide +kernel
theorem dL_law_826 : decode cL_law 826 = .ok (.iaload, 1) := by decide +kernel
theorem dL_law_827 : decode cL_law 827 = .ok (.invokevirtual 127, 3) := by decide +kernel
theorem dL_law_830 : decode cL_law 830 = .ok (.if_icmp .eq 661, 3) := by decide +kernel
theorem dL_law_833 : decode cL_law 833 = .ok (.iconst 0, 1) := by decide +kernel
theorem dL_law_835 : decode cL_law 835 = .ok (.aload_n 1, 1) := by decide +kernel
theorem dL_law_836 : decode cL_law 836 = .ok (.invokevirtual 128, 3) := by decide +kernel
theorem dL_law_839 : decode cL_law 839 = .ok (.aload_n 2, 1) := by decide +kernel
theorem dL_law_840 : decode cL_law 840 = .ok (.invokevirtual 131, 3) := by decide +kernel
theorem dL_law_843 : decode cL_law 843 = .ok (.if_icmp .eq 648, 3) := by decide +kernel
theorem dL_law_846 : decode cL_law 846 = .ok (.iconst 0, 1) := by decide +kernel
theorem dL_law_848 : decode cL_law 848 = .ok (.aload_n 1, 1) := by decide +kernel
theorem dL_law_849 : decode cL_law 849 = .ok (.aload_n 0, 1) := by decide +kernel
theorem dL_law_850 : decode cL_law 850 = .ok (.iload 4, 2) := by decide +kernel
theorem dL_law_852 : decode cL_law 852 = .ok (.iconst 1, 1) := by decide +kernel
theorem dL_law_853 : decode cL_law 853 = .ok (.iadd, 1) := by decide +kernel
theorem dL_law_854 : decode cL_law 854 = .ok (.iaload, 1) := by decide +kernel
theorem dL_law_855 : decode cL_law 855 = .ok (.invokevirtual 132, 3) := by decide +kernel
theorem dL_law_858 : decode cL_law 858 = .ok (.aload_n 2, 1) := by decide +kernel
theorem dL_law_859 : decode cL_law 859 = .ok (.aload_n 0, 1) := by decide +kernel
theorem dL_law_860 : decode cL_law 860 = .ok (.iload 4, 2) := by decide +kernel
theorem dL_law_862 : decode cL_law 862 = .ok (.iconst 1, 1) := by decide +kernel
theorem dL_law_863 : decode cL_law 863 = .ok (.iadd, 1) := by decide +kernel
theorem dL_law_864 : decode cL_law 864 = .ok (.iaload, 1) := by decide +kernel
theorem dL_law_865 : decode cL_law 865 = .ok (.invokevirtual 135, 3) := by decide +kernel
theorem dL_law_868 : decode cL_law 868 = .ok (.if_icmp .eq 623, 3) := by decide +kernel
theorem dL_law_871 : decode cL_law 871 = .ok (.iconst 0, 1) := by decide +kernel
theorem dL_law_873 : decode cL_law 873 = .ok (.aload_n 1, 1) := by decide +kernel
theorem dL_law_874 : decode cL_law 874 = .ok (.aload_n 0, 1) := by decide +kernel
theorem dL_law_875 : decode cL_law 875 = .ok (.iload 4, 2) := by decide +kernel
theorem dL_law_877 : decode cL_law 877 = .ok (.iconst 1, 1) := by decide +kernel
theorem dL_law_878 : decode cL_law 878 = .ok (.iadd, 1) := by decide +kernel
theorem dL_law_879 : decode cL_law 879 = .ok (.iaload, 1) := by decide +kernel
theorem dL_law_880 : decode cL_law 880 = .ok (.invokevirtual 136, 3) := by decide +kernel
theorem dL_law_883 : decode cL_law 883 = .ok (.aload_n 2, 1) := by decide +kernel
theorem dL_law_884 : decode cL_law 884 = .ok (.aload_n 0, 1) := by decide +kernel
theorem dL_law_885 : decode cL_law 885 = .ok (.iload 4, 2) := by decide +kernel
theorem dL_law_887 : decode cL_law 887 = .ok (.iconst 1, 1) := by decide +kernel
theorem dL_law_888 : decode cL_law 888 = .ok (.iadd, 1) := by decide +kernel
theorem dL_law_889 : decode cL_law 889 = .ok (.iaload, 1) := by decide +kernel
theorem dL_law_890 : decode cL_law 890 = .ok (.invokevirtual 139, 3) := by decide +kernel
theorem dL_law_893 : decode cL_law 893 = .ok (.if_icmp .eq 598, 3) := by decide +kernel
theorem dL_law_896 : decode cL_law 896 = .ok (.iconst 0, 1) := by decide +kernel
theorem dL_law_898 : decode cL_law 898 = .ok (.aload_n 1, 1) := by decide +kernel
theorem dL_law_899 : decode cL_law 899 = .ok (.invokevirtual 140, 3) := by decide +kernel
theorem dL_law_902 : decode cL_law 902 = .ok (.aload_n 2, 1) := by decide +kernel
theorem dL_law_903 : decode cL_law 903 = .ok (.invokevirtual 143, 3) := by decide +kernel
theorem dL_law_906 : decode cL_law 906 = .ok (.if_icmp .eq 585, 3) := by decide +kernel
theorem dL_law_909 : decode cL_law 909 = .ok (.iconst 0, 1) := by decide +kernel
theorem dL_law_911 : decode cL_law 911 = .ok (.aload_n 1, 1) := by decide +kernel
theorem dL_law_912 : decode cL_law 912 = .ok (.invokevirtual 144, 3) := by decide +kernel
theorem dL_law_915 : decode cL_law 915 = .ok (.aload_n 2, 1) := by decide +kernel
theorem dL_law_916 : decode cL_law 916 = .ok (.invokevirtual 147, 3) := by decide +kernel
theorem dL_law_919 : decode cL_law 919 = .ok (.if_icmp .eq 572, 3) := by decide +kernel
theorem dL_law_922 : decode cL_law 922 = .ok (.iconst 0, 1) := by decide +kernel
theorem dL_law_924 : decode cL_law 924 = .ok (.aload_n 1, 1) := by decide +kernel
theorem dL_law_925 : decode cL_law 925 = .ok (.aload_n 0, 1) := by decide +kernel
theorem dL_law_926 : decode cL_law 926 = .ok (.iload 4, 2) := by decide +kernel
theorem dL_law_928 : decode cL_law 928 = .ok (.iconst 1, 1) := by decide +kernel
theorem dL_law_929 : decode cL_law 929 = .ok (.iadd, 1) := by decide +kernel
theorem dL_law_930 : decode cL_law 930 = .ok (.iaload, 1) := by decide +kernel
theorem dL_law_931 : decode cL_law 931 = .ok (.invokevirtual 148, 3) := by decide +kernel
theorem dL_law_934 : decode cL_law 934 = .ok (.aload_n 2, 1) := by decide +kernel
theorem dL_law_935 : decode cL_law 935 = .ok (.aload_n 0, 1) := by decide +kernel
theorem dL_law_936 : decode cL_law 936 = .ok (.iload 4, 2) := by decide +kernel
theorem dL_law_938 : decode cL_law 938 = .ok (.iconst 1, 1) := by decide +kernel
theorem dL_law_939 : decode cL_law 939 = .ok (.iadd, 1) := by decide +kernel
theorem dL_law_940 : decode cL_law 940 = .ok (.iaload, 1) := by decide +kernel
theorem dL_law_941 : decode cL_law 941 = .ok (.invokevirtual 151, 3) := by decide +kernel
theorem dL_law_944 : decode cL_law 944 = .ok (.if_icmp .eq 547, 3) := by decide +kernel
theorem dL_law_947 : decode cL_law 947 = .ok (.iconst 0, 1) := by decide +kernel
theorem dL_law_949 : decode cL_law 949 = .ok (.aload_n 1, 1) := by decide +kernel
theorem dL_law_950 : decode cL_law 950 = .ok (.aload_n 0, 1) := by decide +kernel
theorem dL_law_951 : decode cL_law 951 = .ok (.iload 4, 2) := by decide +kernel
theorem dL_law_953 : decode cL_law 953 = .ok (.iconst 1, 1) := by decide +kernel
theorem dL_law_954 : decode cL_law 954 = .ok (.iadd, 1) := by decide +kernel
theorem dL_law_955 : decode cL_law 955 = .ok (.iaload, 1) := by decide +kernel
theorem dL_law_956 : decode cL_law 956 = .ok (.invokevirtual 152, 3) := by decide +kernel
theorem dL_law_959 : decode cL_law 959 = .ok (.aload_n 2, 1) := by decide +kernel
theorem dL_law_960 : decode cL_law 960 = .ok (.aload_n 0, 1) := by decide +kernel
theorem dL_law_961 : decode cL_law 961 = .ok (.iload 4, 2) := by decide +kernel
theorem dL_law_963 : decode cL_law 963 = .ok (.iconst 1, 1) := by decide +kernel
theorem dL_law_964 : decode cL_law 964 = .ok (.iadd, 1) := by decide +kernel
theorem dL_law_965 : decode cL_law 965 = .ok (.iaload, 1) := by decide +kernel
theorem dL_law_966 : decode cL_law 966 = .ok (.invokevirtual 155, 3) := by decide +kernel
theorem dL_law_969 : decode cL_law 969 = .ok (.if_icmp .eq 522, 3) := by decide +kernel
theorem dL_law_972 : decode cL_law 972 = .ok (.iconst 0, 1) := by decide +kernel
theorem dL_law_974 : decode cL_law 974 = .ok (.aload_n 1, 1) := by decide +kernel
theorem dL_law_975 : decode cL_law 975 = .ok (.aload_n 0, 1) := by decide +kernel
theorem dL_law_976 : decode cL_law 976 = .ok (.iload 4, 2) := by decide +kernel
theorem dL_law_978 : decode cL_law 978 = .ok (.iconst 1, 1) := by decide +kernel
theorem dL_law_979 : decode cL_law 979 = .ok (.iadd, 1) := by decide +kernel
theorem dL_law_980 : decode cL_law 980 = .ok (.iaload, 1) := by decide +kernel
theorem dL_law_981 : decode cL_law 981 = .ok (.aload_n 0, 1) := by decide +kernel
theorem dL_law_982 : decode cL_law 982 = .ok (.iload 4, 2) := by decide +kernel
theorem dL_law_984 : decode cL_law 984 = .ok (.iconst 2, 1) := by decide +kernel
theorem dL_law_985 : decode cL_law 985 = .ok (.iadd, 1) := by decide +kernel
theorem dL_law_986 : decode cL_law 986 = .ok (.iaload, 1) := by decide +kernel
theorem dL_law_987 : decode cL_law 987 = .ok (.invokevirtual 156, 3) := by decide +kernel
theorem dL_law_990 : decode cL_law 990 = .ok (.aload_n 2, 1) := by decide +kernel
theorem dL_law_991 : decode cL_law 991 = .ok (.aload_n 0, 1) := by decide +kernel
theorem dL_law_992 : decode cL_law 992 = .ok (.iload 4, 2) := by decide +kernel
theorem dL_law_994 : decode cL_law 994 = .ok (.iconst 1, 1) := by decide +kernel
theorem dL_law_995 : decode cL_law 995 = .ok (.iadd, 1) := by decide +kernel
theorem dL_law_996 : decode cL_law 996 = .ok (.iaload, 1) := by decide +kernel
theorem dL_law_997 : decode cL_law 997 = .ok (.aload_n 0, 1) := by decide +kernel
theorem dL_law_998 : decode cL_law 998 = .ok (.iload 4, 2) := by decide +kernel
theorem dL_law_1000 : decode cL_law 1000 = .ok (.iconst 2, 1) := by decide +kernel
theorem dL_law_1001 : decode cL_law 1001 = .ok (.iadd, 1) := by decide +kernel
theorem dL_law_1002 : decode cL_law 1002 = .ok (.iaload, 1) := by decide +kernel
theorem dL_law_1003 : decode cL_law 1003 = .ok (.invokevirtual 159, 3) := by decide +kernel
theorem dL_law_1006 : decode cL_law 1006 = .ok (.if_icmp .eq 485, 3) := by decide +kernel
theorem dL_law_1009 : decode cL_law 1009 = .ok (.iconst 0, 1) := by decide +kernel
theorem dL_law_1011 : decode cL_law 1011 = .ok (.aload_n 1, 1) := by decide +kernel
theorem dL_law_1012 : decode cL_law 1012 = .ok (.invokevirtual 160, 3) := by decide +kernel
theorem dL_law_1015 : decode cL_law 1015 = .ok (.aload_n 2, 1) := by decide +kernel
theorem dL_law_1016 : decode cL_law 1016 = .ok (.invokevirtual 163, 3) := by decide +kernel
theorem dL_law_1019 : decode cL_law 1019 = .ok (.if_icmp .eq 472, 3) := by decide +kernel
theorem dL_law_1022 : decode cL_law 1022 = .ok (.iconst 0, 1) := by decide +kernel
theorem dL_law_1024 : decode cL_law 1024 = .ok (.aload_n 1, 1) := by decide +kernel
theorem dL_law_1025 : decode cL_law 1025 = .ok (.invokevirtual 164, 3) := by decide +kernel
theorem dL_law_1028 : decode cL_law 1028 = .ok (.aload_n 2, 1) := by decide +kernel
theorem dL_law_1029 : decode cL_law 1029 = .ok (.invokevirtual 167, 3) := by decide +kernel
theorem dL_law_1032 : decode cL_law 1032 = .ok (.if_icmp .eq 459, 3) := by decide +kernel
theorem dL_law_1035 : decode cL_law 1035 = .ok (.iconst 0, 1) := by decide +kernel
theorem dL_law_1037 : decode cL_law 1037 = .ok (.aload_n 1, 1) := by decide +kernel
theorem dL_law_1038 : decode cL_law 1038 = .ok (.invokevirtual 168, 3) := by decide +kernel
theorem dL_law_1041 : decode cL_law 1041 = .ok (.aload_n 2, 1) := by decide +kernel
theorem dL_law_1042 : decode cL_law 1042 = .ok (.invokevirtual 171, 3) := by decide +kernel
theorem dL_law_1045 : decode cL_law 1045 = .ok (.if_icmp .eq 446, 3) := by decide +kernel
theorem dL_law_1048 : decode cL_law 1048 = .ok (.iconst 0, 1) := by decide +kernel
theorem dL_law_1050 : decode cL_law 1050 = .ok (.aload_n 1, 1) := by decide +kernel
theorem dL_law_1051 : decode cL_law 1051 = .ok (.aload_n 0, 1) := by decide +kernel
theorem dL_law_1052 : decode cL_law 1052 = .ok (.iload 4, 2) := by decide +kernel
theorem dL_law_1054 : decode cL_law 1054 = .ok (.iconst 1, 1) := by decide +kernel
theorem dL_law_1055 : decode cL_law 1055 = .ok (.iadd, 1) := by decide +kernel
theorem dL_law_1056 : decode cL_law 1056 = .ok (.iaload, 1) := by decide +kernel
theorem dL_law_1057 : decode cL_law 1057 = .ok (.aload_n 0, 1) := by decide +kernel
theorem dL_law_1058 : decode cL_law 1058 = .ok (.iload 4, 2) := by decide +kernel
theorem dL_law_1060 : decode cL_law 1060 = .ok (.iconst 2, 1) := by decide +kernel
theorem dL_law_1061 : decode cL_law 1061 = .ok (.iadd, 1) := by decide +kernel
theorem dL_law_1062 : decode cL_law 1062 = .ok (.iaload, 1) := by decide +kernel
theorem dL_law_1063 : decode cL_law 1063 = .ok (.aload_n 0, 1) := by decide +kernel
theorem dL_law_1064 : decode cL_law 1064 = .ok (.iload 4, 2) := by decide +kernel
theorem dL_law_1066 : decode cL_law 1066 = .ok (.iconst 3, 1) := by decide +kernel
theorem dL_law_1067 : decode cL_law 1067 = .ok (.iadd, 1) := by decide +kernel
theorem dL_law_1068 : decode cL_law 1068 = .ok (.iaload, 1) := by decide +kernel
theorem dL_law_1069 : decode cL_law 1069 = .ok (.invokevirtual 172, 3) := by decide +kernel
theorem dL_law_1072 : decode cL_law 1072 = .ok (.aload_n 2, 1) := by decide +kernel
theorem dL_law_1073 : decode cL_law 1073 = .ok (.aload_n 0, 1) := by decide +kernel
theorem dL_law_1074 : decode cL_law 1074 = .ok (.iload 4, 2) := by decide +kernel
theorem dL_law_1076 : decode cL_law 1076 = .ok (.iconst 1, 1) := by decide +kernel
theorem dL_law_1077 : decode cL_law 1077 = .ok (.iadd, 1) := by decide +kernel
theorem dL_law_1078 : decode cL_law 1078 = .ok (.iaload, 1) := by decide +kernel
theorem dL_law_1079 : decode cL_law 1079 = .ok (.aload_n 0, 1) := by decide +kernel
theorem dL_law_1080 : decode cL_law 1080 = .ok (.iload 4, 2) := by decide +kernel
theorem dL_law_1082 : decode cL_law 1082 = .ok (.iconst 2, 1) := by decide +kernel
theorem dL_law_1083 : decode cL_law 1083 = .ok (.iadd, 1) := by decide +kernel
theorem dL_law_1084 : decode cL_law 1084 = .ok (.iaload, 1) := by decide +kernel
theorem dL_law_1085 : decode cL_law 1085 = .ok (.aload_n 0, 1) := by decide +kernel
theorem dL_law_1086 : decode cL_law 1086 = .ok (.iload 4, 2) := by decide +kernel
theorem dL_law_1088 : decode cL_law 1088 = .ok (.iconst 3, 1) := by decide +kernel
theorem dL_law_1089 : decode cL_law 1089 = .ok (.iadd, 1) := by decide +kernel
theorem dL_law_1090 : decode cL_law 1090 = .ok (.iaload, 1) := by decide +kernel
theorem dL_law_1091 : decode cL_law 1091 = .ok (.invokevirtual 176, 3) := by decide +kernel
theorem dL_law_1094 : decode cL_law 1094 = .ok (.if_icmp .eq 397, 3) := by decide +kernel
theorem dL_law_1097 : decode cL_law 1097 = .ok (.iconst 0, 1) := by decide +kernel
theorem dL_law_1099 : decode cL_law 1099 = .ok (.aload_n 1, 1) := by decide +kernel
theorem dL_law_1100 : decode cL_law 1100 = .ok (.aload_n 0, 1) := by decide +kernel
theorem dL_law_1101 : decode cL_law 1101 = .ok (.iload 4, 2) := by decide +kernel
theorem dL_law_1103 : decode cL_law 1103 = .ok (.iconst 1, 1) := by decide +kernel
theorem dL_law_1104 : decode cL_law 1104 = .ok (.iadd, 1) := by decide +kernel
theorem dL_law_1105 : decode cL_law 1105 = .ok (.iaload, 1) := by decide +kernel
theorem dL_law_1106 : decode cL_law 1106 = .ok (.aload_n 0, 1) := by decide +kernel
theorem dL_law_1107 : decode cL_law 1107 = .ok (.iload 4, 2) := by decide +kernel
theorem dL_law_1109 : decode cL_law 1109 = .ok (.iconst 2, 1) := by decide +kernel
theorem dL_law_1110 : decode cL_law 1110 = .ok (.iadd, 1) := by decide +kernel
theorem dL_law_1111 : decode cL_law 1111 = .ok (.iaload, 1) := by decide +kernel
theorem dL_law_1112 : decode cL_law 1112 = .ok (.aload_n 0, 1) := by decide +kernel
theorem dL_law_1113 : decode cL_law 1113 = .ok (.iload 4, 2) := by decide +kernel
theorem dL_law_1115 : decode cL_law 1115 = .ok (.iconst 3, 1) := by decide +kernel
theorem dL_law_1116 : decode cL_law 1116 = .ok (.iadd, 1) := by decide +kernel
theorem dL_law_1117 : decode cL_law 1117 = .ok (.iaload, 1) := by decide +kernel
theorem dL_law_1118 : decode cL_law 1118 = .ok (.invokevirtual 177, 3) := by decide +kernel
theorem dL_law_1121 : decode cL_law 1121 = .ok (.aload_n 2, 1) := by decide +kernel
theorem dL_law_1122 : decode cL_law 1122 = .ok (.aload_n 0, 1) := by decide +kernel
theorem dL_law_1123 : decode cL_law 1123 = .ok (.iload 4, 2) := by decide +kernel
theorem dL_law_1125 : decode cL_law 1125 = .ok (.iconst 1, 1) := by decide +kernel
theorem dL_law_1126 : decode cL_law 1126 = .ok (.iadd, 1) := by decide +kernel
theorem dL_law_1127 : decode cL_law 1127 = .ok (.iaload, 1) := by decide +kernel
theorem dL_law_1128 : decode cL_law 1128 = .ok (.aload_n 0, 1) := by decide +kernel
theorem dL_law_1129 : decode cL_law 1129 = .ok (.iload 4, 2) := by decide +kernel
theorem dL_law_1131 : decode cL_law 1131 = .ok (.iconst 2, 1) := by decide +kernel
theorem dL_law_1132 : decode cL_law 1132 = .ok (.iadd, 1) := by decide +kernel
theorem dL_law_1133 : decode cL_law 1133 = .ok (.iaload, 1) := by decide +kernel
theorem dL_law_1134 : decode cL_law 1134 = .ok (.aload_n 0, 1) := by decide +kernel
theorem dL_law_1135 : decode cL_law 1135 = .ok (.iload 4, 2) := by decide +kernel
theorem dL_law_1137 : decode cL_law 1137 = .ok (.iconst 3, 1) := by decide +kernel
theorem dL_law_1138 : decode cL_law 1138 = .ok (.iadd, 1) := by decide +kernel
theorem dL_law_1139 : decode cL_law 1139 = .ok (.iaload, 1) := by decide +kernel
theorem dL_law_1140 : decode cL_law 1140 = .ok (.invokevirtual 180, 3) := by decide +kernel
theorem dL_law_1143 : decode cL_law 1143 = .ok (.if_icmp .eq 348, 3) := by decide +kernel
theorem dL_law_1146 : decode cL_law 1146 = .ok (.iconst 0, 1) := by decide +kernel
theorem dL_law_1148 : decode cL_law 1148 = .ok (.aload_n 1, 1) := by decide +kernel
theorem dL_law_1149 : decode cL_law 1149 = .ok (.invokevirtual 181, 3) := by decide +kernel
theorem dL_law_1152 : decode cL_law 1152 = .ok (.aload_n 2, 1) := by decide +kernel
theorem dL_law_1153 : decode cL_law 1153 = .ok (.invokevirtual 184, 3) := by decide +kernel
theorem dL_law_1156 : decode cL_law 1156 = .ok (.if_icmp .eq 335, 3) := by decide +kernel
theorem dL_law_1159 : decode cL_law 1159 = .ok (.iconst 0, 1) := by decide +kernel
theorem dL_law_1161 : decode cL_law 1161 = .ok (.aload_n 1, 1) := by decide +kernel
theorem dL_law_1162 : decode cL_law 1162 = .ok (.invokevirtual 185, 3) := by decide +kernel
theorem dL_law_1165 : decode cL_law 1165 = .ok (.aload_n 2, 1) := by decide +kernel
theorem dL_law_1166 : decode cL_law 1166 = .ok (.invokevirtual 188, 3) := by decide +kernel
theorem dL_law_1169 : decode cL_law 1169 = .ok (.if_icmp .eq 322, 3) := by decide +kernel
theorem dL_law_1172 : decode cL_law 1172 = .ok (.iconst 0, 1) := by decide +kernel
theorem dL_law_1174 : decode cL_law 1174 = .ok (.aload_n 1, 1) := by decide +kernel
theorem dL_law_1175 : decode cL_law 1175 = .ok (.aload_n 0, 1) := by decide +kernel
theorem dL_law_1176 : decode cL_law 1176 = .ok (.iload 4, 2) := by decide +kernel
theorem dL_law_1178 : decode cL_law 1178 = .ok (.iconst 1, 1) := by decide +kernel
theorem dL_law_1179 : decode cL_law 1179 = .ok (.iadd, 1) := by decide +kernel
theorem dL_law_1180 : decode cL_law 1180 = .ok (.iaload, 1) := by decide +kernel
theorem dL_law_1181 : decode cL_law 1181 = .ok (.aload_n 0, 1) := by decide +kernel
theorem dL_law_1182 : decode cL_law 1182 = .ok (.iload 4, 2) := by decide +kernel
theorem dL_law_1184 : decode cL_law 1184 = .ok (.iconst 2, 1) := by decide +kernel
theorem dL_law_1185 : decode cL_law 1185 = .ok (.iadd, 1) := by decide +kernel
theorem dL_law_1186 : decode cL_law 1186 = .ok (.iaload, 1) := by decide +kernel
theorem dL_law_1187 : decode cL_law 1187 = .ok (.invokevirtual 189, 3) := by decide +kernel
theorem dL_law_1190 : decode cL_law 1190 = .ok (.aload_n 2, 1) := by decide +kernel
theorem dL_law_1191 : decode cL_law 1191 = .ok (.aload_n 0, 1) := by decide +kernel
theorem dL_law_1192 : decode cL_law 1192 = .ok (.iload 4, 2) := by decide +kernel
theorem dL_law_1194 : decode cL_law 1194 = .ok (.iconst 1, 1) := by decide +kernel
theorem dL_law_1195 : decode cL_law 1195 = .ok (.iadd, 1) := by decide +kernel
theorem dL_law_1196 : decode cL_law 1196 = .ok (.iaload, 1) := by decide +kernel
theorem dL_law_1197 : decode cL_law 1197 = .ok (.aload_n 0, 1) := by decide +kernel
theorem dL_law_1198 : decode cL_law 1198 = .ok (.iload 4, 2) := by decide +kernel
theorem dL_law_1200 : decode cL_law 1200 = .ok (.iconst 2, 1) := by decide +kernel
theorem dL_law_1201 : decode cL_law 1201 = .ok (.iadd, 1) := by decide +kernel
theorem dL_law_1202 : decode cL_law 1202 = .ok (.iaload, 1) := by decide +kernel
theorem dL_law_1203 : decode cL_law 1203 = .ok (.invokevirtual 192, 3) := by decide +kernel
theorem dL_law_1206 : decode cL_law 1206 = .ok (.if_icmp .eq 285, 3) := by decide +kernel
theorem dL_law_1209 : decode cL_law 1209 = .ok (.iconst 0, 1) := by decide +kernel
theorem dL_law_1211 : decode cL_law 1211 = .ok (.aload_n 1, 1) := by decide +kernel
theorem dL_law_1212 : decode cL_law 1212 = .ok (.invokevirtual 193, 3) := by decide +kernel
theorem dL_law_1215 : decode cL_law 1215 = .ok (.aload_n 2, 1) := by decide +kernel
theorem dL_law_1216 : decode cL_law 1216 = .ok (.invokevirtual 196, 3) := by decide +kernel
theorem dL_law_1219 : decode cL_law 1219 = .ok (.if_icmp .eq 272, 3) := by decide +kernel
theorem dL_law_1222 : decode cL_law 1222 = .ok (.iconst 0, 1) := by decide +kernel
theorem dL_law_1224 : decode cL_law 1224 = .ok (.aload_n 1, 1) := by decide +kernel
theorem dL_law_1225 : decode cL_law 1225 = .ok (.aload_n 0, 1) := by decide +kernel
theorem dL_law_1226 : decode cL_law 1226 = .ok (.iload 4, 2) := by decide +kernel
theorem dL_law_1228 : decode cL_law 1228 = .ok (.iconst 1, 1) := by decide +kernel
theorem dL_law_1229 : decode cL_law 1229 = .ok (.iadd, 1) := by decide +kernel
theorem dL_law_1230 : decode cL_law 1230 = .ok (.iaload, 1) := by decide +kernel
theorem dL_law_1231 : decode cL_law 1231 = .ok (.invokevirtual 197, 3) := by decide +kernel
theorem dL_law_1234 : decode cL_law 1234 = .ok (.aload_n 2, 1) := by decide +kernel
theorem dL_law_1235 : decode cL_law 1235 = .ok (.aload_n 0, 1) := by decide +kernel
theorem dL_law_1236 : decode cL_law 1236 = .ok (.iload 4, 2) := by decide +kernel
theorem dL_law_1238 : decode cL_law 1238 = .ok (.iconst 1, 1) := by decide +kernel
theorem dL_law_1239 : decode cL_law 1239 = .ok (.iadd, 1) := by decide +kernel
theorem dL_law_1240 : decode cL_law 1240 = .ok (.iaload, 1) := by decide +kernel
theorem dL_law_1241 : decode cL_law 1241 = .ok (.invokevirtual 200, 3) := by decide +kernel
theorem dL_law_1244 : decode cL_law 1244 = .ok (.if_icmp .eq 247, 3) := by decide +kernel
theorem dL_law_1247 : decode cL_law 1247 = .ok (.iconst 0, 1) := by decide +kernel
theorem dL_law_1249 : decode cL_law 1249 = .ok (.aload_n 1, 1) := by decide +kernel
theorem dL_law_1250 : decode cL_law 1250 = .ok (.aload_n 0, 1) := by decide +kernel
theorem dL_law_1251 : decode cL_law 1251 = .ok (.iload 4, 2) := by decide +kernel
theorem dL_law_1253 : decode cL_law 1253 = .ok (.iconst 1, 1) := by decide +kernel
theorem dL_law_1254 : decode cL_law 1254 = .ok (.iadd, 1) := by decide +kernel
theorem dL_law_1255 : decode cL_law 1255 = .ok (.iaload, 1) := by decide +kernel
theorem dL_law_1256 : decode cL_law 1256 = .ok (.invokevirtual 201, 3) := by decide +kernel
theorem dL_law_1259 : decode cL_law 1259 = .ok (.aload_n 2, 1) := by decide +kernel
theorem dL_law_1260 : decode cL_law 1260 = .ok (.aload_n 0, 1) := by decide +kernel
theorem dL_law_1261 : decode cL_law 1261 = .ok (.iload 4, 2) := by decide +kernel
theorem dL_law_1263 : decode cL_law 1263 = .ok (.iconst 1, 1) := by decide +kernel
theorem dL_law_1264 : decode cL_law 1264 = .ok (.iadd, 1) := by decide +kernel
theorem dL_law_1265 : decode cL_law 1265 = .ok (.iaload, 1) := by decide +kernel
theorem dL_law_1266 : decode cL_law 1266 = .ok (.invokevirtual 204, 3) := by decide +kernel
theorem dL_law_1269 : decode cL_law 1269 = .ok (.if_icmp .eq 222, 3) := by decide +kernel
theorem dL_law_1272 : decode cL_law 1272 = .ok (.iconst 0, 1) := by decide +kernel
theorem dL_law_1274 : decode cL_law 1274 = .ok (.aload_n 1, 1) := by decide +kernel
theorem dL_law_1275 : decode cL_law 1275 = .ok (.aload_n 0, 1) := by decide +kernel
theorem dL_law_1276 : decode cL_law 1276 = .ok (.iload 4, 2) := by decide +kernel
theorem dL_law_1278 : decode cL_law 1278 = .ok (.iconst 1, 1) := by decide +kernel
theorem dL_law_1279 : decode cL_law 1279 = .ok (.iadd, 1) := by decide +kernel
theorem dL_law_1280 : decode cL_law 1280 = .ok (.iaload, 1) := by decide +kernel
theorem dL_law_1281 : decode cL_law 1281 = .ok (.aload_n 0, 1) := by decide +kernel
theorem dL_law_1282 : decode cL_law 1282 = .ok (.iload 4, 2) := by decide +kernel
theorem dL_law_1284 : decode cL_law 1284 = .ok (.iconst 2, 1) := by decide +kernel
theorem dL_law_1285 : decode cL_law 1285 = .ok (.iadd, 1) := by decide +kernel
theorem dL_law_1286 : decode cL_law 1286 = .ok (.iaload, 1) := by decide +kernel
theorem dL_law_1287 : decode cL_law 1287 = .ok (.invokevirtual 205, 3) := by decide +kernel
theorem dL_law_1290 : decode cL_law 1290 = .ok (.aload_n 2, 1) := by decide +kernel
theorem dL_law_1291 : decode cL_law 1291 = .ok (.aload_n 0, 1) := by decide +kernel
theorem dL_law_1292 : decode cL_law 1292 = .ok (.iload 4, 2) := by decide +kernel
theorem dL_law_1294 : decode cL_law 1294 = .ok (.iconst 1, 1) := by decide +kernel
theorem dL_law_1295 : decode cL_law 1295 = .ok (.iadd, 1) := by decide +kernel
theorem dL_law_1296 : decode cL_law 1296 = .ok (.iaload, 1) := by decide +kernel
theorem dL_law_1297 : decode cL_law 1297 = .ok (.aload_n 0, 1) := by decide +kernel
theorem dL_law_1298 : decode cL_law 1298 = .ok (.iload 4, 2) := by decide +kernel
theorem dL_law_1300 : decode cL_law 1300 = .ok (.iconst 2, 1) := by decide +kernel
theorem dL_law_1301 : decode cL_law 1301 = .ok (.iadd, 1) := by decide +kernel
theorem dL_law_1302 : decode cL_law 1302 = .ok (.iaload, 1) := by decide +kernel
theorem dL_law_1303 : decode cL_law 1303 = .ok (.invokevirtual 208, 3) := by decide +kernel
theorem dL_law_1306 : decode cL_law 1306 = .ok (.if_icmp .eq 185, 3) := by decide +kernel
theorem dL_law_1309 : decode cL_law 1309 = .ok (.iconst 0, 1) := by decide +kernel
theorem dL_law_1311 : decode cL_law 1311 = .ok (.aload_n 1, 1) := by decide +kernel
theorem dL_law_1312 : decode cL_law 1312 = .ok (.invokevirtual 209, 3) := by decide +kernel
theorem dL_law_1315 : decode cL_law 1315 = .ok (.aload_n 2, 1) := by decide +kernel
theorem dL_law_1316 : decode cL_law 1316 = .ok (.invokevirtual 212, 3) := by decide +kernel
theorem dL_law_1319 : decode cL_law 1319 = .ok (.if_icmp .eq 172, 3) := by decide +kernel
theorem dL_law_1322 : decode cL_law 1322 = .ok (.iconst 0, 1) := by decide +kernel
theorem dL_law_1324 : decode cL_law 1324 = .ok (.aload_n 1, 1) := by decide +kernel
theorem dL_law_1325 : decode cL_law 1325 = .ok (.aload_n 0, 1) := by decide +kernel
theorem dL_law_1326 : decode cL_law 1326 = .ok (.iload 4, 2) := by decide +kernel
theorem dL_law_1328 : decode cL_law 1328 = .ok (.iconst 1, 1) := by decide +kernel
theorem dL_law_1329 : decode cL_law 1329 = .ok (.iadd, 1) := by decide +kernel
theorem dL_law_1330 : decode cL_law 1330 = .ok (.iaload, 1) := by decide +kernel
theorem dL_law_1331 : decode cL_law 1331 = .ok (.aload_n 0, 1) := by decide +kernel
theorem dL_law_1332 : decode cL_law 1332 = .ok (.iload 4, 2) := by decide +kernel
theorem dL_law_1334 : decode cL_law 1334 = .ok (.iconst 2, 1) := by decide +kernel
theorem dL_law_1335 : decode cL_law 1335 = .ok (.iadd, 1) := by decide +kernel
theorem dL_law_1336 : decode cL_law 1336 = .ok (.iaload, 1) := by decide +kernel
theorem dL_law_1337 : decode cL_law 1337 = .ok (.invokevirtual 213, 3) := by decide +kernel
theorem dL_law_1340 : decode cL_law 1340 = .ok (.aload_n 2, 1) := by decide +kernel
theorem dL_law_1341 : decode cL_law 1341 = .ok (.aload_n 0, 1) := by decide +kernel
theorem dL_law_1342 : decode cL_law 1342 = .ok (.iload 4, 2) := by decide +kernel
theorem dL_law_1344 : decode cL_law 1344 = .ok (.iconst 1, 1) := by decide +kernel
theorem dL_law_1345 : decode cL_law 1345 = .ok (.iadd, 1) := by decide +kernel
theorem dL_law_1346 : decode cL_law 1346 = .ok (.iaload, 1) := by decide +kernel
theorem dL_law_1347 : decode cL_law 1347 = .ok (.aload_n 0, 1) := by decide +kernel
theorem dL_law_1348 : decode cL_law 1348 = .ok (.iload 4, 2) := by decide +kernel
theorem dL_law_1350 : decode cL_law 1350 = .ok (.iconst 2, 1) := by decide +kernel
theorem dL_law_1351 : decode cL_law 1351 = .ok (.iadd, 1) := by decide +kernel
theorem dL_law_1352 : decode cL_law 1352 = .ok (.iaload, 1) := by decide +kernel
theorem dL_law_1353 : decode cL_law 1353 = .ok (.invokevirtual 216, 3) := by decide +kernel
theorem dL_law_1356 : decode cL_law 1356 = .ok (.if_icmp .eq 135, 3) := by decide +kernel
theorem dL_law_1359 : decode cL_law 1359 = .ok (.iconst 0, 1) := by decide +kernel
theorem dL_law_1361 : decode cL_law 1361 = .ok (.aload_n 1, 1) := by decide +kernel
theorem dL_law_1362 : decode cL_law 1362 = .ok (.aload_n 0, 1) := by decide +kernel
theorem dL_law_1363 : decode cL_law 1363 = .ok (.iload 4, 2) := by decide +kernel
theorem dL_law_1365 : decode cL_law 1365 = .ok (.iconst 1, 1) := by decide +kernel
theorem dL_law_1366 : decode cL_law 1366 = .ok (.iadd, 1) := by decide +kernel
theorem dL_law_1367 : decode cL_law 1367 = .ok (.iaload, 1) := by decide +kernel
theorem dL_law_1368 : decode cL_law 1368 = .ok (.invokevirtual 217, 3) := by decide +kernel
theorem dL_law_1371 : decode cL_law 1371 = .ok (.aload_n 2, 1) := by decide +kernel
theorem dL_law_1372 : decode cL_law 1372 = .ok (.aload_n 0, 1) := by decide +kernel
theorem dL_law_1373 : decode cL_law 1373 = .ok (.iload 4, 2) := by decide +kernel
theorem dL_law_1375 : decode cL_law 1375 = .ok (.iconst 1, 1) := by decide +kernel
theorem dL_law_1376 : decode cL_law 1376 = .ok (.iadd, 1) := by decide +kernel
theorem dL_law_1377 : decode cL_law 1377 = .ok (.iaload, 1) := by decide +kernel
theorem dL_law_1378 : decode cL_law 1378 = .ok (.invokevirtual 220, 3) := by decide +kernel
theorem dL_law_1381 : decode cL_law 1381 = .ok (.if_icmp .eq 110, 3) := by decide +kernel
theorem dL_law_1384 : decode cL_law 1384 = .ok (.iconst 0, 1) := by decide +kernel
theorem dL_law_1386 : decode cL_law 1386 = .ok (.aload_n 1, 1) := by decide +kernel
theorem dL_law_1387 : decode cL_law 1387 = .ok (.aload_n 0, 1) := by decide +kernel
theorem dL_law_1388 : decode cL_law 1388 = .ok (.iload 4, 2) := by decide +kernel
theorem dL_law_1390 : decode cL_law 1390 = .ok (.iconst 1, 1) := by decide +kernel
theorem dL_law_1391 : decode cL_law 1391 = .ok (.iadd, 1) := by decide +kernel
theorem dL_law_1392 : decode cL_law 1392 = .ok (.iaload, 1) := by decide +kernel
theorem dL_law_1393 : decode cL_law 1393 = .ok (.invokevirtual 221, 3) := by decide +kernel
theorem dL_law_1396 : decode cL_law 1396 = .ok (.aload_n 2, 1) := by decide +kernel
theorem dL_law_1397 : decode cL_law 1397 = .ok (.aload_n 0, 1) := by decide +kernel
theorem dL_law_1398 : decode cL_law 1398 = .ok (.iload 4, 2) := by decide +kernel
theorem dL_law_1400 : decode cL_law 1400 = .ok (.iconst 1, 1) := by decide +kernel
theorem dL_law_1401 : decode cL_law 1401 = .ok (.iadd, 1) := by decide +kernel
theorem dL_law_1402 : decode cL_law 1402 = .ok (.iaload, 1) := by decide +kernel
theorem dL_law_1403 : decode cL_law 1403 = .ok (.invokevirtual 224, 3) := by decide +kernel
theorem dL_law_1406 : decode cL_law 1406 = .ok (.if_icmp .eq 85, 3) := by decide +kernel
theorem dL_law_1409 : decode cL_law 1409 = .ok (.iconst 0, 1) := by decide +kernel
theorem dL_law_1411 : decode cL_law 1411 = .ok (.aload_n 1, 1) := by decide +kernel
theorem dL_law_1412 : decode cL_law 1412 = .ok (.aload_n 0, 1) := by decide +kernel
theorem dL_law_1413 : decode cL_law 1413 = .ok (.iload 4, 2) := by decide +kernel
theorem dL_law_1415 : decode cL_law 1415 = .ok (.iconst 1, 1) := by decide +kernel
theorem dL_law_1416 : decode cL_law 1416 = .ok (.iadd, 1) := by decide +kernel
theorem dL_law_1417 : decode cL_law 1417 = .ok (.iaload, 1) := by decide +kernel
theorem dL_law_1418 : decode cL_law 1418 = .ok (.invokevirtual 225, 3) := by decide +kernel
theorem dL_law_1421 : decode cL_law 1421 = .ok (.aload_n 2, 1) := by decide +kernel
theorem dL_law_1422 : decode cL_law 1422 = .ok (.aload_n 0, 1) := by decide +kernel
theorem dL_law_1423 : decode cL_law 1423 = .ok (.iload 4, 2) := by decide +kernel
theorem dL_law_1425 : decode cL_law 1425 = .ok (.iconst 1, 1) := by decide +kernel
theorem dL_law_1426 : decode cL_law 1426 = .ok (.iadd, 1) := by decide +kernel
theorem dL_law_1427 : decode cL_law 1427 = .ok (.iaload, 1) := by decide +kernel
theorem dL_law_1428 : decode cL_law 1428 = .ok (.invokevirtual 228, 3) := by decide +kernel
theorem dL_law_1431 : decode cL_law 1431 = .ok (.if_icmp .eq 60, 3) := by decide +kernel
theorem dL_law_1434 : decode cL_law 1434 = .ok (.iconst 0, 1) := by decide +kernel
theorem dL_law_1436 : decode cL_law 1436 = .ok (.aload_n 1, 1) := by decide +kernel
theorem dL_law_1437 : decode cL_law 1437 = .ok (.aload_n 0, 1) := by decide +kernel
theorem dL_law_1438 : decode cL_law 1438 = .ok (.iload 4, 2) := by decide +kernel
theorem dL_law_1440 : decode cL_law 1440 = .ok (.iconst 1, 1) := by decide +kernel
theorem dL_law_1441 : decode cL_law 1441 = .ok (.iadd, 1) := by decide +kernel
theorem dL_law_1442 : decode cL_law 1442 = .ok (.iaload, 1) := by decide +kernel
theorem dL_law_1443 : decode cL_law 1443 = .ok (.aload_n 3, 1) := by decide +kernel
theorem dL_law_1447 : decode cL_law 1447 = .ok (.istore 5, 2) := by decide +kernel
theorem dL_law_1449 : decode cL_law 1449 = .ok (.aload_n 2, 1) := by decide +kernel
theorem dL_law_1450 : decode cL_law 1450 = .ok (.aload_n 0, 1) := by decide +kernel
theorem dL_law_1451 : decode cL_law 1451 = .ok (.iload 4, 2) := by decide +kernel
theorem dL_law_1453 : decode cL_law 1453 = .ok (.iconst 1, 1) := by decide +kernel
theorem dL_law_1454 : decode cL_law 1454 = .ok (.iadd, 1) := by decide +kernel
theorem dL_law_1455 : decode cL_law 1455 = .ok (.iaload, 1) := by decide +kernel
theorem dL_law_1456 : decode cL_law 1456 = .ok (.invokevirtual 232, 3) := by decide +kernel
theorem dL_law_1459 : decode cL_law 1459 = .ok (.lstore 6, 2) := by decide +kernel
theorem dL_law_1461 : decode cL_law 1461 = .ok (.aload_n 2, 1) := by decide +kernel
theorem dL_law_1462 : decode cL_law 1462 = .ok (.invokevirtual 48, 3) := by decide +kernel
theorem dL_law_1465 : decode cL_law 1465 = .ok (.iload 5, 2) := by decide +kernel
theorem dL_law_1467 : decode cL_law 1467 = .ok (.if_icmp .eq 5, 3) := by decide +kernel
theorem dL_law_1470 : decode cL_law 1470 = .ok (.iconst 0, 1) := by decide +kernel
theorem dL_law_1472 : decode cL_law 1472 = .ok (.iload 5, 2) := by decide +kernel
theorem dL_law_1474 : decode cL_law 1474 = .ok (.ifCond .ne 14, 3) := by decide +kernel
theorem dL_law_1477 : decode cL_law 1477 = .ok (.aload_n 3, 1) := by decide +kernel
theorem dL_law_1478 : decode cL_law 1478 = .ok (.iconst 0, 1) := by decide +kernel
theorem dL_law_1480 : decode cL_law 1480 = .ok (.lload 6, 2) := by decide +kernel
theorem dL_law_1482 : decode cL_law 1482 = .ok (.lcmp, 1) := by decide +kernel
theorem dL_law_1483 : decode cL_law 1483 = .ok (.ifCond .eq 5, 3) := by decide +kernel
theorem dL_law_1486 : decode cL_law 1486 = .ok (.iconst 0, 1) := by decide +kernel
theorem dL_law_1488 : decode cL_law 1488 = .ok (.goto 3, 3) := by decide +kernel
theorem dL_law_1491 : decode cL_law 1491 = .ok (.iinc 4 5, 3) := by decide +kernel
theorem dL_law_1494 : decode cL_law 1494 = .ok (.goto (-1471), 3) := by decide +kernel
theorem dL_law_1497 : decode cL_law 1497 = .ok (.iconst 1, 1) := by decide +kernel
theorem dL_law_1498 : decode cL_law 1498 = .ok (.ireturn, 1) := by decide +kernel
