/-! THE CLAIM OUT OF ONE WALK OF THE LAW'S BODY. Your part is whole_start (and what it stands on); all else here is the same for every law, but numbers. -/
def R_law : String := "RockingHorseLaw"
def lw_P (b : Addr) (xs : List Int32) (args : Array Value) (s : State) : Prop := args = #[.ref b] ∧ s.IntsAt b xs ∧ xs.length ≤ 2560 ∧ (Jvm.Cond.and given_1 narrow_1).before args s = true
def lw_Q (_ : Array Value) (s : State) (o : Outcome) (t : State) : Prop := o = .returned (some (.int 1)) ∧ Framed s o t [] 601024 7293034
def lw_Z (below : List Frame) (a : Array Value) (s : State) : State → Prop := fun t => ∃ o, t.status = .running ∧ Ended t below o ∧ lw_Q a s o t
/-- the law's own end, with 1 on the stack, nothing written that was there before, its room as the claim has it -/
theorem lw_ret {p : Program} {l : Launch} {e : Env} {s : State} {m : MethodId} {below : List Frame} {meth : Method} {c : Code} {b : Nat} (hx : p.tables.exec = Jvm.exec) (hb : c.code = code) (hr : meth.sig.returnType = ret) (hlocks : meth.locks = false) {pc : Nat} {H : Heap} {ls : Array Slot} (hdg : decode code pc = .ok (.ireturn, 1)) : W p l e room_1 s m #[Value.ref b] below meth c H [] 601024 7293034 (lw_Z below #[Value.ref b] s) (F0 m pc ls [.int 1]) := by
  intro T hT X
  obtain ⟨fs, hret, hrun, hended, hW, hframe⟩ := X.leave (v := some (.int 1)) (hlocks := hlocks) (fun h => by rw [hr] at h; cases h)
  have hmeth' : T.vm.method? m = some meth := X.method'
  refine ⟨T.setFrames fs, ?_, .returned (some (.int 1)), hrun, hended, rfl, ⟨_, rfl⟩, hW, hframe⟩
  jvm_step X.here [X.here.top, hx, hb, hdg, hmeth', hr, ret, narrow_b1]
  (try refine ⟨rfl, ?_⟩); (try refine ⟨rfl, ?_⟩)
  first | (intro acts; rw [hret _ acts rfl rfl rfl]) | rw [hret _ _ rfl rfl rfl]
  exact Steps.refl _
/-- what holds at the law's entry: the machine, the code, the tables' words (any of lw_tbl by 'hts w (by decide +kernel)'), the script of L ints xs at the cell b, what the Statement gives of the start (any of its parts by flat_of_before) -/
def lw_At (p : Program) (s : State) (m : MethodId) (meth : Method) (c : Code) (b L : Nat) (xs : Nat → Int32) : Prop :=
  p.tables.exec = Jvm.exec ∧ c.code = code ∧ meth.sig.returnType = ret ∧ c.maxLocals = 8 ∧ s.vm.findClass R_law = some m.cls ∧ (∀ w ∈ lw_tbl, w.before #[Value.ref b] s = true) ∧ va_X b L xs s s.heap ∧ b < s.heap.size ∧ meth.locks = false ∧ (Jvm.Cond.and given_1 narrow_1).before #[Value.ref b] s = true
theorem zw23 : (Jvm.Cond.classLink "RockingHorseLaw" (8 : Nat) "RockingHorse") ∈ zTs := zTs_at 175 (by decide +kernel) (by decide +kernel)
theorem zw24 : (Jvm.Cond.instantiable "RockingHorse" (16 : Nat)) ∈ zTs := zTs_at 176 (by decide +kernel) (by decide +kernel)
theorem zw25 : (Jvm.Cond.methodLink "RockingHorseLaw" (19 : Nat) ({ cls := "RockingHorse", name := "<init>", desc := "()V" } : Jvm.MethodName)) ∈ zTs := zTs_at 177 (by decide +kernel) (by decide +kernel)
theorem zw26 : (Jvm.Cond.instanceMethod ({ cls := "RockingHorse", name := "<init>", desc := "()V" } : Jvm.MethodName)) ∈ zTs := zTs_at 178 (by decide +kernel) (by decide +kernel)
theorem zw27 : (Jvm.Cond.code ({ cls := "RockingHorse", name := "<init>", desc := "()V" } : Jvm.MethodName) prog_1_method_1_code (2 : Nat) (Option.none : Option Jvm.ClassFile.FieldType)) ∈ zTs := zTs_at 179 (by decide +kernel) (by decide +kernel)
theorem zw472 : (Jvm.Cond.methodLink "RockingHorseLaw" (23 : Nat) ({ cls := "RockingHorse", name := "sign", desc := "(I)I" } : Jvm.MethodName)) ∈ zTs := zTs_at 624 (by decide +kernel) (by decide +kernel)
theorem zw473 : (Jvm.Cond.instanceMethod ({ cls := "RockingHorse", name := "sign", desc := "(I)I" } : Jvm.MethodName)) ∈ zTs := zTs_at 625 (by decide +kernel) (by decide +kernel)
theorem zw474 : (Jvm.Cond.selects "RockingHorse" ({ cls := "RockingHorse", name := "sign", desc := "(I)I" } : Jvm.MethodName) ({ cls := "RockingHorse", name := "sign", desc := "(I)I" } : Jvm.MethodName)) ∈ zTs := zTs_at 626 (by decide +kernel) (by decide +kernel)
theorem zw475 : (Jvm.Cond.code ({ cls := "RockingHorse", name := "sign", desc := "(I)I" } : Jvm.MethodName) prog_1_method_2_code (2 : Nat) (Option.some Jvm.ClassFile.FieldType.int)) ∈ zTs := zTs_at 627 (by decide +kernel) (by decide +kernel)
theorem zw480 : (Jvm.Cond.methodLink "RockingHorseLaw" (28 : Nat) ({ cls := "RockingHorse", name := "end", desc := "(I)Z" } : Jvm.MethodName)) ∈ zTs := zTs_at 632 (by decide +kernel) (by decide +kernel)
theorem zw481 : (Jvm.Cond.instanceMethod ({ cls := "RockingHorse", name := "end", desc := "(I)Z" } : Jvm.MethodName)) ∈ zTs := zTs_at 633 (by decide +kernel) (by decide +kernel)
theorem zw482 : (Jvm.Cond.selects "RockingHorse" ({ cls := "RockingHorse", name := "end", desc := "(I)Z" } : Jvm.MethodName) ({ cls := "RockingHorse", name := "end", desc := "(I)Z" } : Jvm.MethodName)) ∈ zTs := zTs_at 634 (by decide +kernel) (by decide +kernel)
theorem zw483 : (Jvm.Cond.code ({ cls := "RockingHorse", name := "end", desc := "(I)Z" } : Jvm.MethodName) prog_1_method_3_code (2 : Nat) (Option.some Jvm.ClassFile.FieldType.boolean)) ∈ zTs := zTs_at 635 (by decide +kernel) (by decide +kernel)
theorem zw488 : (Jvm.Cond.methodLink "RockingHorseLaw" (33 : Nat) ({ cls := "RockingHorse", name := "riders", desc := "()I" } : Jvm.MethodName)) ∈ zTs := zTs_at 640 (by decide +kernel) (by decide +kernel)
theorem zw489 : (Jvm.Cond.instanceMethod ({ cls := "RockingHorse", name := "riders", desc := "()I" } : Jvm.MethodName)) ∈ zTs := zTs_at 641 (by decide +kernel) (by decide +kernel)
theorem zw490 : (Jvm.Cond.selects "RockingHorse" ({ cls := "RockingHorse", name := "riders", desc := "()I" } : Jvm.MethodName) ({ cls := "RockingHorse", name := "riders", desc := "()I" } : Jvm.MethodName)) ∈ zTs := zTs_at 642 (by decide +kernel) (by decide +kernel)
theorem zw491 : (Jvm.Cond.code ({ cls := "RockingHorse", name := "riders", desc := "()I" } : Jvm.MethodName) prog_1_method_4_code (2 : Nat) (Option.some Jvm.ClassFile.FieldType.int)) ∈ zTs := zTs_at 643 (by decide +kernel) (by decide +kernel)
theorem zw529 : (Jvm.Cond.methodLink "RockingHorseLaw" (38 : Nat) ({ cls := "RockingHorse", name := "rule", desc := "()I" } : Jvm.MethodName)) ∈ zTs := zTs_at 681 (by decide +kernel) (by decide +kernel)
theorem zw530 : (Jvm.Cond.instanceMethod ({ cls := "RockingHorse", name := "rule", desc := "()I" } : Jvm.MethodName)) ∈ zTs := zTs_at 682 (by decide +kernel) (by decide +kernel)
theorem zw531 : (Jvm.Cond.selects "RockingHorse" ({ cls := "RockingHorse", name := "rule", desc := "()I" } : Jvm.MethodName) ({ cls := "RockingHorse", name := "rule", desc := "()I" } : Jvm.MethodName)) ∈ zTs := zTs_at 683 (by decide +kernel) (by decide +kernel)
theorem zw532 : (Jvm.Cond.code ({ cls := "RockingHorse", name := "rule", desc := "()I" } : Jvm.MethodName) prog_1_method_5_code (3 : Nat) (Option.some Jvm.ClassFile.FieldType.int)) ∈ zTs := zTs_at 684 (by decide +kernel) (by decide +kernel)
theorem zw543 : (Jvm.Cond.methodLink "RockingHorseLaw" (48 : Nat) ({ cls := "RockingHorse", name := "hard", desc := "(II)I" } : Jvm.MethodName)) ∈ zTs := zTs_at 695 (by decide +kernel) (by decide +kernel)
theorem zw544 : (Jvm.Cond.instanceMethod ({ cls := "RockingHorse", name := "hard", desc := "(II)I" } : Jvm.MethodName)) ∈ zTs := zTs_at 696 (by decide +kernel) (by decide +kernel)
theorem zw545 : (Jvm.Cond.selects "RockingHorse" ({ cls := "RockingHorse", name := "hard", desc := "(II)I" } : Jvm.MethodName) ({ cls := "RockingHorse", name := "hard", desc := "(II)I" } : Jvm.MethodName)) ∈ zTs := zTs_at 697 (by decide +kernel) (by decide +kernel)
theorem zw546 : (Jvm.Cond.code ({ cls := "RockingHorse", name := "hard", desc := "(II)I" } : Jvm.MethodName) prog_1_method_7_code (3 : Nat) (Option.some Jvm.ClassFile.FieldType.int)) ∈ zTs := zTs_at 698 (by decide +kernel) (by decide +kernel)
theorem zw584 : (Jvm.Cond.methodLink "RockingHorseLaw" (52 : Nat) ({ cls := "RockingHorse", name := "set", desc := "(II)I" } : Jvm.MethodName)) ∈ zTs := zTs_at 736 (by decide +kernel) (by decide +kernel)
theorem zw585 : (Jvm.Cond.instanceMethod ({ cls := "RockingHorse", name := "set", desc := "(II)I" } : Jvm.MethodName)) ∈ zTs := zTs_at 737 (by decide +kernel) (by decide +kernel)
theorem zw586 : (Jvm.Cond.selects "RockingHorse" ({ cls := "RockingHorse", name := "set", desc := "(II)I" } : Jvm.MethodName) ({ cls := "RockingHorse", name := "set", desc := "(II)I" } : Jvm.MethodName)) ∈ zTs := zTs_at 738 (by decide +kernel) (by decide +kernel)
theorem zw587 : (Jvm.Cond.code ({ cls := "RockingHorse", name := "set", desc := "(II)I" } : Jvm.MethodName) prog_1_method_8_code (4 : Nat) (Option.some Jvm.ClassFile.FieldType.int)) ∈ zTs := zTs_at 739 (by decide +kernel) (by decide +kernel)
theorem zw588 : (Jvm.Cond.methodLink "RockingHorseLaw" (56 : Nat) ({ cls := "RockingHorse", name := "sheet", desc := "(IIII)I" } : Jvm.MethodName)) ∈ zTs := zTs_at 740 (by decide +kernel) (by decide +kernel)
theorem zw589 : (Jvm.Cond.instanceMethod ({ cls := "RockingHorse", name := "sheet", desc := "(IIII)I" } : Jvm.MethodName)) ∈ zTs := zTs_at 741 (by decide +kernel) (by decide +kernel)
theorem zw590 : (Jvm.Cond.selects "RockingHorse" ({ cls := "RockingHorse", name := "sheet", desc := "(IIII)I" } : Jvm.MethodName) ({ cls := "RockingHorse", name := "sheet", desc := "(IIII)I" } : Jvm.MethodName)) ∈ zTs := zTs_at 742 (by decide +kernel) (by decide +kernel)
theorem zw591 : (Jvm.Cond.code ({ cls := "RockingHorse", name := "sheet", desc := "(IIII)I" } : Jvm.MethodName) prog_1_method_9_code (6 : Nat) (Option.some Jvm.ClassFile.FieldType.int)) ∈ zTs := zTs_at 743 (by decide +kernel) (by decide +kernel)
theorem zw601 : (Jvm.Cond.methodLink "RockingHorseLaw" (61 : Nat) ({ cls := "RockingHorse", name := "rota", desc := "()I" } : Jvm.MethodName)) ∈ zTs := zTs_at 753 (by decide +kernel) (by decide +kernel)
theorem zw602 : (Jvm.Cond.instanceMethod ({ cls := "RockingHorse", name := "rota", desc := "()I" } : Jvm.MethodName)) ∈ zTs := zTs_at 754 (by decide +kernel) (by decide +kernel)
theorem zw603 : (Jvm.Cond.selects "RockingHorse" ({ cls := "RockingHorse", name := "rota", desc := "()I" } : Jvm.MethodName) ({ cls := "RockingHorse", name := "rota", desc := "()I" } : Jvm.MethodName)) ∈ zTs := zTs_at 755 (by decide +kernel) (by decide +kernel)
theorem zw604 : (Jvm.Cond.code ({ cls := "RockingHorse", name := "rota", desc := "()I" } : Jvm.MethodName) prog_1_method_10_code (3 : Nat) (Option.some Jvm.ClassFile.FieldType.int)) ∈ zTs := zTs_at 756 (by decide +kernel) (by decide +kernel)
theorem zw628 : (Jvm.Cond.methodLink "RockingHorseLaw" (65 : Nat) ({ cls := "RockingHorse", name := "give", desc := "(II)I" } : Jvm.MethodName)) ∈ zTs := zTs_at 780 (by decide +kernel) (by decide +kernel)
theorem zw629 : (Jvm.Cond.instanceMethod ({ cls := "RockingHorse", name := "give", desc := "(II)I" } : Jvm.MethodName)) ∈ zTs := zTs_at 781 (by decide +kernel) (by decide +kernel)
theorem zw630 : (Jvm.Cond.selects "RockingHorse" ({ cls := "RockingHorse", name := "give", desc := "(II)I" } : Jvm.MethodName) ({ cls := "RockingHorse", name := "give", desc := "(II)I" } : Jvm.MethodName)) ∈ zTs := zTs_at 782 (by decide +kernel) (by decide +kernel)
theorem zw631 : (Jvm.Cond.code ({ cls := "RockingHorse", name := "give", desc := "(II)I" } : Jvm.MethodName) prog_1_method_11_code (4 : Nat) (Option.some Jvm.ClassFile.FieldType.int)) ∈ zTs := zTs_at 783 (by decide +kernel) (by decide +kernel)
theorem zw637 : (Jvm.Cond.methodLink "RockingHorseLaw" (69 : Nat) ({ cls := "RockingHorse", name := "ill", desc := "(I)I" } : Jvm.MethodName)) ∈ zTs := zTs_at 789 (by decide +kernel) (by decide +kernel)
theorem zw638 : (Jvm.Cond.instanceMethod ({ cls := "RockingHorse", name := "ill", desc := "(I)I" } : Jvm.MethodName)) ∈ zTs := zTs_at 790 (by decide +kernel) (by decide +kernel)
theorem zw639 : (Jvm.Cond.selects "RockingHorse" ({ cls := "RockingHorse", name := "ill", desc := "(I)I" } : Jvm.MethodName) ({ cls := "RockingHorse", name := "ill", desc := "(I)I" } : Jvm.MethodName)) ∈ zTs := zTs_at 791 (by decide +kernel) (by decide +kernel)
theorem zw640 : (Jvm.Cond.code ({ cls := "RockingHorse", name := "ill", desc := "(I)I" } : Jvm.MethodName) prog_1_method_12_code (2 : Nat) (Option.some Jvm.ClassFile.FieldType.int)) ∈ zTs := zTs_at 792 (by decide +kernel) (by decide +kernel)
theorem zw646 : (Jvm.Cond.methodLink "RockingHorseLaw" (73 : Nat) ({ cls := "RockingHorse", name := "nights", desc := "(I)I" } : Jvm.MethodName)) ∈ zTs := zTs_at 798 (by decide +kernel) (by decide +kernel)
theorem zw647 : (Jvm.Cond.instanceMethod ({ cls := "RockingHorse", name := "nights", desc := "(I)I" } : Jvm.MethodName)) ∈ zTs := zTs_at 799 (by decide +kernel) (by decide +kernel)
theorem zw648 : (Jvm.Cond.selects "RockingHorse" ({ cls := "RockingHorse", name := "nights", desc := "(I)I" } : Jvm.MethodName) ({ cls := "RockingHorse", name := "nights", desc := "(I)I" } : Jvm.MethodName)) ∈ zTs := zTs_at 800 (by decide +kernel) (by decide +kernel)
theorem zw649 : (Jvm.Cond.code ({ cls := "RockingHorse", name := "nights", desc := "(I)I" } : Jvm.MethodName) prog_1_method_13_code (4 : Nat) (Option.some Jvm.ClassFile.FieldType.int)) ∈ zTs := zTs_at 801 (by decide +kernel) (by decide +kernel)
theorem zw695 : (Jvm.Cond.methodLink "RockingHorseLaw" (77 : Nat) ({ cls := "RockingHorse", name := "year", desc := "()I" } : Jvm.MethodName)) ∈ zTs := zTs_at 847 (by decide +kernel) (by decide +kernel)
theorem zw696 : (Jvm.Cond.instanceMethod ({ cls := "RockingHorse", name := "year", desc := "()I" } : Jvm.MethodName)) ∈ zTs := zTs_at 848 (by decide +kernel) (by decide +kernel)
theorem zw697 : (Jvm.Cond.selects "RockingHorse" ({ cls := "RockingHorse", name := "year", desc := "()I" } : Jvm.MethodName) ({ cls := "RockingHorse", name := "year", desc := "()I" } : Jvm.MethodName)) ∈ zTs := zTs_at 849 (by decide +kernel) (by decide +kernel)
theorem zw698 : (Jvm.Cond.code ({ cls := "RockingHorse", name := "year", desc := "()I" } : Jvm.MethodName) prog_1_method_14_code (6 : Nat) (Option.some Jvm.ClassFile.FieldType.int)) ∈ zTs := zTs_at 850 (by decide +kernel) (by decide +kernel)
theorem zw723 : (Jvm.Cond.methodLink "RockingHorseLaw" (81 : Nat) ({ cls := "RockingHorse", name := "undo", desc := "()I" } : Jvm.MethodName)) ∈ zTs := zTs_at 875 (by decide +kernel) (by decide +kernel)
theorem zw724 : (Jvm.Cond.instanceMethod ({ cls := "RockingHorse", name := "undo", desc := "()I" } : Jvm.MethodName)) ∈ zTs := zTs_at 876 (by decide +kernel) (by decide +kernel)
theorem zw725 : (Jvm.Cond.selects "RockingHorse" ({ cls := "RockingHorse", name := "undo", desc := "()I" } : Jvm.MethodName) ({ cls := "RockingHorse", name := "undo", desc := "()I" } : Jvm.MethodName)) ∈ zTs := zTs_at 877 (by decide +kernel) (by decide +kernel)
theorem zw726 : (Jvm.Cond.code ({ cls := "RockingHorse", name := "undo", desc := "()I" } : Jvm.MethodName) prog_1_method_15_code (1 : Nat) (Option.some Jvm.ClassFile.FieldType.int)) ∈ zTs := zTs_at 878 (by decide +kernel) (by decide +kernel)
theorem zw731 : (Jvm.Cond.methodLink "RockingHorseLaw" (85 : Nat) ({ cls := "RockingHorse", name := "gaps", desc := "()I" } : Jvm.MethodName)) ∈ zTs := zTs_at 883 (by decide +kernel) (by decide +kernel)
theorem zw732 : (Jvm.Cond.instanceMethod ({ cls := "RockingHorse", name := "gaps", desc := "()I" } : Jvm.MethodName)) ∈ zTs := zTs_at 884 (by decide +kernel) (by decide +kernel)
theorem zw733 : (Jvm.Cond.selects "RockingHorse" ({ cls := "RockingHorse", name := "gaps", desc := "()I" } : Jvm.MethodName) ({ cls := "RockingHorse", name := "gaps", desc := "()I" } : Jvm.MethodName)) ∈ zTs := zTs_at 885 (by decide +kernel) (by decide +kernel)
theorem zw734 : (Jvm.Cond.code ({ cls := "RockingHorse", name := "gaps", desc := "()I" } : Jvm.MethodName) prog_1_method_16_code (1 : Nat) (Option.some Jvm.ClassFile.FieldType.int)) ∈ zTs := zTs_at 886 (by decide +kernel) (by decide +kernel)
theorem zw736 : (Jvm.Cond.methodLink "RockingHorseLaw" (89 : Nat) ({ cls := "RockingHorse", name := "first", desc := "(I)I" } : Jvm.MethodName)) ∈ zTs := zTs_at 888 (by decide +kernel) (by decide +kernel)
theorem zw737 : (Jvm.Cond.instanceMethod ({ cls := "RockingHorse", name := "first", desc := "(I)I" } : Jvm.MethodName)) ∈ zTs := zTs_at 889 (by decide +kernel) (by decide +kernel)
theorem zw738 : (Jvm.Cond.selects "RockingHorse" ({ cls := "RockingHorse", name := "first", desc := "(I)I" } : Jvm.MethodName) ({ cls := "RockingHorse", name := "first", desc := "(I)I" } : Jvm.MethodName)) ∈ zTs := zTs_at 890 (by decide +kernel) (by decide +kernel)
theorem zw739 : (Jvm.Cond.code ({ cls := "RockingHorse", name := "first", desc := "(I)I" } : Jvm.MethodName) prog_1_method_17_code (3 : Nat) (Option.some Jvm.ClassFile.FieldType.int)) ∈ zTs := zTs_at 891 (by decide +kernel) (by decide +kernel)
theorem zw748 : (Jvm.Cond.methodLink "RockingHorseLaw" (93 : Nat) ({ cls := "RockingHorse", name := "later", desc := "(I)I" } : Jvm.MethodName)) ∈ zTs := zTs_at 900 (by decide +kernel) (by decide +kernel)
theorem zw749 : (Jvm.Cond.instanceMethod ({ cls := "RockingHorse", name := "later", desc := "(I)I" } : Jvm.MethodName)) ∈ zTs := zTs_at 901 (by decide +kernel) (by decide +kernel)
theorem zw750 : (Jvm.Cond.selects "RockingHorse" ({ cls := "RockingHorse", name := "later", desc := "(I)I" } : Jvm.MethodName) ({ cls := "RockingHorse", name := "later", desc := "(I)I" } : Jvm.MethodName)) ∈ zTs := zTs_at 902 (by decide +kernel) (by decide +kernel)
theorem zw751 : (Jvm.Cond.code ({ cls := "RockingHorse", name := "later", desc := "(I)I" } : Jvm.MethodName) prog_1_method_18_code (2 : Nat) (Option.some Jvm.ClassFile.FieldType.int)) ∈ zTs := zTs_at 903 (by decide +kernel) (by decide +kernel)
theorem zw757 : (Jvm.Cond.methodLink "RockingHorseLaw" (97 : Nat) ({ cls := "RockingHorse", name := "vigil", desc := "(I)I" } : Jvm.MethodName)) ∈ zTs := zTs_at 909 (by decide +kernel) (by decide +kernel)
theorem zw758 : (Jvm.Cond.instanceMethod ({ cls := "RockingHorse", name := "vigil", desc := "(I)I" } : Jvm.MethodName)) ∈ zTs := zTs_at 910 (by decide +kernel) (by decide +kernel)
theorem zw759 : (Jvm.Cond.selects "RockingHorse" ({ cls := "RockingHorse", name := "vigil", desc := "(I)I" } : Jvm.MethodName) ({ cls := "RockingHorse", name := "vigil", desc := "(I)I" } : Jvm.MethodName)) ∈ zTs := zTs_at 911 (by decide +kernel) (by decide +kernel)
theorem zw760 : (Jvm.Cond.code ({ cls := "RockingHorse", name := "vigil", desc := "(I)I" } : Jvm.MethodName) prog_1_method_19_code (6 : Nat) (Option.some Jvm.ClassFile.FieldType.int)) ∈ zTs := zTs_at 912 (by decide +kernel) (by decide +kernel)
theorem zw761 : (Jvm.Cond.methodLink "RockingHorseLaw" (101 : Nat) ({ cls := "RockingHorse", name := "trade", desc := "()I" } : Jvm.MethodName)) ∈ zTs := zTs_at 913 (by decide +kernel) (by decide +kernel)
theorem zw762 : (Jvm.Cond.instanceMethod ({ cls := "RockingHorse", name := "trade", desc := "()I" } : Jvm.MethodName)) ∈ zTs := zTs_at 914 (by decide +kernel) (by decide +kernel)
theorem zw763 : (Jvm.Cond.selects "RockingHorse" ({ cls := "RockingHorse", name := "trade", desc := "()I" } : Jvm.MethodName) ({ cls := "RockingHorse", name := "trade", desc := "()I" } : Jvm.MethodName)) ∈ zTs := zTs_at 915 (by decide +kernel) (by decide +kernel)
theorem zw764 : (Jvm.Cond.code ({ cls := "RockingHorse", name := "trade", desc := "()I" } : Jvm.MethodName) prog_1_method_20_code (7 : Nat) (Option.some Jvm.ClassFile.FieldType.int)) ∈ zTs := zTs_at 916 (by decide +kernel) (by decide +kernel)
theorem zw770 : (Jvm.Cond.methodLink "RockingHorseLaw" (105 : Nat) ({ cls := "RockingHorse", name := "easiest", desc := "()I" } : Jvm.MethodName)) ∈ zTs := zTs_at 922 (by decide +kernel) (by decide +kernel)
theorem zw771 : (Jvm.Cond.instanceMethod ({ cls := "RockingHorse", name := "easiest", desc := "()I" } : Jvm.MethodName)) ∈ zTs := zTs_at 923 (by decide +kernel) (by decide +kernel)
theorem zw772 : (Jvm.Cond.selects "RockingHorse" ({ cls := "RockingHorse", name := "easiest", desc := "()I" } : Jvm.MethodName) ({ cls := "RockingHorse", name := "easiest", desc := "()I" } : Jvm.MethodName)) ∈ zTs := zTs_at 924 (by decide +kernel) (by decide +kernel)
theorem zw773 : (Jvm.Cond.code ({ cls := "RockingHorse", name := "easiest", desc := "()I" } : Jvm.MethodName) prog_1_method_21_code (3 : Nat) (Option.some Jvm.ClassFile.FieldType.int)) ∈ zTs := zTs_at 925 (by decide +kernel) (by decide +kernel)
theorem zw839 : (Jvm.Cond.methodLink "RockingHorseLaw" (109 : Nat) ({ cls := "RockingHorse", name := "fewest", desc := "()I" } : Jvm.MethodName)) ∈ zTs := zTs_at 991 (by decide +kernel) (by decide +kernel)
theorem zw840 : (Jvm.Cond.instanceMethod ({ cls := "RockingHorse", name := "fewest", desc := "()I" } : Jvm.MethodName)) ∈ zTs := zTs_at 992 (by decide +kernel) (by decide +kernel)
theorem zw841 : (Jvm.Cond.selects "RockingHorse" ({ cls := "RockingHorse", name := "fewest", desc := "()I" } : Jvm.MethodName) ({ cls := "RockingHorse", name := "fewest", desc := "()I" } : Jvm.MethodName)) ∈ zTs := zTs_at 993 (by decide +kernel) (by decide +kernel)
theorem zw842 : (Jvm.Cond.code ({ cls := "RockingHorse", name := "fewest", desc := "()I" } : Jvm.MethodName) prog_1_method_22_code (3 : Nat) (Option.some Jvm.ClassFile.FieldType.int)) ∈ zTs := zTs_at 994 (by decide +kernel) (by decide +kernel)
theorem zw844 : (Jvm.Cond.methodLink "RockingHorseLaw" (113 : Nat) ({ cls := "RockingHorse", name := "bare", desc := "()I" } : Jvm.MethodName)) ∈ zTs := zTs_at 996 (by decide +kernel) (by decide +kernel)
theorem zw845 : (Jvm.Cond.instanceMethod ({ cls := "RockingHorse", name := "bare", desc := "()I" } : Jvm.MethodName)) ∈ zTs := zTs_at 997 (by decide +kernel) (by decide +kernel)
theorem zw846 : (Jvm.Cond.selects "RockingHorse" ({ cls := "RockingHorse", name := "bare", desc := "()I" } : Jvm.MethodName) ({ cls := "RockingHorse", name := "bare", desc := "()I" } : Jvm.MethodName)) ∈ zTs := zTs_at 998 (by decide +kernel) (by decide +kernel)
theorem zw847 : (Jvm.Cond.code ({ cls := "RockingHorse", name := "bare", desc := "()I" } : Jvm.MethodName) prog_1_method_23_code (4 : Nat) (Option.some Jvm.ClassFile.FieldType.int)) ∈ zTs := zTs_at 999 (by decide +kernel) (by decide +kernel)
theorem zw852 : (Jvm.Cond.methodLink "RockingHorseLaw" (117 : Nat) ({ cls := "RockingHorse", name := "rotas", desc := "()I" } : Jvm.MethodName)) ∈ zTs := zTs_at 1004 (by decide +kernel) (by decide +kernel)
theorem zw853 : (Jvm.Cond.instanceMethod ({ cls := "RockingHorse", name := "rotas", desc := "()I" } : Jvm.MethodName)) ∈ zTs := zTs_at 1005 (by decide +kernel) (by decide +kernel)
theorem zw854 : (Jvm.Cond.selects "RockingHorse" ({ cls := "RockingHorse", name := "rotas", desc := "()I" } : Jvm.MethodName) ({ cls := "RockingHorse", name := "rotas", desc := "()I" } : Jvm.MethodName)) ∈ zTs := zTs_at 1006 (by decide +kernel) (by decide +kernel)
theorem zw855 : (Jvm.Cond.code ({ cls := "RockingHorse", name := "rotas", desc := "()I" } : Jvm.MethodName) prog_1_method_24_code (1 : Nat) (Option.some Jvm.ClassFile.FieldType.int)) ∈ zTs := zTs_at 1007 (by decide +kernel) (by decide +kernel)
theorem zw872 : (Jvm.Cond.methodLink "RockingHorseLaw" (121 : Nat) ({ cls := "RockingHorse", name := "mended", desc := "(I)I" } : Jvm.MethodName)) ∈ zTs := zTs_at 1024 (by decide +kernel) (by decide +kernel)
theorem zw873 : (Jvm.Cond.instanceMethod ({ cls := "RockingHorse", name := "mended", desc := "(I)I" } : Jvm.MethodName)) ∈ zTs := zTs_at 1025 (by decide +kernel) (by decide +kernel)
theorem zw874 : (Jvm.Cond.selects "RockingHorse" ({ cls := "RockingHorse", name := "mended", desc := "(I)I" } : Jvm.MethodName) ({ cls := "RockingHorse", name := "mended", desc := "(I)I" } : Jvm.MethodName)) ∈ zTs := zTs_at 1026 (by decide +kernel) (by decide +kernel)
theorem zw875 : (Jvm.Cond.code ({ cls := "RockingHorse", name := "mended", desc := "(I)I" } : Jvm.MethodName) prog_1_method_25_code (4 : Nat) (Option.some Jvm.ClassFile.FieldType.int)) ∈ zTs := zTs_at 1027 (by decide +kernel) (by decide +kernel)
theorem zw880 : (Jvm.Cond.methodLink "RockingHorseLaw" (125 : Nat) ({ cls := "RockingHorse", name := "takes", desc := "()I" } : Jvm.MethodName)) ∈ zTs := zTs_at 1032 (by decide +kernel) (by decide +kernel)
theorem zw881 : (Jvm.Cond.instanceMethod ({ cls := "RockingHorse", name := "takes", desc := "()I" } : Jvm.MethodName)) ∈ zTs := zTs_at 1033 (by decide +kernel) (by decide +kernel)
theorem zw882 : (Jvm.Cond.selects "RockingHorse" ({ cls := "RockingHorse", name := "takes", desc := "()I" } : Jvm.MethodName) ({ cls := "RockingHorse", name := "takes", desc := "()I" } : Jvm.MethodName)) ∈ zTs := zTs_at 1034 (by decide +kernel) (by decide +kernel)
theorem zw883 : (Jvm.Cond.code ({ cls := "RockingHorse", name := "takes", desc := "()I" } : Jvm.MethodName) prog_1_method_26_code (6 : Nat) (Option.some Jvm.ClassFile.FieldType.int)) ∈ zTs := zTs_at 1035 (by decide +kernel) (by decide +kernel)
theorem zw884 : (Jvm.Cond.methodLink "RockingHorseLaw" (129 : Nat) ({ cls := "RockingHorse", name := "missed", desc := "(I)I" } : Jvm.MethodName)) ∈ zTs := zTs_at 1036 (by decide +kernel) (by decide +kernel)
theorem zw885 : (Jvm.Cond.instanceMethod ({ cls := "RockingHorse", name := "missed", desc := "(I)I" } : Jvm.MethodName)) ∈ zTs := zTs_at 1037 (by decide +kernel) (by decide +kernel)
theorem zw886 : (Jvm.Cond.selects "RockingHorse" ({ cls := "RockingHorse", name := "missed", desc := "(I)I" } : Jvm.MethodName) ({ cls := "RockingHorse", name := "missed", desc := "(I)I" } : Jvm.MethodName)) ∈ zTs := zTs_at 1038 (by decide +kernel) (by decide +kernel)
theorem zw887 : (Jvm.Cond.code ({ cls := "RockingHorse", name := "missed", desc := "(I)I" } : Jvm.MethodName) prog_1_method_27_code (6 : Nat) (Option.some Jvm.ClassFile.FieldType.int)) ∈ zTs := zTs_at 1039 (by decide +kernel) (by decide +kernel)
theorem zw888 : (Jvm.Cond.methodLink "RockingHorseLaw" (133 : Nat) ({ cls := "RockingHorse", name := "paid", desc := "(I)I" } : Jvm.MethodName)) ∈ zTs := zTs_at 1040 (by decide +kernel) (by decide +kernel)
theorem zw889 : (Jvm.Cond.instanceMethod ({ cls := "RockingHorse", name := "paid", desc := "(I)I" } : Jvm.MethodName)) ∈ zTs := zTs_at 1041 (by decide +kernel) (by decide +kernel)
theorem zw890 : (Jvm.Cond.selects "RockingHorse" ({ cls := "RockingHorse", name := "paid", desc := "(I)I" } : Jvm.MethodName) ({ cls := "RockingHorse", name := "paid", desc := "(I)I" } : Jvm.MethodName)) ∈ zTs := zTs_at 1042 (by decide +kernel) (by decide +kernel)
theorem zw891 : (Jvm.Cond.code ({ cls := "RockingHorse", name := "paid", desc := "(I)I" } : Jvm.MethodName) prog_1_method_28_code (8 : Nat) (Option.some Jvm.ClassFile.FieldType.int)) ∈ zTs := zTs_at 1043 (by decide +kernel) (by decide +kernel)
theorem zw892 : (Jvm.Cond.methodLink "RockingHorseLaw" (137 : Nat) ({ cls := "RockingHorse", name := "fairest", desc := "()I" } : Jvm.MethodName)) ∈ zTs := zTs_at 1044 (by decide +kernel) (by decide +kernel)
theorem zw893 : (Jvm.Cond.instanceMethod ({ cls := "RockingHorse", name := "fairest", desc := "()I" } : Jvm.MethodName)) ∈ zTs := zTs_at 1045 (by decide +kernel) (by decide +kernel)
theorem zw894 : (Jvm.Cond.selects "RockingHorse" ({ cls := "RockingHorse", name := "fairest", desc := "()I" } : Jvm.MethodName) ({ cls := "RockingHorse", name := "fairest", desc := "()I" } : Jvm.MethodName)) ∈ zTs := zTs_at 1046 (by decide +kernel) (by decide +kernel)
theorem zw895 : (Jvm.Cond.code ({ cls := "RockingHorse", name := "fairest", desc := "()I" } : Jvm.MethodName) prog_1_method_29_code (3 : Nat) (Option.some Jvm.ClassFile.FieldType.int)) ∈ zTs := zTs_at 1047 (by decide +kernel) (by decide +kernel)
theorem zw905 : (Jvm.Cond.methodLink "RockingHorseLaw" (141 : Nat) ({ cls := "RockingHorse", name := "away", desc := "()I" } : Jvm.MethodName)) ∈ zTs := zTs_at 1057 (by decide +kernel) (by decide +kernel)
theorem zw906 : (Jvm.Cond.instanceMethod ({ cls := "RockingHorse", name := "away", desc := "()I" } : Jvm.MethodName)) ∈ zTs := zTs_at 1058 (by decide +kernel) (by decide +kernel)
theorem zw907 : (Jvm.Cond.selects "RockingHorse" ({ cls := "RockingHorse", name := "away", desc := "()I" } : Jvm.MethodName) ({ cls := "RockingHorse", name := "away", desc := "()I" } : Jvm.MethodName)) ∈ zTs := zTs_at 1059 (by decide +kernel) (by decide +kernel)
theorem zw908 : (Jvm.Cond.code ({ cls := "RockingHorse", name := "away", desc := "()I" } : Jvm.MethodName) prog_1_method_30_code (5 : Nat) (Option.some Jvm.ClassFile.FieldType.int)) ∈ zTs := zTs_at 1060 (by decide +kernel) (by decide +kernel)
theorem zw914 : (Jvm.Cond.methodLink "RockingHorseLaw" (145 : Nat) ({ cls := "RockingHorse", name := "able", desc := "(I)I" } : Jvm.MethodName)) ∈ zTs := zTs_at 1066 (by decide +kernel) (by decide +kernel)
theorem zw915 : (Jvm.Cond.instanceMethod ({ cls := "RockingHorse", name := "able", desc := "(I)I" } : Jvm.MethodName)) ∈ zTs := zTs_at 1067 (by decide +kernel) (by decide +kernel)
theorem zw916 : (Jvm.Cond.selects "RockingHorse" ({ cls := "RockingHorse", name := "able", desc := "(I)I" } : Jvm.MethodName) ({ cls := "RockingHorse", name := "able", desc := "(I)I" } : Jvm.MethodName)) ∈ zTs := zTs_at 1068 (by decide +kernel) (by decide +kernel)
theorem zw917 : (Jvm.Cond.code ({ cls := "RockingHorse", name := "able", desc := "(I)I" } : Jvm.MethodName) prog_1_method_31_code (5 : Nat) (Option.some Jvm.ClassFile.FieldType.int)) ∈ zTs := zTs_at 1069 (by decide +kernel) (by decide +kernel)
theorem zw923 : (Jvm.Cond.methodLink "RockingHorseLaw" (149 : Nat) ({ cls := "RockingHorse", name := "spent", desc := "(I)I" } : Jvm.MethodName)) ∈ zTs := zTs_at 1075 (by decide +kernel) (by decide +kernel)
theorem zw924 : (Jvm.Cond.instanceMethod ({ cls := "RockingHorse", name := "spent", desc := "(I)I" } : Jvm.MethodName)) ∈ zTs := zTs_at 1076 (by decide +kernel) (by decide +kernel)
theorem zw925 : (Jvm.Cond.selects "RockingHorse" ({ cls := "RockingHorse", name := "spent", desc := "(I)I" } : Jvm.MethodName) ({ cls := "RockingHorse", name := "spent", desc := "(I)I" } : Jvm.MethodName)) ∈ zTs := zTs_at 1077 (by decide +kernel) (by decide +kernel)
theorem zw926 : (Jvm.Cond.code ({ cls := "RockingHorse", name := "spent", desc := "(I)I" } : Jvm.MethodName) prog_1_method_32_code (6 : Nat) (Option.some Jvm.ClassFile.FieldType.int)) ∈ zTs := zTs_at 1078 (by decide +kernel) (by decide +kernel)
theorem zw931 : (Jvm.Cond.methodLink "RockingHorseLaw" (153 : Nat) ({ cls := "RockingHorse", name := "shared", desc := "(II)I" } : Jvm.MethodName)) ∈ zTs := zTs_at 1083 (by decide +kernel) (by decide +kernel)
theorem zw932 : (Jvm.Cond.instanceMethod ({ cls := "RockingHorse", name := "shared", desc := "(II)I" } : Jvm.MethodName)) ∈ zTs := zTs_at 1084 (by decide +kernel) (by decide +kernel)
theorem zw933 : (Jvm.Cond.selects "RockingHorse" ({ cls := "RockingHorse", name := "shared", desc := "(II)I" } : Jvm.MethodName) ({ cls := "RockingHorse", name := "shared", desc := "(II)I" } : Jvm.MethodName)) ∈ zTs := zTs_at 1085 (by decide +kernel) (by decide +kernel)
theorem zw934 : (Jvm.Cond.code ({ cls := "RockingHorse", name := "shared", desc := "(II)I" } : Jvm.MethodName) prog_1_method_33_code (3 : Nat) (Option.some Jvm.ClassFile.FieldType.int)) ∈ zTs := zTs_at 1086 (by decide +kernel) (by decide +kernel)
theorem zw935 : (Jvm.Cond.methodLink "RockingHorseLaw" (157 : Nat) ({ cls := "RockingHorse", name := "thin", desc := "()I" } : Jvm.MethodName)) ∈ zTs := zTs_at 1087 (by decide +kernel) (by decide +kernel)
theorem zw936 : (Jvm.Cond.instanceMethod ({ cls := "RockingHorse", name := "thin", desc := "()I" } : Jvm.MethodName)) ∈ zTs := zTs_at 1088 (by decide +kernel) (by decide +kernel)
theorem zw937 : (Jvm.Cond.selects "RockingHorse" ({ cls := "RockingHorse", name := "thin", desc := "()I" } : Jvm.MethodName) ({ cls := "RockingHorse", name := "thin", desc := "()I" } : Jvm.MethodName)) ∈ zTs := zTs_at 1089 (by decide +kernel) (by decide +kernel)
theorem zw938 : (Jvm.Cond.code ({ cls := "RockingHorse", name := "thin", desc := "()I" } : Jvm.MethodName) prog_1_method_34_code (6 : Nat) (Option.some Jvm.ClassFile.FieldType.int)) ∈ zTs := zTs_at 1090 (by decide +kernel) (by decide +kernel)
theorem zw939 : (Jvm.Cond.methodLink "RockingHorseLaw" (161 : Nat) ({ cls := "RockingHorse", name := "changes", desc := "()I" } : Jvm.MethodName)) ∈ zTs := zTs_at 1091 (by decide +kernel) (by decide +kernel)
theorem zw940 : (Jvm.Cond.instanceMethod ({ cls := "RockingHorse", name := "changes", desc := "()I" } : Jvm.MethodName)) ∈ zTs := zTs_at 1092 (by decide +kernel) (by decide +kernel)
theorem zw941 : (Jvm.Cond.selects "RockingHorse" ({ cls := "RockingHorse", name := "changes", desc := "()I" } : Jvm.MethodName) ({ cls := "RockingHorse", name := "changes", desc := "()I" } : Jvm.MethodName)) ∈ zTs := zTs_at 1093 (by decide +kernel) (by decide +kernel)
theorem zw942 : (Jvm.Cond.code ({ cls := "RockingHorse", name := "changes", desc := "()I" } : Jvm.MethodName) prog_1_method_35_code (8 : Nat) (Option.some Jvm.ClassFile.FieldType.int)) ∈ zTs := zTs_at 1094 (by decide +kernel) (by decide +kernel)
theorem zw944 : (Jvm.Cond.methodLink "RockingHorseLaw" (165 : Nat) ({ cls := "RockingHorse", name := "smoothest", desc := "()I" } : Jvm.MethodName)) ∈ zTs := zTs_at 1096 (by decide +kernel) (by decide +kernel)
theorem zw945 : (Jvm.Cond.instanceMethod ({ cls := "RockingHorse", name := "smoothest", desc := "()I" } : Jvm.MethodName)) ∈ zTs := zTs_at 1097 (by decide +kernel) (by decide +kernel)
theorem zw946 : (Jvm.Cond.selects "RockingHorse" ({ cls := "RockingHorse", name := "smoothest", desc := "()I" } : Jvm.MethodName) ({ cls := "RockingHorse", name := "smoothest", desc := "()I" } : Jvm.MethodName)) ∈ zTs := zTs_at 1098 (by decide +kernel) (by decide +kernel)
theorem zw947 : (Jvm.Cond.code ({ cls := "RockingHorse", name := "smoothest", desc := "()I" } : Jvm.MethodName) prog_1_method_36_code (3 : Nat) (Option.some Jvm.ClassFile.FieldType.int)) ∈ zTs := zTs_at 1099 (by decide +kernel) (by decide +kernel)
theorem zw952 : (Jvm.Cond.methodLink "RockingHorseLaw" (169 : Nat) ({ cls := "RockingHorse", name := "meets", desc := "(III)I" } : Jvm.MethodName)) ∈ zTs := zTs_at 1104 (by decide +kernel) (by decide +kernel)
theorem zw953 : (Jvm.Cond.instanceMethod ({ cls := "RockingHorse", name := "meets", desc := "(III)I" } : Jvm.MethodName)) ∈ zTs := zTs_at 1105 (by decide +kernel) (by decide +kernel)
theorem zw954 : (Jvm.Cond.selects "RockingHorse" ({ cls := "RockingHorse", name := "meets", desc := "(III)I" } : Jvm.MethodName) ({ cls := "RockingHorse", name := "meets", desc := "(III)I" } : Jvm.MethodName)) ∈ zTs := zTs_at 1106 (by decide +kernel) (by decide +kernel)
theorem zw955 : (Jvm.Cond.code ({ cls := "RockingHorse", name := "meets", desc := "(III)I" } : Jvm.MethodName) prog_1_method_37_code (7 : Nat) (Option.some Jvm.ClassFile.FieldType.int)) ∈ zTs := zTs_at 1107 (by decide +kernel) (by decide +kernel)
theorem zw956 : (Jvm.Cond.methodLink "RockingHorseLaw" (174 : Nat) ({ cls := "RockingHorse", name := "found", desc := "(III)I" } : Jvm.MethodName)) ∈ zTs := zTs_at 1108 (by decide +kernel) (by decide +kernel)
theorem zw957 : (Jvm.Cond.instanceMethod ({ cls := "RockingHorse", name := "found", desc := "(III)I" } : Jvm.MethodName)) ∈ zTs := zTs_at 1109 (by decide +kernel) (by decide +kernel)
theorem zw958 : (Jvm.Cond.selects "RockingHorse" ({ cls := "RockingHorse", name := "found", desc := "(III)I" } : Jvm.MethodName) ({ cls := "RockingHorse", name := "found", desc := "(III)I" } : Jvm.MethodName)) ∈ zTs := zTs_at 1110 (by decide +kernel) (by decide +kernel)
theorem zw959 : (Jvm.Cond.code ({ cls := "RockingHorse", name := "found", desc := "(III)I" } : Jvm.MethodName) prog_1_method_38_code (4 : Nat) (Option.some Jvm.ClassFile.FieldType.int)) ∈ zTs := zTs_at 1111 (by decide +kernel) (by decide +kernel)
theorem zw960 : (Jvm.Cond.methodLink "RockingHorseLaw" (178 : Nat) ({ cls := "RockingHorse", name := "forget", desc := "()I" } : Jvm.MethodName)) ∈ zTs := zTs_at 1112 (by decide +kernel) (by decide +kernel)
theorem zw961 : (Jvm.Cond.instanceMethod ({ cls := "RockingHorse", name := "forget", desc := "()I" } : Jvm.MethodName)) ∈ zTs := zTs_at 1113 (by decide +kernel) (by decide +kernel)
theorem zw962 : (Jvm.Cond.selects "RockingHorse" ({ cls := "RockingHorse", name := "forget", desc := "()I" } : Jvm.MethodName) ({ cls := "RockingHorse", name := "forget", desc := "()I" } : Jvm.MethodName)) ∈ zTs := zTs_at 1114 (by decide +kernel) (by decide +kernel)
theorem zw963 : (Jvm.Cond.code ({ cls := "RockingHorse", name := "forget", desc := "()I" } : Jvm.MethodName) prog_1_method_39_code (2 : Nat) (Option.some Jvm.ClassFile.FieldType.int)) ∈ zTs := zTs_at 1115 (by decide +kernel) (by decide +kernel)
theorem zw964 : (Jvm.Cond.methodLink "RockingHorseLaw" (182 : Nat) ({ cls := "RockingHorse", name := "fits", desc := "()I" } : Jvm.MethodName)) ∈ zTs := zTs_at 1116 (by decide +kernel) (by decide +kernel)
theorem zw965 : (Jvm.Cond.instanceMethod ({ cls := "RockingHorse", name := "fits", desc := "()I" } : Jvm.MethodName)) ∈ zTs := zTs_at 1117 (by decide +kernel) (by decide +kernel)
theorem zw966 : (Jvm.Cond.selects "RockingHorse" ({ cls := "RockingHorse", name := "fits", desc := "()I" } : Jvm.MethodName) ({ cls := "RockingHorse", name := "fits", desc := "()I" } : Jvm.MethodName)) ∈ zTs := zTs_at 1118 (by decide +kernel) (by decide +kernel)
theorem zw967 : (Jvm.Cond.code ({ cls := "RockingHorse", name := "fits", desc := "()I" } : Jvm.MethodName) prog_1_method_40_code (1 : Nat) (Option.some Jvm.ClassFile.FieldType.int)) ∈ zTs := zTs_at 1119 (by decide +kernel) (by decide +kernel)
theorem zw981 : (Jvm.Cond.methodLink "RockingHorseLaw" (186 : Nat) ({ cls := "RockingHorse", name := "sure", desc := "(II)I" } : Jvm.MethodName)) ∈ zTs := zTs_at 1133 (by decide +kernel) (by decide +kernel)
theorem zw982 : (Jvm.Cond.instanceMethod ({ cls := "RockingHorse", name := "sure", desc := "(II)I" } : Jvm.MethodName)) ∈ zTs := zTs_at 1134 (by decide +kernel) (by decide +kernel)
theorem zw983 : (Jvm.Cond.selects "RockingHorse" ({ cls := "RockingHorse", name := "sure", desc := "(II)I" } : Jvm.MethodName) ({ cls := "RockingHorse", name := "sure", desc := "(II)I" } : Jvm.MethodName)) ∈ zTs := zTs_at 1135 (by decide +kernel) (by decide +kernel)
theorem zw984 : (Jvm.Cond.code ({ cls := "RockingHorse", name := "sure", desc := "(II)I" } : Jvm.MethodName) prog_1_method_41_code (5 : Nat) (Option.some Jvm.ClassFile.FieldType.int)) ∈ zTs := zTs_at 1136 (by decide +kernel) (by decide +kernel)
theorem zw992 : (Jvm.Cond.methodLink "RockingHorseLaw" (190 : Nat) ({ cls := "RockingHorse", name := "ask", desc := "()I" } : Jvm.MethodName)) ∈ zTs := zTs_at 1144 (by decide +kernel) (by decide +kernel)
theorem zw993 : (Jvm.Cond.instanceMethod ({ cls := "RockingHorse", name := "ask", desc := "()I" } : Jvm.MethodName)) ∈ zTs := zTs_at 1145 (by decide +kernel) (by decide +kernel)
theorem zw994 : (Jvm.Cond.selects "RockingHorse" ({ cls := "RockingHorse", name := "ask", desc := "()I" } : Jvm.MethodName) ({ cls := "RockingHorse", name := "ask", desc := "()I" } : Jvm.MethodName)) ∈ zTs := zTs_at 1146 (by decide +kernel) (by decide +kernel)
theorem zw995 : (Jvm.Cond.code ({ cls := "RockingHorse", name := "ask", desc := "()I" } : Jvm.MethodName) prog_1_method_42_code (5 : Nat) (Option.some Jvm.ClassFile.FieldType.int)) ∈ zTs := zTs_at 1147 (by decide +kernel) (by decide +kernel)
theorem zw1013 : (Jvm.Cond.methodLink "RockingHorseLaw" (194 : Nat) ({ cls := "RockingHorse", name := "held", desc := "(I)I" } : Jvm.MethodName)) ∈ zTs := zTs_at 1165 (by decide +kernel) (by decide +kernel)
theorem zw1014 : (Jvm.Cond.instanceMethod ({ cls := "RockingHorse", name := "held", desc := "(I)I" } : Jvm.MethodName)) ∈ zTs := zTs_at 1166 (by decide +kernel) (by decide +kernel)
theorem zw1015 : (Jvm.Cond.selects "RockingHorse" ({ cls := "RockingHorse", name := "held", desc := "(I)I" } : Jvm.MethodName) ({ cls := "RockingHorse", name := "held", desc := "(I)I" } : Jvm.MethodName)) ∈ zTs := zTs_at 1167 (by decide +kernel) (by decide +kernel)
theorem zw1016 : (Jvm.Cond.code ({ cls := "RockingHorse", name := "held", desc := "(I)I" } : Jvm.MethodName) prog_1_method_43_code (2 : Nat) (Option.some Jvm.ClassFile.FieldType.int)) ∈ zTs := zTs_at 1168 (by decide +kernel) (by decide +kernel)
theorem zw1037 : (Jvm.Cond.methodLink "RockingHorseLaw" (198 : Nat) ({ cls := "RockingHorse", name := "keystone", desc := "(I)I" } : Jvm.MethodName)) ∈ zTs := zTs_at 1189 (by decide +kernel) (by decide +kernel)
theorem zw1038 : (Jvm.Cond.instanceMethod ({ cls := "RockingHorse", name := "keystone", desc := "(I)I" } : Jvm.MethodName)) ∈ zTs := zTs_at 1190 (by decide +kernel) (by decide +kernel)
theorem zw1039 : (Jvm.Cond.selects "RockingHorse" ({ cls := "RockingHorse", name := "keystone", desc := "(I)I" } : Jvm.MethodName) ({ cls := "RockingHorse", name := "keystone", desc := "(I)I" } : Jvm.MethodName)) ∈ zTs := zTs_at 1191 (by decide +kernel) (by decide +kernel)
theorem zw1040 : (Jvm.Cond.code ({ cls := "RockingHorse", name := "keystone", desc := "(I)I" } : Jvm.MethodName) prog_1_method_44_code (9 : Nat) (Option.some Jvm.ClassFile.FieldType.int)) ∈ zTs := zTs_at 1192 (by decide +kernel) (by decide +kernel)
theorem zw1041 : (Jvm.Cond.methodLink "RockingHorseLaw" (202 : Nat) ({ cls := "RockingHorse", name := "rests", desc := "(II)I" } : Jvm.MethodName)) ∈ zTs := zTs_at 1193 (by decide +kernel) (by decide +kernel)
theorem zw1042 : (Jvm.Cond.instanceMethod ({ cls := "RockingHorse", name := "rests", desc := "(II)I" } : Jvm.MethodName)) ∈ zTs := zTs_at 1194 (by decide +kernel) (by decide +kernel)
theorem zw1043 : (Jvm.Cond.selects "RockingHorse" ({ cls := "RockingHorse", name := "rests", desc := "(II)I" } : Jvm.MethodName) ({ cls := "RockingHorse", name := "rests", desc := "(II)I" } : Jvm.MethodName)) ∈ zTs := zTs_at 1195 (by decide +kernel) (by decide +kernel)
theorem zw1044 : (Jvm.Cond.code ({ cls := "RockingHorse", name := "rests", desc := "(II)I" } : Jvm.MethodName) prog_1_method_45_code (7 : Nat) (Option.some Jvm.ClassFile.FieldType.int)) ∈ zTs := zTs_at 1196 (by decide +kernel) (by decide +kernel)
theorem zw1048 : (Jvm.Cond.methodLink "RockingHorseLaw" (206 : Nat) ({ cls := "RockingHorse", name := "law", desc := "()I" } : Jvm.MethodName)) ∈ zTs := zTs_at 1200 (by decide +kernel) (by decide +kernel)
theorem zw1049 : (Jvm.Cond.instanceMethod ({ cls := "RockingHorse", name := "law", desc := "()I" } : Jvm.MethodName)) ∈ zTs := zTs_at 1201 (by decide +kernel) (by decide +kernel)
theorem zw1050 : (Jvm.Cond.selects "RockingHorse" ({ cls := "RockingHorse", name := "law", desc := "()I" } : Jvm.MethodName) ({ cls := "RockingHorse", name := "law", desc := "()I" } : Jvm.MethodName)) ∈ zTs := zTs_at 1202 (by decide +kernel) (by decide +kernel)
theorem zw1051 : (Jvm.Cond.code ({ cls := "RockingHorse", name := "law", desc := "()I" } : Jvm.MethodName) prog_1_method_46_code (4 : Nat) (Option.some Jvm.ClassFile.FieldType.int)) ∈ zTs := zTs_at 1203 (by decide +kernel) (by decide +kernel)
theorem zw1056 : (Jvm.Cond.methodLink "RockingHorseLaw" (210 : Nat) ({ cls := "RockingHorse", name := "years", desc := "(II)I" } : Jvm.MethodName)) ∈ zTs := zTs_at 1208 (by decide +kernel) (by decide +kernel)
theorem zw1057 : (Jvm.Cond.instanceMethod ({ cls := "RockingHorse", name := "years", desc := "(II)I" } : Jvm.MethodName)) ∈ zTs := zTs_at 1209 (by decide +kernel) (by decide +kernel)
theorem zw1058 : (Jvm.Cond.selects "RockingHorse" ({ cls := "RockingHorse", name := "years", desc := "(II)I" } : Jvm.MethodName) ({ cls := "RockingHorse", name := "years", desc := "(II)I" } : Jvm.MethodName)) ∈ zTs := zTs_at 1210 (by decide +kernel) (by decide +kernel)
theorem zw1059 : (Jvm.Cond.code ({ cls := "RockingHorse", name := "years", desc := "(II)I" } : Jvm.MethodName) prog_1_method_47_code (4 : Nat) (Option.some Jvm.ClassFile.FieldType.int)) ∈ zTs := zTs_at 1211 (by decide +kernel) (by decide +kernel)
theorem zw1069 : (Jvm.Cond.methodLink "RockingHorseLaw" (214 : Nat) ({ cls := "RockingHorse", name := "keep", desc := "(I)Z" } : Jvm.MethodName)) ∈ zTs := zTs_at 1221 (by decide +kernel) (by decide +kernel)
theorem zw1070 : (Jvm.Cond.instanceMethod ({ cls := "RockingHorse", name := "keep", desc := "(I)Z" } : Jvm.MethodName)) ∈ zTs := zTs_at 1222 (by decide +kernel) (by decide +kernel)
theorem zw1071 : (Jvm.Cond.selects "RockingHorse" ({ cls := "RockingHorse", name := "keep", desc := "(I)Z" } : Jvm.MethodName) ({ cls := "RockingHorse", name := "keep", desc := "(I)Z" } : Jvm.MethodName)) ∈ zTs := zTs_at 1223 (by decide +kernel) (by decide +kernel)
theorem zw1072 : (Jvm.Cond.code ({ cls := "RockingHorse", name := "keep", desc := "(I)Z" } : Jvm.MethodName) prog_1_method_48_code (2 : Nat) (Option.some Jvm.ClassFile.FieldType.boolean)) ∈ zTs := zTs_at 1224 (by decide +kernel) (by decide +kernel)
theorem zw1073 : (Jvm.Cond.methodLink "RockingHorseLaw" (218 : Nat) ({ cls := "RockingHorse", name := "again", desc := "(I)Z" } : Jvm.MethodName)) ∈ zTs := zTs_at 1225 (by decide +kernel) (by decide +kernel)
theorem zw1074 : (Jvm.Cond.instanceMethod ({ cls := "RockingHorse", name := "again", desc := "(I)Z" } : Jvm.MethodName)) ∈ zTs := zTs_at 1226 (by decide +kernel) (by decide +kernel)
theorem zw1075 : (Jvm.Cond.selects "RockingHorse" ({ cls := "RockingHorse", name := "again", desc := "(I)Z" } : Jvm.MethodName) ({ cls := "RockingHorse", name := "again", desc := "(I)Z" } : Jvm.MethodName)) ∈ zTs := zTs_at 1227 (by decide +kernel) (by decide +kernel)
theorem zw1076 : (Jvm.Cond.code ({ cls := "RockingHorse", name := "again", desc := "(I)Z" } : Jvm.MethodName) prog_1_method_49_code (2 : Nat) (Option.some Jvm.ClassFile.FieldType.boolean)) ∈ zTs := zTs_at 1228 (by decide +kernel) (by decide +kernel)
theorem zw1077 : (Jvm.Cond.methodLink "RockingHorseLaw" (222 : Nat) ({ cls := "RockingHorse", name := "count", desc := "(I)I" } : Jvm.MethodName)) ∈ zTs := zTs_at 1229 (by decide +kernel) (by decide +kernel)
theorem zw1078 : (Jvm.Cond.instanceMethod ({ cls := "RockingHorse", name := "count", desc := "(I)I" } : Jvm.MethodName)) ∈ zTs := zTs_at 1230 (by decide +kernel) (by decide +kernel)
theorem zw1079 : (Jvm.Cond.selects "RockingHorse" ({ cls := "RockingHorse", name := "count", desc := "(I)I" } : Jvm.MethodName) ({ cls := "RockingHorse", name := "count", desc := "(I)I" } : Jvm.MethodName)) ∈ zTs := zTs_at 1231 (by decide +kernel) (by decide +kernel)
theorem zw1080 : (Jvm.Cond.code ({ cls := "RockingHorse", name := "count", desc := "(I)I" } : Jvm.MethodName) prog_1_method_50_code (2 : Nat) (Option.some Jvm.ClassFile.FieldType.int)) ∈ zTs := zTs_at 1232 (by decide +kernel) (by decide +kernel)
theorem zw1165 : (Jvm.Cond.classLink "RockingHorseLaw" (20 : Nat) "RockingHorseModel") ∈ zTs := zTs_at 1317 (by decide +kernel) (by decide +kernel)
theorem zw1166 : (Jvm.Cond.instantiable "RockingHorseModel" (51 : Nat)) ∈ zTs := zTs_at 1318 (by decide +kernel) (by decide +kernel)
theorem zw1167 : (Jvm.Cond.methodLink "RockingHorseLaw" (22 : Nat) ({ cls := "RockingHorseModel", name := "<init>", desc := "()V" } : Jvm.MethodName)) ∈ zTs := zTs_at 1319 (by decide +kernel) (by decide +kernel)
theorem zw1168 : (Jvm.Cond.instanceMethod ({ cls := "RockingHorseModel", name := "<init>", desc := "()V" } : Jvm.MethodName)) ∈ zTs := zTs_at 1320 (by decide +kernel) (by decide +kernel)
theorem zw1169 : (Jvm.Cond.code ({ cls := "RockingHorseModel", name := "<init>", desc := "()V" } : Jvm.MethodName) prog_10_method_1_code (2 : Nat) (Option.none : Option Jvm.ClassFile.FieldType)) ∈ zTs := zTs_at 1321 (by decide +kernel) (by decide +kernel)
theorem zw1326 : (Jvm.Cond.methodLink "RockingHorseLaw" (27 : Nat) ({ cls := "RockingHorseModel", name := "sign", desc := "(I)I" } : Jvm.MethodName)) ∈ zTs := zTs_at 1478 (by decide +kernel) (by decide +kernel)
theorem zw1327 : (Jvm.Cond.instanceMethod ({ cls := "RockingHorseModel", name := "sign", desc := "(I)I" } : Jvm.MethodName)) ∈ zTs := zTs_at 1479 (by decide +kernel) (by decide +kernel)
theorem zw1328 : (Jvm.Cond.selects "RockingHorseModel" ({ cls := "RockingHorseModel", name := "sign", desc := "(I)I" } : Jvm.MethodName) ({ cls := "RockingHorseModel", name := "sign", desc := "(I)I" } : Jvm.MethodName)) ∈ zTs := zTs_at 1480 (by decide +kernel) (by decide +kernel)
theorem zw1329 : (Jvm.Cond.code ({ cls := "RockingHorseModel", name := "sign", desc := "(I)I" } : Jvm.MethodName) prog_10_method_11_code (3 : Nat) (Option.some Jvm.ClassFile.FieldType.int)) ∈ zTs := zTs_at 1481 (by decide +kernel) (by decide +kernel)
theorem zw1330 : (Jvm.Cond.methodLink "RockingHorseLaw" (32 : Nat) ({ cls := "RockingHorseModel", name := "end", desc := "(I)Z" } : Jvm.MethodName)) ∈ zTs := zTs_at 1482 (by decide +kernel) (by decide +kernel)
theorem zw1331 : (Jvm.Cond.instanceMethod ({ cls := "RockingHorseModel", name := "end", desc := "(I)Z" } : Jvm.MethodName)) ∈ zTs := zTs_at 1483 (by decide +kernel) (by decide +kernel)
theorem zw1332 : (Jvm.Cond.selects "RockingHorseModel" ({ cls := "RockingHorseModel", name := "end", desc := "(I)Z" } : Jvm.MethodName) ({ cls := "RockingHorseModel", name := "end", desc := "(I)Z" } : Jvm.MethodName)) ∈ zTs := zTs_at 1484 (by decide +kernel) (by decide +kernel)
theorem zw1333 : (Jvm.Cond.code ({ cls := "RockingHorseModel", name := "end", desc := "(I)Z" } : Jvm.MethodName) prog_10_method_12_code (2 : Nat) (Option.some Jvm.ClassFile.FieldType.boolean)) ∈ zTs := zTs_at 1485 (by decide +kernel) (by decide +kernel)
theorem zw1337 : (Jvm.Cond.methodLink "RockingHorseLaw" (37 : Nat) ({ cls := "RockingHorseModel", name := "riders", desc := "()I" } : Jvm.MethodName)) ∈ zTs := zTs_at 1489 (by decide +kernel) (by decide +kernel)
theorem zw1338 : (Jvm.Cond.instanceMethod ({ cls := "RockingHorseModel", name := "riders", desc := "()I" } : Jvm.MethodName)) ∈ zTs := zTs_at 1490 (by decide +kernel) (by decide +kernel)
theorem zw1339 : (Jvm.Cond.selects "RockingHorseModel" ({ cls := "RockingHorseModel", name := "riders", desc := "()I" } : Jvm.MethodName) ({ cls := "RockingHorseModel", name := "riders", desc := "()I" } : Jvm.MethodName)) ∈ zTs := zTs_at 1491 (by decide +kernel) (by decide +kernel)
theorem zw1340 : (Jvm.Cond.code ({ cls := "RockingHorseModel", name := "riders", desc := "()I" } : Jvm.MethodName) prog_10_method_24_code (4 : Nat) (Option.some Jvm.ClassFile.FieldType.int)) ∈ zTs := zTs_at 1492 (by decide +kernel) (by decide +kernel)
theorem zw1377 : (Jvm.Cond.methodLink "RockingHorseLaw" (41 : Nat) ({ cls := "RockingHorseModel", name := "rule", desc := "()I" } : Jvm.MethodName)) ∈ zTs := zTs_at 1529 (by decide +kernel) (by decide +kernel)
theorem zw1378 : (Jvm.Cond.instanceMethod ({ cls := "RockingHorseModel", name := "rule", desc := "()I" } : Jvm.MethodName)) ∈ zTs := zTs_at 1530 (by decide +kernel) (by decide +kernel)
theorem zw1379 : (Jvm.Cond.selects "RockingHorseModel" ({ cls := "RockingHorseModel", name := "rule", desc := "()I" } : Jvm.MethodName) ({ cls := "RockingHorseModel", name := "rule", desc := "()I" } : Jvm.MethodName)) ∈ zTs := zTs_at 1531 (by decide +kernel) (by decide +kernel)
theorem zw1380 : (Jvm.Cond.code ({ cls := "RockingHorseModel", name := "rule", desc := "()I" } : Jvm.MethodName) prog_10_method_31_code (3 : Nat) (Option.some Jvm.ClassFile.FieldType.int)) ∈ zTs := zTs_at 1532 (by decide +kernel) (by decide +kernel)
theorem zw1412 : (Jvm.Cond.methodLink "RockingHorseLaw" (47 : Nat) ({ cls := "RockingHorseModel", name := "rider", desc := "(II)I" } : Jvm.MethodName)) ∈ zTs := zTs_at 1564 (by decide +kernel) (by decide +kernel)
theorem zw1413 : (Jvm.Cond.instanceMethod ({ cls := "RockingHorseModel", name := "rider", desc := "(II)I" } : Jvm.MethodName)) ∈ zTs := zTs_at 1565 (by decide +kernel) (by decide +kernel)
theorem zw1414 : (Jvm.Cond.selects "RockingHorseModel" ({ cls := "RockingHorseModel", name := "rider", desc := "(II)I" } : Jvm.MethodName) ({ cls := "RockingHorseModel", name := "rider", desc := "(II)I" } : Jvm.MethodName)) ∈ zTs := zTs_at 1566 (by decide +kernel) (by decide +kernel)
theorem zw1415 : (Jvm.Cond.code ({ cls := "RockingHorseModel", name := "rider", desc := "(II)I" } : Jvm.MethodName) prog_10_method_34_code (3 : Nat) (Option.some Jvm.ClassFile.FieldType.int)) ∈ zTs := zTs_at 1567 (by decide +kernel) (by decide +kernel)
theorem zw1428 : (Jvm.Cond.methodLink "RockingHorseLaw" (51 : Nat) ({ cls := "RockingHorseModel", name := "hard", desc := "(II)I" } : Jvm.MethodName)) ∈ zTs := zTs_at 1580 (by decide +kernel) (by decide +kernel)
theorem zw1429 : (Jvm.Cond.instanceMethod ({ cls := "RockingHorseModel", name := "hard", desc := "(II)I" } : Jvm.MethodName)) ∈ zTs := zTs_at 1581 (by decide +kernel) (by decide +kernel)
theorem zw1430 : (Jvm.Cond.selects "RockingHorseModel" ({ cls := "RockingHorseModel", name := "hard", desc := "(II)I" } : Jvm.MethodName) ({ cls := "RockingHorseModel", name := "hard", desc := "(II)I" } : Jvm.MethodName)) ∈ zTs := zTs_at 1582 (by decide +kernel) (by decide +kernel)
theorem zw1431 : (Jvm.Cond.code ({ cls := "RockingHorseModel", name := "hard", desc := "(II)I" } : Jvm.MethodName) prog_10_method_35_code (3 : Nat) (Option.some Jvm.ClassFile.FieldType.int)) ∈ zTs := zTs_at 1583 (by decide +kernel) (by decide +kernel)
theorem zw1442 : (Jvm.Cond.methodLink "RockingHorseLaw" (55 : Nat) ({ cls := "RockingHorseModel", name := "set", desc := "(II)I" } : Jvm.MethodName)) ∈ zTs := zTs_at 1594 (by decide +kernel) (by decide +kernel)
theorem zw1443 : (Jvm.Cond.instanceMethod ({ cls := "RockingHorseModel", name := "set", desc := "(II)I" } : Jvm.MethodName)) ∈ zTs := zTs_at 1595 (by decide +kernel) (by decide +kernel)
theorem zw1444 : (Jvm.Cond.selects "RockingHorseModel" ({ cls := "RockingHorseModel", name := "set", desc := "(II)I" } : Jvm.MethodName) ({ cls := "RockingHorseModel", name := "set", desc := "(II)I" } : Jvm.MethodName)) ∈ zTs := zTs_at 1596 (by decide +kernel) (by decide +kernel)
theorem zw1445 : (Jvm.Cond.code ({ cls := "RockingHorseModel", name := "set", desc := "(II)I" } : Jvm.MethodName) prog_10_method_36_code (4 : Nat) (Option.some Jvm.ClassFile.FieldType.int)) ∈ zTs := zTs_at 1597 (by decide +kernel) (by decide +kernel)
theorem zw1446 : (Jvm.Cond.methodLink "RockingHorseLaw" (60 : Nat) ({ cls := "RockingHorseModel", name := "sheet", desc := "(IIII)I" } : Jvm.MethodName)) ∈ zTs := zTs_at 1598 (by decide +kernel) (by decide +kernel)
theorem zw1447 : (Jvm.Cond.instanceMethod ({ cls := "RockingHorseModel", name := "sheet", desc := "(IIII)I" } : Jvm.MethodName)) ∈ zTs := zTs_at 1599 (by decide +kernel) (by decide +kernel)
theorem zw1448 : (Jvm.Cond.selects "RockingHorseModel" ({ cls := "RockingHorseModel", name := "sheet", desc := "(IIII)I" } : Jvm.MethodName) ({ cls := "RockingHorseModel", name := "sheet", desc := "(IIII)I" } : Jvm.MethodName)) ∈ zTs := zTs_at 1600 (by decide +kernel) (by decide +kernel)
theorem zw1449 : (Jvm.Cond.code ({ cls := "RockingHorseModel", name := "sheet", desc := "(IIII)I" } : Jvm.MethodName) prog_10_method_37_code (9 : Nat) (Option.some Jvm.ClassFile.FieldType.int)) ∈ zTs := zTs_at 1601 (by decide +kernel) (by decide +kernel)
theorem zw1450 : (Jvm.Cond.methodLink "RockingHorseLaw" (64 : Nat) ({ cls := "RockingHorseModel", name := "rota", desc := "()I" } : Jvm.MethodName)) ∈ zTs := zTs_at 1602 (by decide +kernel) (by decide +kernel)
theorem zw1451 : (Jvm.Cond.instanceMethod ({ cls := "RockingHorseModel", name := "rota", desc := "()I" } : Jvm.MethodName)) ∈ zTs := zTs_at 1603 (by decide +kernel) (by decide +kernel)
theorem zw1452 : (Jvm.Cond.selects "RockingHorseModel" ({ cls := "RockingHorseModel", name := "rota", desc := "()I" } : Jvm.MethodName) ({ cls := "RockingHorseModel", name := "rota", desc := "()I" } : Jvm.MethodName)) ∈ zTs := zTs_at 1604 (by decide +kernel) (by decide +kernel)
theorem zw1453 : (Jvm.Cond.code ({ cls := "RockingHorseModel", name := "rota", desc := "()I" } : Jvm.MethodName) prog_10_method_40_code (3 : Nat) (Option.some Jvm.ClassFile.FieldType.int)) ∈ zTs := zTs_at 1605 (by decide +kernel) (by decide +kernel)
theorem zw1461 : (Jvm.Cond.methodLink "RockingHorseLaw" (68 : Nat) ({ cls := "RockingHorseModel", name := "give", desc := "(II)I" } : Jvm.MethodName)) ∈ zTs := zTs_at 1613 (by decide +kernel) (by decide +kernel)
theorem zw1462 : (Jvm.Cond.instanceMethod ({ cls := "RockingHorseModel", name := "give", desc := "(II)I" } : Jvm.MethodName)) ∈ zTs := zTs_at 1614 (by decide +kernel) (by decide +kernel)
theorem zw1463 : (Jvm.Cond.selects "RockingHorseModel" ({ cls := "RockingHorseModel", name := "give", desc := "(II)I" } : Jvm.MethodName) ({ cls := "RockingHorseModel", name := "give", desc := "(II)I" } : Jvm.MethodName)) ∈ zTs := zTs_at 1615 (by decide +kernel) (by decide +kernel)
theorem zw1464 : (Jvm.Cond.code ({ cls := "RockingHorseModel", name := "give", desc := "(II)I" } : Jvm.MethodName) prog_10_method_42_code (4 : Nat) (Option.some Jvm.ClassFile.FieldType.int)) ∈ zTs := zTs_at 1616 (by decide +kernel) (by decide +kernel)
theorem zw1469 : (Jvm.Cond.methodLink "RockingHorseLaw" (72 : Nat) ({ cls := "RockingHorseModel", name := "ill", desc := "(I)I" } : Jvm.MethodName)) ∈ zTs := zTs_at 1621 (by decide +kernel) (by decide +kernel)
theorem zw1470 : (Jvm.Cond.instanceMethod ({ cls := "RockingHorseModel", name := "ill", desc := "(I)I" } : Jvm.MethodName)) ∈ zTs := zTs_at 1622 (by decide +kernel) (by decide +kernel)
theorem zw1471 : (Jvm.Cond.selects "RockingHorseModel" ({ cls := "RockingHorseModel", name := "ill", desc := "(I)I" } : Jvm.MethodName) ({ cls := "RockingHorseModel", name := "ill", desc := "(I)I" } : Jvm.MethodName)) ∈ zTs := zTs_at 1623 (by decide +kernel) (by decide +kernel)
theorem zw1472 : (Jvm.Cond.code ({ cls := "RockingHorseModel", name := "ill", desc := "(I)I" } : Jvm.MethodName) prog_10_method_44_code (2 : Nat) (Option.some Jvm.ClassFile.FieldType.int)) ∈ zTs := zTs_at 1624 (by decide +kernel) (by decide +kernel)
theorem zw1477 : (Jvm.Cond.methodLink "RockingHorseLaw" (76 : Nat) ({ cls := "RockingHorseModel", name := "nights", desc := "(I)I" } : Jvm.MethodName)) ∈ zTs := zTs_at 1629 (by decide +kernel) (by decide +kernel)
theorem zw1478 : (Jvm.Cond.instanceMethod ({ cls := "RockingHorseModel", name := "nights", desc := "(I)I" } : Jvm.MethodName)) ∈ zTs := zTs_at 1630 (by decide +kernel) (by decide +kernel)
theorem zw1479 : (Jvm.Cond.selects "RockingHorseModel" ({ cls := "RockingHorseModel", name := "nights", desc := "(I)I" } : Jvm.MethodName) ({ cls := "RockingHorseModel", name := "nights", desc := "(I)I" } : Jvm.MethodName)) ∈ zTs := zTs_at 1631 (by decide +kernel) (by decide +kernel)
theorem zw1480 : (Jvm.Cond.code ({ cls := "RockingHorseModel", name := "nights", desc := "(I)I" } : Jvm.MethodName) prog_10_method_48_code (4 : Nat) (Option.some Jvm.ClassFile.FieldType.int)) ∈ zTs := zTs_at 1632 (by decide +kernel) (by decide +kernel)
theorem zw1501 : (Jvm.Cond.methodLink "RockingHorseLaw" (80 : Nat) ({ cls := "RockingHorseModel", name := "year", desc := "()I" } : Jvm.MethodName)) ∈ zTs := zTs_at 1653 (by decide +kernel) (by decide +kernel)
theorem zw1502 : (Jvm.Cond.instanceMethod ({ cls := "RockingHorseModel", name := "year", desc := "()I" } : Jvm.MethodName)) ∈ zTs := zTs_at 1654 (by decide +kernel) (by decide +kernel)
theorem zw1503 : (Jvm.Cond.selects "RockingHorseModel" ({ cls := "RockingHorseModel", name := "year", desc := "()I" } : Jvm.MethodName) ({ cls := "RockingHorseModel", name := "year", desc := "()I" } : Jvm.MethodName)) ∈ zTs := zTs_at 1655 (by decide +kernel) (by decide +kernel)
theorem zw1504 : (Jvm.Cond.code ({ cls := "RockingHorseModel", name := "year", desc := "()I" } : Jvm.MethodName) prog_10_method_50_code (3 : Nat) (Option.some Jvm.ClassFile.FieldType.int)) ∈ zTs := zTs_at 1656 (by decide +kernel) (by decide +kernel)
theorem zw1521 : (Jvm.Cond.methodLink "RockingHorseLaw" (84 : Nat) ({ cls := "RockingHorseModel", name := "undo", desc := "()I" } : Jvm.MethodName)) ∈ zTs := zTs_at 1673 (by decide +kernel) (by decide +kernel)
theorem zw1522 : (Jvm.Cond.instanceMethod ({ cls := "RockingHorseModel", name := "undo", desc := "()I" } : Jvm.MethodName)) ∈ zTs := zTs_at 1674 (by decide +kernel) (by decide +kernel)
theorem zw1523 : (Jvm.Cond.selects "RockingHorseModel" ({ cls := "RockingHorseModel", name := "undo", desc := "()I" } : Jvm.MethodName) ({ cls := "RockingHorseModel", name := "undo", desc := "()I" } : Jvm.MethodName)) ∈ zTs := zTs_at 1675 (by decide +kernel) (by decide +kernel)
theorem zw1524 : (Jvm.Cond.code ({ cls := "RockingHorseModel", name := "undo", desc := "()I" } : Jvm.MethodName) prog_10_method_53_code (2 : Nat) (Option.some Jvm.ClassFile.FieldType.int)) ∈ zTs := zTs_at 1676 (by decide +kernel) (by decide +kernel)
theorem zw1525 : (Jvm.Cond.methodLink "RockingHorseLaw" (88 : Nat) ({ cls := "RockingHorseModel", name := "gaps", desc := "()I" } : Jvm.MethodName)) ∈ zTs := zTs_at 1677 (by decide +kernel) (by decide +kernel)
theorem zw1526 : (Jvm.Cond.instanceMethod ({ cls := "RockingHorseModel", name := "gaps", desc := "()I" } : Jvm.MethodName)) ∈ zTs := zTs_at 1678 (by decide +kernel) (by decide +kernel)
theorem zw1527 : (Jvm.Cond.selects "RockingHorseModel" ({ cls := "RockingHorseModel", name := "gaps", desc := "()I" } : Jvm.MethodName) ({ cls := "RockingHorseModel", name := "gaps", desc := "()I" } : Jvm.MethodName)) ∈ zTs := zTs_at 1679 (by decide +kernel) (by decide +kernel)
theorem zw1528 : (Jvm.Cond.code ({ cls := "RockingHorseModel", name := "gaps", desc := "()I" } : Jvm.MethodName) prog_10_method_54_code (1 : Nat) (Option.some Jvm.ClassFile.FieldType.int)) ∈ zTs := zTs_at 1680 (by decide +kernel) (by decide +kernel)
theorem zw1529 : (Jvm.Cond.methodLink "RockingHorseLaw" (92 : Nat) ({ cls := "RockingHorseModel", name := "first", desc := "(I)I" } : Jvm.MethodName)) ∈ zTs := zTs_at 1681 (by decide +kernel) (by decide +kernel)
theorem zw1530 : (Jvm.Cond.instanceMethod ({ cls := "RockingHorseModel", name := "first", desc := "(I)I" } : Jvm.MethodName)) ∈ zTs := zTs_at 1682 (by decide +kernel) (by decide +kernel)
theorem zw1531 : (Jvm.Cond.selects "RockingHorseModel" ({ cls := "RockingHorseModel", name := "first", desc := "(I)I" } : Jvm.MethodName) ({ cls := "RockingHorseModel", name := "first", desc := "(I)I" } : Jvm.MethodName)) ∈ zTs := zTs_at 1683 (by decide +kernel) (by decide +kernel)
theorem zw1532 : (Jvm.Cond.code ({ cls := "RockingHorseModel", name := "first", desc := "(I)I" } : Jvm.MethodName) prog_10_method_55_code (3 : Nat) (Option.some Jvm.ClassFile.FieldType.int)) ∈ zTs := zTs_at 1684 (by decide +kernel) (by decide +kernel)
theorem zw1537 : (Jvm.Cond.methodLink "RockingHorseLaw" (96 : Nat) ({ cls := "RockingHorseModel", name := "later", desc := "(I)I" } : Jvm.MethodName)) ∈ zTs := zTs_at 1689 (by decide +kernel) (by decide +kernel)
theorem zw1538 : (Jvm.Cond.instanceMethod ({ cls := "RockingHorseModel", name := "later", desc := "(I)I" } : Jvm.MethodName)) ∈ zTs := zTs_at 1690 (by decide +kernel) (by decide +kernel)
theorem zw1539 : (Jvm.Cond.selects "RockingHorseModel" ({ cls := "RockingHorseModel", name := "later", desc := "(I)I" } : Jvm.MethodName) ({ cls := "RockingHorseModel", name := "later", desc := "(I)I" } : Jvm.MethodName)) ∈ zTs := zTs_at 1691 (by decide +kernel) (by decide +kernel)
theorem zw1540 : (Jvm.Cond.code ({ cls := "RockingHorseModel", name := "later", desc := "(I)I" } : Jvm.MethodName) prog_10_method_56_code (4 : Nat) (Option.some Jvm.ClassFile.FieldType.int)) ∈ zTs := zTs_at 1692 (by decide +kernel) (by decide +kernel)
theorem zw1541 : (Jvm.Cond.methodLink "RockingHorseLaw" (100 : Nat) ({ cls := "RockingHorseModel", name := "vigil", desc := "(I)I" } : Jvm.MethodName)) ∈ zTs := zTs_at 1693 (by decide +kernel) (by decide +kernel)
theorem zw1542 : (Jvm.Cond.instanceMethod ({ cls := "RockingHorseModel", name := "vigil", desc := "(I)I" } : Jvm.MethodName)) ∈ zTs := zTs_at 1694 (by decide +kernel) (by decide +kernel)
theorem zw1543 : (Jvm.Cond.selects "RockingHorseModel" ({ cls := "RockingHorseModel", name := "vigil", desc := "(I)I" } : Jvm.MethodName) ({ cls := "RockingHorseModel", name := "vigil", desc := "(I)I" } : Jvm.MethodName)) ∈ zTs := zTs_at 1695 (by decide +kernel) (by decide +kernel)
theorem zw1544 : (Jvm.Cond.code ({ cls := "RockingHorseModel", name := "vigil", desc := "(I)I" } : Jvm.MethodName) prog_10_method_57_code (6 : Nat) (Option.some Jvm.ClassFile.FieldType.int)) ∈ zTs := zTs_at 1696 (by decide +kernel) (by decide +kernel)
theorem zw1545 : (Jvm.Cond.methodLink "RockingHorseLaw" (104 : Nat) ({ cls := "RockingHorseModel", name := "trade", desc := "()I" } : Jvm.MethodName)) ∈ zTs := zTs_at 1697 (by decide +kernel) (by decide +kernel)
theorem zw1546 : (Jvm.Cond.instanceMethod ({ cls := "RockingHorseModel", name := "trade", desc := "()I" } : Jvm.MethodName)) ∈ zTs := zTs_at 1698 (by decide +kernel) (by decide +kernel)
theorem zw1547 : (Jvm.Cond.selects "RockingHorseModel" ({ cls := "RockingHorseModel", name := "trade", desc := "()I" } : Jvm.MethodName) ({ cls := "RockingHorseModel", name := "trade", desc := "()I" } : Jvm.MethodName)) ∈ zTs := zTs_at 1699 (by decide +kernel) (by decide +kernel)
theorem zw1548 : (Jvm.Cond.code ({ cls := "RockingHorseModel", name := "trade", desc := "()I" } : Jvm.MethodName) prog_10_method_58_code (6 : Nat) (Option.some Jvm.ClassFile.FieldType.int)) ∈ zTs := zTs_at 1700 (by decide +kernel) (by decide +kernel)
theorem zw1549 : (Jvm.Cond.methodLink "RockingHorseLaw" (108 : Nat) ({ cls := "RockingHorseModel", name := "easiest", desc := "()I" } : Jvm.MethodName)) ∈ zTs := zTs_at 1701 (by decide +kernel) (by decide +kernel)
theorem zw1550 : (Jvm.Cond.instanceMethod ({ cls := "RockingHorseModel", name := "easiest", desc := "()I" } : Jvm.MethodName)) ∈ zTs := zTs_at 1702 (by decide +kernel) (by decide +kernel)
theorem zw1551 : (Jvm.Cond.selects "RockingHorseModel" ({ cls := "RockingHorseModel", name := "easiest", desc := "()I" } : Jvm.MethodName) ({ cls := "RockingHorseModel", name := "easiest", desc := "()I" } : Jvm.MethodName)) ∈ zTs := zTs_at 1703 (by decide +kernel) (by decide +kernel)
theorem zw1552 : (Jvm.Cond.code ({ cls := "RockingHorseModel", name := "easiest", desc := "()I" } : Jvm.MethodName) prog_10_method_72_code (2 : Nat) (Option.some Jvm.ClassFile.FieldType.int)) ∈ zTs := zTs_at 1704 (by decide +kernel) (by decide +kernel)
theorem zw1605 : (Jvm.Cond.methodLink "RockingHorseLaw" (112 : Nat) ({ cls := "RockingHorseModel", name := "fewest", desc := "()I" } : Jvm.MethodName)) ∈ zTs := zTs_at 1757 (by decide +kernel) (by decide +kernel)
theorem zw1606 : (Jvm.Cond.instanceMethod ({ cls := "RockingHorseModel", name := "fewest", desc := "()I" } : Jvm.MethodName)) ∈ zTs := zTs_at 1758 (by decide +kernel) (by decide +kernel)
theorem zw1607 : (Jvm.Cond.selects "RockingHorseModel" ({ cls := "RockingHorseModel", name := "fewest", desc := "()I" } : Jvm.MethodName) ({ cls := "RockingHorseModel", name := "fewest", desc := "()I" } : Jvm.MethodName)) ∈ zTs := zTs_at 1759 (by decide +kernel) (by decide +kernel)
theorem zw1608 : (Jvm.Cond.code ({ cls := "RockingHorseModel", name := "fewest", desc := "()I" } : Jvm.MethodName) prog_10_method_74_code (3 : Nat) (Option.some Jvm.ClassFile.FieldType.int)) ∈ zTs := zTs_at 1760 (by decide +kernel) (by decide +kernel)
theorem zw1613 : (Jvm.Cond.methodLink "RockingHorseLaw" (116 : Nat) ({ cls := "RockingHorseModel", name := "bare", desc := "()I" } : Jvm.MethodName)) ∈ zTs := zTs_at 1765 (by decide +kernel) (by decide +kernel)
theorem zw1614 : (Jvm.Cond.instanceMethod ({ cls := "RockingHorseModel", name := "bare", desc := "()I" } : Jvm.MethodName)) ∈ zTs := zTs_at 1766 (by decide +kernel) (by decide +kernel)
theorem zw1615 : (Jvm.Cond.selects "RockingHorseModel" ({ cls := "RockingHorseModel", name := "bare", desc := "()I" } : Jvm.MethodName) ({ cls := "RockingHorseModel", name := "bare", desc := "()I" } : Jvm.MethodName)) ∈ zTs := zTs_at 1767 (by decide +kernel) (by decide +kernel)
theorem zw1616 : (Jvm.Cond.code ({ cls := "RockingHorseModel", name := "bare", desc := "()I" } : Jvm.MethodName) prog_10_method_75_code (3 : Nat) (Option.some Jvm.ClassFile.FieldType.int)) ∈ zTs := zTs_at 1768 (by decide +kernel) (by decide +kernel)
theorem zw1617 : (Jvm.Cond.methodLink "RockingHorseLaw" (120 : Nat) ({ cls := "RockingHorseModel", name := "rotas", desc := "()I" } : Jvm.MethodName)) ∈ zTs := zTs_at 1769 (by decide +kernel) (by decide +kernel)
theorem zw1618 : (Jvm.Cond.instanceMethod ({ cls := "RockingHorseModel", name := "rotas", desc := "()I" } : Jvm.MethodName)) ∈ zTs := zTs_at 1770 (by decide +kernel) (by decide +kernel)
theorem zw1619 : (Jvm.Cond.selects "RockingHorseModel" ({ cls := "RockingHorseModel", name := "rotas", desc := "()I" } : Jvm.MethodName) ({ cls := "RockingHorseModel", name := "rotas", desc := "()I" } : Jvm.MethodName)) ∈ zTs := zTs_at 1771 (by decide +kernel) (by decide +kernel)
theorem zw1620 : (Jvm.Cond.code ({ cls := "RockingHorseModel", name := "rotas", desc := "()I" } : Jvm.MethodName) prog_10_method_77_code (1 : Nat) (Option.some Jvm.ClassFile.FieldType.int)) ∈ zTs := zTs_at 1772 (by decide +kernel) (by decide +kernel)
theorem zw1629 : (Jvm.Cond.methodLink "RockingHorseLaw" (124 : Nat) ({ cls := "RockingHorseModel", name := "mended", desc := "(I)I" } : Jvm.MethodName)) ∈ zTs := zTs_at 1781 (by decide +kernel) (by decide +kernel)
theorem zw1630 : (Jvm.Cond.instanceMethod ({ cls := "RockingHorseModel", name := "mended", desc := "(I)I" } : Jvm.MethodName)) ∈ zTs := zTs_at 1782 (by decide +kernel) (by decide +kernel)
theorem zw1631 : (Jvm.Cond.selects "RockingHorseModel" ({ cls := "RockingHorseModel", name := "mended", desc := "(I)I" } : Jvm.MethodName) ({ cls := "RockingHorseModel", name := "mended", desc := "(I)I" } : Jvm.MethodName)) ∈ zTs := zTs_at 1783 (by decide +kernel) (by decide +kernel)
theorem zw1632 : (Jvm.Cond.code ({ cls := "RockingHorseModel", name := "mended", desc := "(I)I" } : Jvm.MethodName) prog_10_method_78_code (3 : Nat) (Option.some Jvm.ClassFile.FieldType.int)) ∈ zTs := zTs_at 1784 (by decide +kernel) (by decide +kernel)
theorem zw1633 : (Jvm.Cond.methodLink "RockingHorseLaw" (128 : Nat) ({ cls := "RockingHorseModel", name := "takes", desc := "()I" } : Jvm.MethodName)) ∈ zTs := zTs_at 1785 (by decide +kernel) (by decide +kernel)
theorem zw1634 : (Jvm.Cond.instanceMethod ({ cls := "RockingHorseModel", name := "takes", desc := "()I" } : Jvm.MethodName)) ∈ zTs := zTs_at 1786 (by decide +kernel) (by decide +kernel)
theorem zw1635 : (Jvm.Cond.selects "RockingHorseModel" ({ cls := "RockingHorseModel", name := "takes", desc := "()I" } : Jvm.MethodName) ({ cls := "RockingHorseModel", name := "takes", desc := "()I" } : Jvm.MethodName)) ∈ zTs := zTs_at 1787 (by decide +kernel) (by decide +kernel)
theorem zw1636 : (Jvm.Cond.code ({ cls := "RockingHorseModel", name := "takes", desc := "()I" } : Jvm.MethodName) prog_10_method_79_code (4 : Nat) (Option.some Jvm.ClassFile.FieldType.int)) ∈ zTs := zTs_at 1788 (by decide +kernel) (by decide +kernel)
theorem zw1637 : (Jvm.Cond.methodLink "RockingHorseLaw" (132 : Nat) ({ cls := "RockingHorseModel", name := "missed", desc := "(I)I" } : Jvm.MethodName)) ∈ zTs := zTs_at 1789 (by decide +kernel) (by decide +kernel)
theorem zw1638 : (Jvm.Cond.instanceMethod ({ cls := "RockingHorseModel", name := "missed", desc := "(I)I" } : Jvm.MethodName)) ∈ zTs := zTs_at 1790 (by decide +kernel) (by decide +kernel)
theorem zw1639 : (Jvm.Cond.selects "RockingHorseModel" ({ cls := "RockingHorseModel", name := "missed", desc := "(I)I" } : Jvm.MethodName) ({ cls := "RockingHorseModel", name := "missed", desc := "(I)I" } : Jvm.MethodName)) ∈ zTs := zTs_at 1791 (by decide +kernel) (by decide +kernel)
theorem zw1640 : (Jvm.Cond.code ({ cls := "RockingHorseModel", name := "missed", desc := "(I)I" } : Jvm.MethodName) prog_10_method_80_code (4 : Nat) (Option.some Jvm.ClassFile.FieldType.int)) ∈ zTs := zTs_at 1792 (by decide +kernel) (by decide +kernel)
theorem zw1641 : (Jvm.Cond.methodLink "RockingHorseLaw" (136 : Nat) ({ cls := "RockingHorseModel", name := "paid", desc := "(I)I" } : Jvm.MethodName)) ∈ zTs := zTs_at 1793 (by decide +kernel) (by decide +kernel)
theorem zw1642 : (Jvm.Cond.instanceMethod ({ cls := "RockingHorseModel", name := "paid", desc := "(I)I" } : Jvm.MethodName)) ∈ zTs := zTs_at 1794 (by decide +kernel) (by decide +kernel)
theorem zw1643 : (Jvm.Cond.selects "RockingHorseModel" ({ cls := "RockingHorseModel", name := "paid", desc := "(I)I" } : Jvm.MethodName) ({ cls := "RockingHorseModel", name := "paid", desc := "(I)I" } : Jvm.MethodName)) ∈ zTs := zTs_at 1795 (by decide +kernel) (by decide +kernel)
theorem zw1644 : (Jvm.Cond.code ({ cls := "RockingHorseModel", name := "paid", desc := "(I)I" } : Jvm.MethodName) prog_10_method_81_code (6 : Nat) (Option.some Jvm.ClassFile.FieldType.int)) ∈ zTs := zTs_at 1796 (by decide +kernel) (by decide +kernel)
theorem zw1645 : (Jvm.Cond.methodLink "RockingHorseLaw" (140 : Nat) ({ cls := "RockingHorseModel", name := "fairest", desc := "()I" } : Jvm.MethodName)) ∈ zTs := zTs_at 1797 (by decide +kernel) (by decide +kernel)
theorem zw1646 : (Jvm.Cond.instanceMethod ({ cls := "RockingHorseModel", name := "fairest", desc := "()I" } : Jvm.MethodName)) ∈ zTs := zTs_at 1798 (by decide +kernel) (by decide +kernel)
theorem zw1647 : (Jvm.Cond.selects "RockingHorseModel" ({ cls := "RockingHorseModel", name := "fairest", desc := "()I" } : Jvm.MethodName) ({ cls := "RockingHorseModel", name := "fairest", desc := "()I" } : Jvm.MethodName)) ∈ zTs := zTs_at 1799 (by decide +kernel) (by decide +kernel)
theorem zw1648 : (Jvm.Cond.code ({ cls := "RockingHorseModel", name := "fairest", desc := "()I" } : Jvm.MethodName) prog_10_method_82_code (4 : Nat) (Option.some Jvm.ClassFile.FieldType.int)) ∈ zTs := zTs_at 1800 (by decide +kernel) (by decide +kernel)
theorem zw1649 : (Jvm.Cond.methodLink "RockingHorseLaw" (144 : Nat) ({ cls := "RockingHorseModel", name := "away", desc := "()I" } : Jvm.MethodName)) ∈ zTs := zTs_at 1801 (by decide +kernel) (by decide +kernel)
theorem zw1650 : (Jvm.Cond.instanceMethod ({ cls := "RockingHorseModel", name := "away", desc := "()I" } : Jvm.MethodName)) ∈ zTs := zTs_at 1802 (by decide +kernel) (by decide +kernel)
theorem zw1651 : (Jvm.Cond.selects "RockingHorseModel" ({ cls := "RockingHorseModel", name := "away", desc := "()I" } : Jvm.MethodName) ({ cls := "RockingHorseModel", name := "away", desc := "()I" } : Jvm.MethodName)) ∈ zTs := zTs_at 1803 (by decide +kernel) (by decide +kernel)
theorem zw1652 : (Jvm.Cond.code ({ cls := "RockingHorseModel", name := "away", desc := "()I" } : Jvm.MethodName) prog_10_method_83_code (4 : Nat) (Option.some Jvm.ClassFile.FieldType.int)) ∈ zTs := zTs_at 1804 (by decide +kernel) (by decide +kernel)
theorem zw1653 : (Jvm.Cond.methodLink "RockingHorseLaw" (148 : Nat) ({ cls := "RockingHorseModel", name := "able", desc := "(I)I" } : Jvm.MethodName)) ∈ zTs := zTs_at 1805 (by decide +kernel) (by decide +kernel)
theorem zw1654 : (Jvm.Cond.instanceMethod ({ cls := "RockingHorseModel", name := "able", desc := "(I)I" } : Jvm.MethodName)) ∈ zTs := zTs_at 1806 (by decide +kernel) (by decide +kernel)
theorem zw1655 : (Jvm.Cond.selects "RockingHorseModel" ({ cls := "RockingHorseModel", name := "able", desc := "(I)I" } : Jvm.MethodName) ({ cls := "RockingHorseModel", name := "able", desc := "(I)I" } : Jvm.MethodName)) ∈ zTs := zTs_at 1807 (by decide +kernel) (by decide +kernel)
theorem zw1656 : (Jvm.Cond.code ({ cls := "RockingHorseModel", name := "able", desc := "(I)I" } : Jvm.MethodName) prog_10_method_84_code (6 : Nat) (Option.some Jvm.ClassFile.FieldType.int)) ∈ zTs := zTs_at 1808 (by decide +kernel) (by decide +kernel)
theorem zw1657 : (Jvm.Cond.methodLink "RockingHorseLaw" (152 : Nat) ({ cls := "RockingHorseModel", name := "spent", desc := "(I)I" } : Jvm.MethodName)) ∈ zTs := zTs_at 1809 (by decide +kernel) (by decide +kernel)
theorem zw1658 : (Jvm.Cond.instanceMethod ({ cls := "RockingHorseModel", name := "spent", desc := "(I)I" } : Jvm.MethodName)) ∈ zTs := zTs_at 1810 (by decide +kernel) (by decide +kernel)
theorem zw1659 : (Jvm.Cond.selects "RockingHorseModel" ({ cls := "RockingHorseModel", name := "spent", desc := "(I)I" } : Jvm.MethodName) ({ cls := "RockingHorseModel", name := "spent", desc := "(I)I" } : Jvm.MethodName)) ∈ zTs := zTs_at 1811 (by decide +kernel) (by decide +kernel)
theorem zw1660 : (Jvm.Cond.code ({ cls := "RockingHorseModel", name := "spent", desc := "(I)I" } : Jvm.MethodName) prog_10_method_85_code (6 : Nat) (Option.some Jvm.ClassFile.FieldType.int)) ∈ zTs := zTs_at 1812 (by decide +kernel) (by decide +kernel)
theorem zw1661 : (Jvm.Cond.methodLink "RockingHorseLaw" (156 : Nat) ({ cls := "RockingHorseModel", name := "shared", desc := "(II)I" } : Jvm.MethodName)) ∈ zTs := zTs_at 1813 (by decide +kernel) (by decide +kernel)
theorem zw1662 : (Jvm.Cond.instanceMethod ({ cls := "RockingHorseModel", name := "shared", desc := "(II)I" } : Jvm.MethodName)) ∈ zTs := zTs_at 1814 (by decide +kernel) (by decide +kernel)
theorem zw1663 : (Jvm.Cond.selects "RockingHorseModel" ({ cls := "RockingHorseModel", name := "shared", desc := "(II)I" } : Jvm.MethodName) ({ cls := "RockingHorseModel", name := "shared", desc := "(II)I" } : Jvm.MethodName)) ∈ zTs := zTs_at 1815 (by decide +kernel) (by decide +kernel)
theorem zw1664 : (Jvm.Cond.code ({ cls := "RockingHorseModel", name := "shared", desc := "(II)I" } : Jvm.MethodName) prog_10_method_86_code (3 : Nat) (Option.some Jvm.ClassFile.FieldType.int)) ∈ zTs := zTs_at 1816 (by decide +kernel) (by decide +kernel)
theorem zw1665 : (Jvm.Cond.methodLink "RockingHorseLaw" (160 : Nat) ({ cls := "RockingHorseModel", name := "thin", desc := "()I" } : Jvm.MethodName)) ∈ zTs := zTs_at 1817 (by decide +kernel) (by decide +kernel)
theorem zw1666 : (Jvm.Cond.instanceMethod ({ cls := "RockingHorseModel", name := "thin", desc := "()I" } : Jvm.MethodName)) ∈ zTs := zTs_at 1818 (by decide +kernel) (by decide +kernel)
theorem zw1667 : (Jvm.Cond.selects "RockingHorseModel" ({ cls := "RockingHorseModel", name := "thin", desc := "()I" } : Jvm.MethodName) ({ cls := "RockingHorseModel", name := "thin", desc := "()I" } : Jvm.MethodName)) ∈ zTs := zTs_at 1819 (by decide +kernel) (by decide +kernel)
theorem zw1668 : (Jvm.Cond.code ({ cls := "RockingHorseModel", name := "thin", desc := "()I" } : Jvm.MethodName) prog_10_method_88_code (3 : Nat) (Option.some Jvm.ClassFile.FieldType.int)) ∈ zTs := zTs_at 1820 (by decide +kernel) (by decide +kernel)
theorem zw1673 : (Jvm.Cond.methodLink "RockingHorseLaw" (164 : Nat) ({ cls := "RockingHorseModel", name := "changes", desc := "()I" } : Jvm.MethodName)) ∈ zTs := zTs_at 1825 (by decide +kernel) (by decide +kernel)
theorem zw1674 : (Jvm.Cond.instanceMethod ({ cls := "RockingHorseModel", name := "changes", desc := "()I" } : Jvm.MethodName)) ∈ zTs := zTs_at 1826 (by decide +kernel) (by decide +kernel)
theorem zw1675 : (Jvm.Cond.selects "RockingHorseModel" ({ cls := "RockingHorseModel", name := "changes", desc := "()I" } : Jvm.MethodName) ({ cls := "RockingHorseModel", name := "changes", desc := "()I" } : Jvm.MethodName)) ∈ zTs := zTs_at 1827 (by decide +kernel) (by decide +kernel)
theorem zw1676 : (Jvm.Cond.code ({ cls := "RockingHorseModel", name := "changes", desc := "()I" } : Jvm.MethodName) prog_10_method_89_code (8 : Nat) (Option.some Jvm.ClassFile.FieldType.int)) ∈ zTs := zTs_at 1828 (by decide +kernel) (by decide +kernel)
theorem zw1677 : (Jvm.Cond.methodLink "RockingHorseLaw" (168 : Nat) ({ cls := "RockingHorseModel", name := "smoothest", desc := "()I" } : Jvm.MethodName)) ∈ zTs := zTs_at 1829 (by decide +kernel) (by decide +kernel)
theorem zw1678 : (Jvm.Cond.instanceMethod ({ cls := "RockingHorseModel", name := "smoothest", desc := "()I" } : Jvm.MethodName)) ∈ zTs := zTs_at 1830 (by decide +kernel) (by decide +kernel)
theorem zw1679 : (Jvm.Cond.selects "RockingHorseModel" ({ cls := "RockingHorseModel", name := "smoothest", desc := "()I" } : Jvm.MethodName) ({ cls := "RockingHorseModel", name := "smoothest", desc := "()I" } : Jvm.MethodName)) ∈ zTs := zTs_at 1831 (by decide +kernel) (by decide +kernel)
theorem zw1680 : (Jvm.Cond.code ({ cls := "RockingHorseModel", name := "smoothest", desc := "()I" } : Jvm.MethodName) prog_10_method_91_code (2 : Nat) (Option.some Jvm.ClassFile.FieldType.int)) ∈ zTs := zTs_at 1832 (by decide +kernel) (by decide +kernel)
theorem zw1685 : (Jvm.Cond.methodLink "RockingHorseLaw" (173 : Nat) ({ cls := "RockingHorseModel", name := "meets", desc := "(III)I" } : Jvm.MethodName)) ∈ zTs := zTs_at 1837 (by decide +kernel) (by decide +kernel)
theorem zw1686 : (Jvm.Cond.instanceMethod ({ cls := "RockingHorseModel", name := "meets", desc := "(III)I" } : Jvm.MethodName)) ∈ zTs := zTs_at 1838 (by decide +kernel) (by decide +kernel)
theorem zw1687 : (Jvm.Cond.selects "RockingHorseModel" ({ cls := "RockingHorseModel", name := "meets", desc := "(III)I" } : Jvm.MethodName) ({ cls := "RockingHorseModel", name := "meets", desc := "(III)I" } : Jvm.MethodName)) ∈ zTs := zTs_at 1839 (by decide +kernel) (by decide +kernel)
theorem zw1688 : (Jvm.Cond.code ({ cls := "RockingHorseModel", name := "meets", desc := "(III)I" } : Jvm.MethodName) prog_10_method_92_code (7 : Nat) (Option.some Jvm.ClassFile.FieldType.int)) ∈ zTs := zTs_at 1840 (by decide +kernel) (by decide +kernel)
theorem zw1689 : (Jvm.Cond.methodLink "RockingHorseLaw" (177 : Nat) ({ cls := "RockingHorseModel", name := "found", desc := "(III)I" } : Jvm.MethodName)) ∈ zTs := zTs_at 1841 (by decide +kernel) (by decide +kernel)
theorem zw1690 : (Jvm.Cond.instanceMethod ({ cls := "RockingHorseModel", name := "found", desc := "(III)I" } : Jvm.MethodName)) ∈ zTs := zTs_at 1842 (by decide +kernel) (by decide +kernel)
theorem zw1691 : (Jvm.Cond.selects "RockingHorseModel" ({ cls := "RockingHorseModel", name := "found", desc := "(III)I" } : Jvm.MethodName) ({ cls := "RockingHorseModel", name := "found", desc := "(III)I" } : Jvm.MethodName)) ∈ zTs := zTs_at 1843 (by decide +kernel) (by decide +kernel)
theorem zw1692 : (Jvm.Cond.code ({ cls := "RockingHorseModel", name := "found", desc := "(III)I" } : Jvm.MethodName) prog_10_method_93_code (4 : Nat) (Option.some Jvm.ClassFile.FieldType.int)) ∈ zTs := zTs_at 1844 (by decide +kernel) (by decide +kernel)
theorem zw1693 : (Jvm.Cond.methodLink "RockingHorseLaw" (181 : Nat) ({ cls := "RockingHorseModel", name := "forget", desc := "()I" } : Jvm.MethodName)) ∈ zTs := zTs_at 1845 (by decide +kernel) (by decide +kernel)
theorem zw1694 : (Jvm.Cond.instanceMethod ({ cls := "RockingHorseModel", name := "forget", desc := "()I" } : Jvm.MethodName)) ∈ zTs := zTs_at 1846 (by decide +kernel) (by decide +kernel)
theorem zw1695 : (Jvm.Cond.selects "RockingHorseModel" ({ cls := "RockingHorseModel", name := "forget", desc := "()I" } : Jvm.MethodName) ({ cls := "RockingHorseModel", name := "forget", desc := "()I" } : Jvm.MethodName)) ∈ zTs := zTs_at 1847 (by decide +kernel) (by decide +kernel)
theorem zw1696 : (Jvm.Cond.code ({ cls := "RockingHorseModel", name := "forget", desc := "()I" } : Jvm.MethodName) prog_10_method_94_code (2 : Nat) (Option.some Jvm.ClassFile.FieldType.int)) ∈ zTs := zTs_at 1848 (by decide +kernel) (by decide +kernel)
theorem zw1697 : (Jvm.Cond.methodLink "RockingHorseLaw" (185 : Nat) ({ cls := "RockingHorseModel", name := "fits", desc := "()I" } : Jvm.MethodName)) ∈ zTs := zTs_at 1849 (by decide +kernel) (by decide +kernel)
theorem zw1698 : (Jvm.Cond.instanceMethod ({ cls := "RockingHorseModel", name := "fits", desc := "()I" } : Jvm.MethodName)) ∈ zTs := zTs_at 1850 (by decide +kernel) (by decide +kernel)
theorem zw1699 : (Jvm.Cond.selects "RockingHorseModel" ({ cls := "RockingHorseModel", name := "fits", desc := "()I" } : Jvm.MethodName) ({ cls := "RockingHorseModel", name := "fits", desc := "()I" } : Jvm.MethodName)) ∈ zTs := zTs_at 1851 (by decide +kernel) (by decide +kernel)
theorem zw1700 : (Jvm.Cond.code ({ cls := "RockingHorseModel", name := "fits", desc := "()I" } : Jvm.MethodName) prog_10_method_97_code (2 : Nat) (Option.some Jvm.ClassFile.FieldType.int)) ∈ zTs := zTs_at 1852 (by decide +kernel) (by decide +kernel)
theorem zw1709 : (Jvm.Cond.methodLink "RockingHorseLaw" (189 : Nat) ({ cls := "RockingHorseModel", name := "sure", desc := "(II)I" } : Jvm.MethodName)) ∈ zTs := zTs_at 1861 (by decide +kernel) (by decide +kernel)
theorem zw1710 : (Jvm.Cond.instanceMethod ({ cls := "RockingHorseModel", name := "sure", desc := "(II)I" } : Jvm.MethodName)) ∈ zTs := zTs_at 1862 (by decide +kernel) (by decide +kernel)
theorem zw1711 : (Jvm.Cond.selects "RockingHorseModel" ({ cls := "RockingHorseModel", name := "sure", desc := "(II)I" } : Jvm.MethodName) ({ cls := "RockingHorseModel", name := "sure", desc := "(II)I" } : Jvm.MethodName)) ∈ zTs := zTs_at 1863 (by decide +kernel) (by decide +kernel)
theorem zw1712 : (Jvm.Cond.code ({ cls := "RockingHorseModel", name := "sure", desc := "(II)I" } : Jvm.MethodName) prog_10_method_100_code (5 : Nat) (Option.some Jvm.ClassFile.FieldType.int)) ∈ zTs := zTs_at 1864 (by decide +kernel) (by decide +kernel)
theorem zw1720 : (Jvm.Cond.methodLink "RockingHorseLaw" (193 : Nat) ({ cls := "RockingHorseModel", name := "ask", desc := "()I" } : Jvm.MethodName)) ∈ zTs := zTs_at 1872 (by decide +kernel) (by decide +kernel)
theorem zw1721 : (Jvm.Cond.instanceMethod ({ cls := "RockingHorseModel", name := "ask", desc := "()I" } : Jvm.MethodName)) ∈ zTs := zTs_at 1873 (by decide +kernel) (by decide +kernel)
theorem zw1722 : (Jvm.Cond.selects "RockingHorseModel" ({ cls := "RockingHorseModel", name := "ask", desc := "()I" } : Jvm.MethodName) ({ cls := "RockingHorseModel", name := "ask", desc := "()I" } : Jvm.MethodName)) ∈ zTs := zTs_at 1874 (by decide +kernel) (by decide +kernel)
theorem zw1723 : (Jvm.Cond.code ({ cls := "RockingHorseModel", name := "ask", desc := "()I" } : Jvm.MethodName) prog_10_method_101_code (6 : Nat) (Option.some Jvm.ClassFile.FieldType.int)) ∈ zTs := zTs_at 1875 (by decide +kernel) (by decide +kernel)
theorem zw1724 : (Jvm.Cond.methodLink "RockingHorseLaw" (197 : Nat) ({ cls := "RockingHorseModel", name := "held", desc := "(I)I" } : Jvm.MethodName)) ∈ zTs := zTs_at 1876 (by decide +kernel) (by decide +kernel)
theorem zw1725 : (Jvm.Cond.instanceMethod ({ cls := "RockingHorseModel", name := "held", desc := "(I)I" } : Jvm.MethodName)) ∈ zTs := zTs_at 1877 (by decide +kernel) (by decide +kernel)
theorem zw1726 : (Jvm.Cond.selects "RockingHorseModel" ({ cls := "RockingHorseModel", name := "held", desc := "(I)I" } : Jvm.MethodName) ({ cls := "RockingHorseModel", name := "held", desc := "(I)I" } : Jvm.MethodName)) ∈ zTs := zTs_at 1878 (by decide +kernel) (by decide +kernel)
theorem zw1727 : (Jvm.Cond.code ({ cls := "RockingHorseModel", name := "held", desc := "(I)I" } : Jvm.MethodName) prog_10_method_105_code (2 : Nat) (Option.some Jvm.ClassFile.FieldType.int)) ∈ zTs := zTs_at 1879 (by decide +kernel) (by decide +kernel)
theorem zw1740 : (Jvm.Cond.methodLink "RockingHorseLaw" (201 : Nat) ({ cls := "RockingHorseModel", name := "keystone", desc := "(I)I" } : Jvm.MethodName)) ∈ zTs := zTs_at 1892 (by decide +kernel) (by decide +kernel)
theorem zw1741 : (Jvm.Cond.instanceMethod ({ cls := "RockingHorseModel", name := "keystone", desc := "(I)I" } : Jvm.MethodName)) ∈ zTs := zTs_at 1893 (by decide +kernel) (by decide +kernel)
theorem zw1742 : (Jvm.Cond.selects "RockingHorseModel" ({ cls := "RockingHorseModel", name := "keystone", desc := "(I)I" } : Jvm.MethodName) ({ cls := "RockingHorseModel", name := "keystone", desc := "(I)I" } : Jvm.MethodName)) ∈ zTs := zTs_at 1894 (by decide +kernel) (by decide +kernel)
theorem zw1743 : (Jvm.Cond.code ({ cls := "RockingHorseModel", name := "keystone", desc := "(I)I" } : Jvm.MethodName) prog_10_method_106_code (9 : Nat) (Option.some Jvm.ClassFile.FieldType.int)) ∈ zTs := zTs_at 1895 (by decide +kernel) (by decide +kernel)
theorem zw1744 : (Jvm.Cond.methodLink "RockingHorseLaw" (205 : Nat) ({ cls := "RockingHorseModel", name := "rests", desc := "(II)I" } : Jvm.MethodName)) ∈ zTs := zTs_at 1896 (by decide +kernel) (by decide +kernel)
theorem zw1745 : (Jvm.Cond.instanceMethod ({ cls := "RockingHorseModel", name := "rests", desc := "(II)I" } : Jvm.MethodName)) ∈ zTs := zTs_at 1897 (by decide +kernel) (by decide +kernel)
theorem zw1746 : (Jvm.Cond.selects "RockingHorseModel" ({ cls := "RockingHorseModel", name := "rests", desc := "(II)I" } : Jvm.MethodName) ({ cls := "RockingHorseModel", name := "rests", desc := "(II)I" } : Jvm.MethodName)) ∈ zTs := zTs_at 1898 (by decide +kernel) (by decide +kernel)
theorem zw1747 : (Jvm.Cond.code ({ cls := "RockingHorseModel", name := "rests", desc := "(II)I" } : Jvm.MethodName) prog_10_method_110_code (7 : Nat) (Option.some Jvm.ClassFile.FieldType.int)) ∈ zTs := zTs_at 1899 (by decide +kernel) (by decide +kernel)
theorem zw1757 : (Jvm.Cond.methodLink "RockingHorseLaw" (209 : Nat) ({ cls := "RockingHorseModel", name := "law", desc := "()I" } : Jvm.MethodName)) ∈ zTs := zTs_at 1909 (by decide +kernel) (by decide +kernel)
theorem zw1758 : (Jvm.Cond.instanceMethod ({ cls := "RockingHorseModel", name := "law", desc := "()I" } : Jvm.MethodName)) ∈ zTs := zTs_at 1910 (by decide +kernel) (by decide +kernel)
theorem zw1759 : (Jvm.Cond.selects "RockingHorseModel" ({ cls := "RockingHorseModel", name := "law", desc := "()I" } : Jvm.MethodName) ({ cls := "RockingHorseModel", name := "law", desc := "()I" } : Jvm.MethodName)) ∈ zTs := zTs_at 1911 (by decide +kernel) (by decide +kernel)
theorem zw1760 : (Jvm.Cond.code ({ cls := "RockingHorseModel", name := "law", desc := "()I" } : Jvm.MethodName) prog_10_method_112_code (6 : Nat) (Option.some Jvm.ClassFile.FieldType.int)) ∈ zTs := zTs_at 1912 (by decide +kernel) (by decide +kernel)
theorem zw1765 : (Jvm.Cond.methodLink "RockingHorseLaw" (213 : Nat) ({ cls := "RockingHorseModel", name := "years", desc := "(II)I" } : Jvm.MethodName)) ∈ zTs := zTs_at 1917 (by decide +kernel) (by decide +kernel)
theorem zw1766 : (Jvm.Cond.instanceMethod ({ cls := "RockingHorseModel", name := "years", desc := "(II)I" } : Jvm.MethodName)) ∈ zTs := zTs_at 1918 (by decide +kernel) (by decide +kernel)
theorem zw1767 : (Jvm.Cond.selects "RockingHorseModel" ({ cls := "RockingHorseModel", name := "years", desc := "(II)I" } : Jvm.MethodName) ({ cls := "RockingHorseModel", name := "years", desc := "(II)I" } : Jvm.MethodName)) ∈ zTs := zTs_at 1919 (by decide +kernel) (by decide +kernel)
theorem zw1768 : (Jvm.Cond.code ({ cls := "RockingHorseModel", name := "years", desc := "(II)I" } : Jvm.MethodName) prog_10_method_114_code (6 : Nat) (Option.some Jvm.ClassFile.FieldType.int)) ∈ zTs := zTs_at 1920 (by decide +kernel) (by decide +kernel)
theorem zw1774 : (Jvm.Cond.methodLink "RockingHorseLaw" (217 : Nat) ({ cls := "RockingHorseModel", name := "keep", desc := "(I)Z" } : Jvm.MethodName)) ∈ zTs := zTs_at 1926 (by decide +kernel) (by decide +kernel)
theorem zw1775 : (Jvm.Cond.instanceMethod ({ cls := "RockingHorseModel", name := "keep", desc := "(I)Z" } : Jvm.MethodName)) ∈ zTs := zTs_at 1927 (by decide +kernel) (by decide +kernel)
theorem zw1776 : (Jvm.Cond.selects "RockingHorseModel" ({ cls := "RockingHorseModel", name := "keep", desc := "(I)Z" } : Jvm.MethodName) ({ cls := "RockingHorseModel", name := "keep", desc := "(I)Z" } : Jvm.MethodName)) ∈ zTs := zTs_at 1928 (by decide +kernel) (by decide +kernel)
theorem zw1777 : (Jvm.Cond.code ({ cls := "RockingHorseModel", name := "keep", desc := "(I)Z" } : Jvm.MethodName) prog_10_method_115_code (2 : Nat) (Option.some Jvm.ClassFile.FieldType.boolean)) ∈ zTs := zTs_at 1929 (by decide +kernel) (by decide +kernel)
theorem zw1778 : (Jvm.Cond.methodLink "RockingHorseLaw" (221 : Nat) ({ cls := "RockingHorseModel", name := "again", desc := "(I)Z" } : Jvm.MethodName)) ∈ zTs := zTs_at 1930 (by decide +kernel) (by decide +kernel)
theorem zw1779 : (Jvm.Cond.instanceMethod ({ cls := "RockingHorseModel", name := "again", desc := "(I)Z" } : Jvm.MethodName)) ∈ zTs := zTs_at 1931 (by decide +kernel) (by decide +kernel)
theorem zw1780 : (Jvm.Cond.selects "RockingHorseModel" ({ cls := "RockingHorseModel", name := "again", desc := "(I)Z" } : Jvm.MethodName) ({ cls := "RockingHorseModel", name := "again", desc := "(I)Z" } : Jvm.MethodName)) ∈ zTs := zTs_at 1932 (by decide +kernel) (by decide +kernel)
theorem zw1781 : (Jvm.Cond.code ({ cls := "RockingHorseModel", name := "again", desc := "(I)Z" } : Jvm.MethodName) prog_10_method_116_code (3 : Nat) (Option.some Jvm.ClassFile.FieldType.boolean)) ∈ zTs := zTs_at 1933 (by decide +kernel) (by decide +kernel)
theorem zw1782 : (Jvm.Cond.methodLink "RockingHorseLaw" (225 : Nat) ({ cls := "RockingHorseModel", name := "count", desc := "(I)I" } : Jvm.MethodName)) ∈ zTs := zTs_at 1934 (by decide +kernel) (by decide +kernel)
theorem zw1783 : (Jvm.Cond.instanceMethod ({ cls := "RockingHorseModel", name := "count", desc := "(I)I" } : Jvm.MethodName)) ∈ zTs := zTs_at 1935 (by decide +kernel) (by decide +kernel)
theorem zw1784 : (Jvm.Cond.selects "RockingHorseModel" ({ cls := "RockingHorseModel", name := "count", desc := "(I)I" } : Jvm.MethodName) ({ cls := "RockingHorseModel", name := "count", desc := "(I)I" } : Jvm.MethodName)) ∈ zTs := zTs_at 1936 (by decide +kernel) (by decide +kernel)
theorem zw1785 : (Jvm.Cond.code ({ cls := "RockingHorseModel", name := "count", desc := "(I)I" } : Jvm.MethodName) prog_10_method_117_code (2 : Nat) (Option.some Jvm.ClassFile.FieldType.int)) ∈ zTs := zTs_at 1937 (by decide +kernel) (by decide +kernel)
theorem zw1786 : (Jvm.Cond.methodLink "RockingHorseLaw" (229 : Nat) ({ cls := "RockingHorseModel", name := "row", desc := "(I)J" } : Jvm.MethodName)) ∈ zTs := zTs_at 1938 (by decide +kernel) (by decide +kernel)
theorem zw1787 : (Jvm.Cond.instanceMethod ({ cls := "RockingHorseModel", name := "row", desc := "(I)J" } : Jvm.MethodName)) ∈ zTs := zTs_at 1939 (by decide +kernel) (by decide +kernel)
theorem zw1788 : (Jvm.Cond.selects "RockingHorseModel" ({ cls := "RockingHorseModel", name := "row", desc := "(I)J" } : Jvm.MethodName) ({ cls := "RockingHorseModel", name := "row", desc := "(I)J" } : Jvm.MethodName)) ∈ zTs := zTs_at 1940 (by decide +kernel) (by decide +kernel)
theorem zw1789 : (Jvm.Cond.code ({ cls := "RockingHorseModel", name := "row", desc := "(I)J" } : Jvm.MethodName) prog_10_method_118_code (2 : Nat) (Option.some Jvm.ClassFile.FieldType.long)) ∈ zTs := zTs_at 1941 (by decide +kernel) (by decide +kernel)
theorem dL_law_0 : decode cL_law 0 = .ok (.new 8, 3) := by decide +kernel
theorem dL_law_3 : decode cL_law 3 = .ok (.dup, 1) := by decide +kernel
theorem dL_law_4 : decode cL_law 4 = .ok (.invokespecial 19, 3) := by decide +kernel
theorem dL_law_7 : decode cL_law 7 = .ok (.astore_n 1, 1) := by decide +kernel
theorem dL_law_8 : decode cL_law 8 = .ok (.new 20, 3) := by decide +kernel
theorem dL_law_11 : decode cL_law 11 = .ok (.dup, 1) := by decide +kernel
theorem dL_law_12 : decode cL_law 12 = .ok (.invokespecial 22, 3) := by decide +kernel
theorem dL_law_15 : decode cL_law 15 = .ok (.astore_n 2, 1) := by decide +kernel
theorem dL_law_16 : decode cL_law 16 = .ok (.iconst 1, 1) := by decide +kernel
theorem dL_law_17 : decode cL_law 17 = .ok (.newarray .long, 2) := by decide +kernel
theorem dL_law_19 : decode cL_law 19 = .ok (.astore_n 3, 1) := by decide +kernel
theorem dL_law_20 : decode cL_law 20 = .ok (.iconst 0, 1) := by decide +kernel
theorem dL_law_21 : decode cL_law 21 = .ok (.istore 4, 2) := by decide +kernel
theorem dL_law_23 : decode cL_law 23 = .ok (.iload 4, 2) := by decide +kernel
theorem dL_law_25 : decode cL_law 25 = .ok (.aload_n 0, 1) := by decide +kernel
theorem dL_law_26 : decode cL_law 26 = .ok (.arraylength, 1) := by decide +kernel
theorem dL_law_27 : decode cL_law 27 = .ok (.iconst 5, 1) := by decide +kernel
theorem dL_law_28 : decode cL_law 28 = .ok (.isub, 1) := by decide +kernel
theorem dL_law_29 : decode cL_law 29 = .ok (.if_icmp .gt 1413, 3) := by decide +kernel
theorem dL_law_32 : decode cL_law 32 = .ok (.aload_n 0, 1) := by decide +kernel
theorem dL_law_33 : decode cL_law 33 = .ok (.iload 4, 2) := by decide +kernel
theorem dL_law_35 : decode cL_law 35 = .ok (.iaload, 1) := by decide +kernel
theorem dL_law_36 : decode cL_law 36 = .ok (.bipush 63, 2) := by decide +kernel
theorem dL_law_38 : decode cL_law 38 = .ok (.iand, 1) := by decide +kernel
theorem dL_law_39 : decode cL_law 39 = .ok (.tableswitch 1397 0 49 #[213, 238, 263, 276, 289, 329, 366, 403, 464, 477, 514, 539, 564, 577, 590, 603, 628, 653, 678, 691, 704, 717, 730, 743, 768, 781, 806, 831, 844, 857, 882, 907, 944, 957, 970, 983, 1032, 1081, 1094, 1107, 1144, 1157, 1182, 1207, 1244, 1257, 1294, 1319, 1344, 1369], 213) := by decide +kernel
theorem dL_law_252 : decode cL_law 252 = .ok (.aload_n 1, 1) := by decide +kernel
theorem dL_law_253 : decode cL_law 253 = .ok (.aload_n 0, 1) := by decide +kernel
theorem dL_law_254 : decode cL_law 254 = .ok (.iload 4, 2) := by decide +kernel
theorem dL_law_256 : decode cL_law 256 = .ok (.iconst 1, 1) := by decide +kernel
theorem dL_law_257 : decode cL_law 257 = .ok (.iadd, 1) := by decide +kernel
theorem dL_law_258 : decode cL_law 258 = .ok (.iaload, 1) := by decide +kernel
theorem dL_law_259 : decode cL_law 259 = .ok (.invokevirtual 23, 3) := by decide +kernel
theorem dL_law_262 : decode cL_law 262 = .ok (.pop, 1) := by decide +kernel
theorem dL_law_263 : decode cL_law 263 = .ok (.aload_n 2, 1) := by decide +kernel
theorem dL_law_264 : decode cL_law 264 = .ok (.aload_n 0, 1) := by decide +kernel
theorem dL_law_265 : decode cL_law 265 = .ok (.iload 4, 2) := by decide +kernel
theorem dL_law_267 : decode cL_law 267 = .ok (.iconst 1, 1) := by decide +kernel
theorem dL_law_268 : decode cL_law 268 = .ok (.iadd, 1) := by decide +kernel
theorem dL_law_269 : decode cL_law 269 = .ok (.iaload, 1) := by decide +kernel
theorem dL_law_270 : decode cL_law 270 = .ok (.invokevirtual 27, 3) := by decide +kernel
theorem dL_law_273 : decode cL_law 273 = .ok (.pop, 1) := by decide +kernel
theorem dL_law_274 : decode cL_law 274 = .ok (.goto 1162, 3) := by decide +kernel
theorem dL_law_277 : decode cL_law 277 = .ok (.aload_n 1, 1) := by decide +kernel
theorem dL_law_278 : decode cL_law 278 = .ok (.aload_n 0, 1) := by decide +kernel
theorem dL_law_279 : decode cL_law 279 = .ok (.iload 4, 2) := by decide +kernel
theorem dL_law_281 : decode cL_law 281 = .ok (.iconst 1, 1) := by decide +kernel
theorem dL_law_282 : decode cL_law 282 = .ok (.iadd, 1) := by decide +kernel
theorem dL_law_283 : decode cL_law 283 = .ok (.iaload, 1) := by decide +kernel
theorem dL_law_284 : decode cL_law 284 = .ok (.invokevirtual 28, 3) := by decide +kernel
theorem dL_law_287 : decode cL_law 287 = .ok (.pop, 1) := by decide +kernel
theorem dL_law_288 : decode cL_law 288 = .ok (.aload_n 2, 1) := by decide +kernel
theorem dL_law_289 : decode cL_law 289 = .ok (.aload_n 0, 1) := by decide +kernel
theorem dL_law_290 : decode cL_law 290 = .ok (.iload 4, 2) := by decide +kernel
theorem dL_law_292 : decode cL_law 292 = .ok (.iconst 1, 1) := by decide +kernel
theorem dL_law_293 : decode cL_law 293 = .ok (.iadd, 1) := by decide +kernel
theorem dL_law_294 : decode cL_law 294 = .ok (.iaload, 1) := by decide +kernel
theorem dL_law_295 : decode cL_law 295 = .ok (.invokevirtual 32, 3) := by decide +kernel
theorem dL_law_298 : decode cL_law 298 = .ok (.pop, 1) := by decide +kernel
theorem dL_law_299 : decode cL_law 299 = .ok (.goto 1137, 3) := by decide +kernel
theorem dL_law_302 : decode cL_law 302 = .ok (.aload_n 1, 1) := by decide +kernel
theorem dL_law_303 : decode cL_law 303 = .ok (.invokevirtual 33, 3) := by decide +kernel
theorem dL_law_306 : decode cL_law 306 = .ok (.pop, 1) := by decide +kernel
theorem dL_law_307 : decode cL_law 307 = .ok (.aload_n 2, 1) := by decide +kernel
theorem dL_law_308 : decode cL_law 308 = .ok (.invokevirtual 37, 3) := by decide +kernel
theorem dL_law_311 : decode cL_law 311 = .ok (.pop, 1) := by decide +kernel
theorem dL_law_312 : decode cL_law 312 = .ok (.goto 1124, 3) := by decide +kernel
theorem dL_law_315 : decode cL_law 315 = .ok (.aload_n 1, 1) := by decide +kernel
theorem dL_law_316 : decode cL_law 316 = .ok (.invokevirtual 38, 3) := by decide +kernel
theorem dL_law_319 : decode cL_law 319 = .ok (.pop, 1) := by decide +kernel
theorem dL_law_320 : decode cL_law 320 = .ok (.aload_n 2, 1) := by decide +kernel
theorem dL_law_321 : decode cL_law 321 = .ok (.invokevirtual 41, 3) := by decide +kernel
theorem dL_law_324 : decode cL_law 324 = .ok (.pop, 1) := by decide +kernel
theorem dL_law_325 : decode cL_law 325 = .ok (.goto 1111, 3) := by decide +kernel
theorem dL_law_328 : decode cL_law 328 = .ok (.aload_n 1, 1) := by decide +kernel
theorem dL_law_329 : decode cL_law 329 = .ok (.aload_n 0, 1) := by decide +kernel
theorem dL_law_330 : decode cL_law 330 = .ok (.iload 4, 2) := by decide +kernel
theorem dL_law_332 : decode cL_law 332 = .ok (.iconst 1, 1) := by decide +kernel
theorem dL_law_333 : decode cL_law 333 = .ok (.iadd, 1) := by decide +kernel
theorem dL_law_334 : decode cL_law 334 = .ok (.iaload, 1) := by decide +kernel
theorem dL_law_335 : decode cL_law 335 = .ok (.aload_n 0, 1) := by decide +kernel
theorem dL_law_336 : decode cL_law 336 = .ok (.iload 4, 2) := by decide +kernel
theorem dL_law_338 : decode cL_law 338 = .ok (.iconst 2, 1) := by decide +kernel
theorem dL_law_339 : decode cL_law 339 = .ok (.iadd, 1) := by decide +kernel
theorem dL_law_340 : decode cL_law 340 = .ok (.iaload, 1) := by decide +kernel
theorem dL_law_341 : decode cL_law 341 = .ok (.aload_n 3, 1) := by decide +kernel
theorem dL_law_342 : decode cL_law 342 = .ok (.invokestatic 42, 3) := by decide +kernel
theorem dL_law_345 : decode cL_law 345 = .ok (.istore 5, 2) := by decide +kernel
theorem dL_law_347 : decode cL_law 347 = .ok (.aload_n 2, 1) := by decide +kernel
theorem dL_law_348 : decode cL_law 348 = .ok (.aload_n 0, 1) := by decide +kernel
theorem dL_law_349 : decode cL_law 349 = .ok (.iload 4, 2) := by decide +kernel
theorem dL_law_351 : decode cL_law 351 = .ok (.iconst 1, 1) := by decide +kernel
theorem dL_law_352 : decode cL_law 352 = .ok (.iadd, 1) := by decide +kernel
theorem dL_law_353 : decode cL_law 353 = .ok (.iaload, 1) := by decide +kernel
theorem dL_law_354 : decode cL_law 354 = .ok (.aload_n 0, 1) := by decide +kernel
theorem dL_law_355 : decode cL_law 355 = .ok (.iload 4, 2) := by decide +kernel
theorem dL_law_357 : decode cL_law 357 = .ok (.iconst 2, 1) := by decide +kernel
theorem dL_law_358 : decode cL_law 358 = .ok (.iadd, 1) := by decide +kernel
theorem dL_law_359 : decode cL_law 359 = .ok (.iaload, 1) := by decide +kernel
theorem dL_law_360 : decode cL_law 360 = .ok (.invokevirtual 47, 3) := by decide +kernel
theorem dL_law_363 : decode cL_law 363 = .ok (.istore 6, 2) := by decide +kernel
theorem dL_law_365 : decode cL_law 365 = .ok (.goto 1071, 3) := by decide +kernel
theorem dL_law_368 : decode cL_law 368 = .ok (.aload_n 1, 1) := by decide +kernel
theorem dL_law_369 : decode cL_law 369 = .ok (.aload_n 0, 1) := by decide +kernel
theorem dL_law_370 : decode cL_law 370 = .ok (.iload 4, 2) := by decide +kernel
theorem dL_law_372 : decode cL_law 372 = .ok (.iconst 1, 1) := by decide +kernel
theorem dL_law_373 : decode cL_law 373 = .ok (.iadd, 1) := by decide +kernel
theorem dL_law_374 : decode cL_law 374 = .ok (.iaload, 1) := by decide +kernel
theorem dL_law_375 : decode cL_law 375 = .ok (.aload_n 0, 1) := by decide +kernel
theorem dL_law_376 : decode cL_law 376 = .ok (.iload 4, 2) := by decide +kernel
theorem dL_law_378 : decode cL_law 378 = .ok (.iconst 2, 1) := by decide +kernel
theorem dL_law_379 : decode cL_law 379 = .ok (.iadd, 1) := by decide +kernel
theorem dL_law_380 : decode cL_law 380 = .ok (.iaload, 1) := by decide +kernel
theorem dL_law_381 : decode cL_law 381 = .ok (.invokevirtual 48, 3) := by decide +kernel
theorem dL_law_384 : decode cL_law 384 = .ok (.pop, 1) := by decide +kernel
theorem dL_law_385 : decode cL_law 385 = .ok (.aload_n 2, 1) := by decide +kernel
theorem dL_law_386 : decode cL_law 386 = .ok (.aload_n 0, 1) := by decide +kernel
theorem dL_law_387 : decode cL_law 387 = .ok (.iload 4, 2) := by decide +kernel
theorem dL_law_389 : decode cL_law 389 = .ok (.iconst 1, 1) := by decide +kernel
theorem dL_law_390 : decode cL_law 390 = .ok (.iadd, 1) := by decide +kernel
theorem dL_law_391 : decode cL_law 391 = .ok (.iaload, 1) := by decide +kernel
theorem dL_law_392 : decode cL_law 392 = .ok (.aload_n 0, 1) := by decide +kernel
theorem dL_law_393 : decode cL_law 393 = .ok (.iload 4, 2) := by decide +kernel
theorem dL_law_395 : decode cL_law 395 = .ok (.iconst 2, 1) := by decide +kernel
theorem dL_law_396 : decode cL_law 396 = .ok (.iadd, 1) := by decide +kernel
theorem dL_law_397 : decode cL_law 397 = .ok (.iaload, 1) := by decide +kernel
theorem dL_law_398 : decode cL_law 398 = .ok (.invokevirtual 51, 3) := by decide +kernel
theorem dL_law_401 : decode cL_law 401 = .ok (.pop, 1) := by decide +kernel
theorem dL_law_402 : decode cL_law 402 = .ok (.goto 1034, 3) := by decide +kernel
theorem dL_law_405 : decode cL_law 405 = .ok (.aload_n 1, 1) := by decide +kernel
theorem dL_law_406 : decode cL_law 406 = .ok (.aload_n 0, 1) := by decide +kernel
theorem dL_law_407 : decode cL_law 407 = .ok (.iload 4, 2) := by decide +kernel
theorem dL_law_409 : decode cL_law 409 = .ok (.iconst 1, 1) := by decide +kernel
theorem dL_law_410 : decode cL_law 410 = .ok (.iadd, 1) := by decide +kernel
theorem dL_law_411 : decode cL_law 411 = .ok (.iaload, 1) := by decide +kernel
theorem dL_law_412 : decode cL_law 412 = .ok (.aload_n 0, 1) := by decide +kernel
theorem dL_law_413 : decode cL_law 413 = .ok (.iload 4, 2) := by decide +kernel
theorem dL_law_415 : decode cL_law 415 = .ok (.iconst 2, 1) := by decide +kernel
theorem dL_law_416 : decode cL_law 416 = .ok (.iadd, 1) := by decide +kernel
theorem dL_law_417 : decode cL_law 417 = .ok (.iaload, 1) := by decide +kernel
theorem dL_law_418 : decode cL_law 418 = .ok (.invokevirtual 52, 3) := by decide +kernel
theorem dL_law_421 : decode cL_law 421 = .ok (.pop, 1) := by decide +kernel
theorem dL_law_422 : decode cL_law 422 = .ok (.aload_n 2, 1) := by decide +kernel
theorem dL_law_423 : decode cL_law 423 = .ok (.aload_n 0, 1) := by decide +kernel
theorem dL_law_424 : decode cL_law 424 = .ok (.iload 4, 2) := by decide +kernel
theorem dL_law_426 : decode cL_law 426 = .ok (.iconst 1, 1) := by decide +kernel
theorem dL_law_427 : decode cL_law 427 = .ok (.iadd, 1) := by decide +kernel
theorem dL_law_428 : decode cL_law 428 = .ok (.iaload, 1) := by decide +kernel
theorem dL_law_429 : decode cL_law 429 = .ok (.aload_n 0, 1) := by decide +kernel
theorem dL_law_430 : decode cL_law 430 = .ok (.iload 4, 2) := by decide +kernel
theorem dL_law_432 : decode cL_law 432 = .ok (.iconst 2, 1) := by decide +kernel
theorem dL_law_433 : decode cL_law 433 = .ok (.iadd, 1) := by decide +kernel
theorem dL_law_434 : decode cL_law 434 = .ok (.iaload, 1) := by decide +kernel
theorem dL_law_435 : decode cL_law 435 = .ok (.invokevirtual 55, 3) := by decide +kernel
theorem dL_law_438 : decode cL_law 438 = .ok (.pop, 1) := by decide +kernel
theorem dL_law_439 : decode cL_law 439 = .ok (.goto 997, 3) := by decide +kernel
theorem dL_law_442 : decode cL_law 442 = .ok (.aload_n 1, 1) := by decide +kernel
theorem dL_law_443 : decode cL_law 443 = .ok (.aload_n 0, 1) := by decide +kernel
theorem dL_law_444 : decode cL_law 444 = .ok (.iload 4, 2) := by decide +kernel
theorem dL_law_446 : decode cL_law 446 = .ok (.iconst 1, 1) := by decide +kernel
theorem dL_law_447 : decode cL_law 447 = .ok (.iadd, 1) := by decide +kernel
theorem dL_law_448 : decode cL_law 448 = .ok (.iaload, 1) := by decide +kernel
theorem dL_law_449 : decode cL_law 449 = .ok (.aload_n 0, 1) := by decide +kernel
theorem dL_law_450 : decode cL_law 450 = .ok (.iload 4, 2) := by decide +kernel
theorem dL_law_452 : decode cL_law 452 = .ok (.iconst 2, 1) := by decide +kernel
theorem dL_law_453 : decode cL_law 453 = .ok (.iadd, 1) := by decide +kernel
theorem dL_law_454 : decode cL_law 454 = .ok (.iaload, 1) := by decide +kernel
theorem dL_law_455 : decode cL_law 455 = .ok (.aload_n 0, 1) := by decide +kernel
theorem dL_law_456 : decode cL_law 456 = .ok (.iload 4, 2) := by decide +kernel
theorem dL_law_458 : decode cL_law 458 = .ok (.iconst 3, 1) := by decide +kernel
theorem dL_law_459 : decode cL_law 459 = .ok (.iadd, 1) := by decide +kernel
theorem dL_law_460 : decode cL_law 460 = .ok (.iaload, 1) := by decide +kernel
theorem dL_law_461 : decode cL_law 461 = .ok (.aload_n 0, 1) := by decide +kernel
theorem dL_law_462 : decode cL_law 462 = .ok (.iload 4, 2) := by decide +kernel
theorem dL_law_464 : decode cL_law 464 = .ok (.iconst 4, 1) := by decide +kernel
theorem dL_law_465 : decode cL_law 465 = .ok (.iadd, 1) := by decide +kernel
theorem dL_law_466 : decode cL_law 466 = .ok (.iaload, 1) := by decide +kernel
theorem dL_law_467 : decode cL_law 467 = .ok (.invokevirtual 56, 3) := by decide +kernel
theorem dL_law_470 : decode cL_law 470 = .ok (.pop, 1) := by decide +kernel
theorem dL_law_471 : decode cL_law 471 = .ok (.aload_n 2, 1) := by decide +kernel
theorem dL_law_472 : decode cL_law 472 = .ok (.aload_n 0, 1) := by decide +kernel
theorem dL_law_473 : decode cL_law 473 = .ok (.iload 4, 2) := by decide +kernel
theorem dL_law_475 : decode cL_law 475 = .ok (.iconst 1, 1) := by decide +kernel
theorem dL_law_476 : decode cL_law 476 = .ok (.iadd, 1) := by decide +kernel
theorem dL_law_477 : decode cL_law 477 = .ok (.iaload, 1) := by decide +kernel
theorem dL_law_478 : decode cL_law 478 = .ok (.aload_n 0, 1) := by decide +kernel
theorem dL_law_479 : decode cL_law 479 = .ok (.iload 4, 2) := by decide +kernel
theorem dL_law_481 : decode cL_law 481 = .ok (.iconst 2, 1) := by decide +kernel
theorem dL_law_482 : decode cL_law 482 = .ok (.iadd, 1) := by decide +kernel
theorem dL_law_483 : decode cL_law 483 = .ok (.iaload, 1) := by decide +kernel
theorem dL_law_484 : decode cL_law 484 = .ok (.aload_n 0, 1) := by decide +kernel
theorem dL_law_485 : decode cL_law 485 = .ok (.iload 4, 2) := by decide +kernel
theorem dL_law_487 : decode cL_law 487 = .ok (.iconst 3, 1) := by decide +kernel
theorem dL_law_488 : decode cL_law 488 = .ok (.iadd, 1) := by decide +kernel
theorem dL_law_489 : decode cL_law 489 = .ok (.iaload, 1) := by decide +kernel
theorem dL_law_490 : decode cL_law 490 = .ok (.aload_n 0, 1) := by decide +kernel
theorem dL_law_491 : decode cL_law 491 = .ok (.iload 4, 2) := by decide +kernel
theorem dL_law_493 : decode cL_law 493 = .ok (.iconst 4, 1) := by decide +kernel
theorem dL_law_494 : decode cL_law 494 = .ok (.iadd, 1) := by decide +kernel
theorem dL_law_495 : decode cL_law 495 = .ok (.iaload, 1) := by decide +kernel
theorem dL_law_496 : decode cL_law 496 = .ok (.invokevirtual 60, 3) := by decide +kernel
theorem dL_law_499 : decode cL_law 499 = .ok (.pop, 1) := by decide +kernel
theorem dL_law_500 : decode cL_law 500 = .ok (.goto 936, 3) := by decide +kernel
theorem dL_law_503 : decode cL_law 503 = .ok (.aload_n 1, 1) := by decide +kernel
theorem dL_law_504 : decode cL_law 504 = .ok (.invokevirtual 61, 3) := by decide +kernel
theorem dL_law_507 : decode cL_law 507 = .ok (.pop, 1) := by decide +kernel
theorem dL_law_508 : decode cL_law 508 = .ok (.aload_n 2, 1) := by decide +kernel
theorem dL_law_509 : decode cL_law 509 = .ok (.invokevirtual 64, 3) := by decide +kernel
theorem dL_law_512 : decode cL_law 512 = .ok (.pop, 1) := by decide +kernel
theorem dL_law_513 : decode cL_law 513 = .ok (.goto 923, 3) := by decide +kernel
theorem dL_law_516 : decode cL_law 516 = .ok (.aload_n 1, 1) := by decide +kernel
theorem dL_law_517 : decode cL_law 517 = .ok (.aload_n 0, 1) := by decide +kernel
theorem dL_law_518 : decode cL_law 518 = .ok (.iload 4, 2) := by decide +kernel
theorem dL_law_520 : decode cL_law 520 = .ok (.iconst 1, 1) := by decide +kernel
theorem dL_law_521 : decode cL_law 521 = .ok (.iadd, 1) := by decide +kernel
theorem dL_law_522 : decode cL_law 522 = .ok (.iaload, 1) := by decide +kernel
theorem dL_law_523 : decode cL_law 523 = .ok (.aload_n 0, 1) := by decide +kernel
theorem dL_law_524 : decode cL_law 524 = .ok (.iload 4, 2) := by decide +kernel
theorem dL_law_526 : decode cL_law 526 = .ok (.iconst 2, 1) := by decide +kernel
theorem dL_law_527 : decode cL_law 527 = .ok (.iadd, 1) := by decide +kernel
theorem dL_law_528 : decode cL_law 528 = .ok (.iaload, 1) := by decide +kernel
theorem dL_law_529 : decode cL_law 529 = .ok (.invokevirtual 65, 3) := by decide +kernel
theorem dL_law_532 : decode cL_law 532 = .ok (.pop, 1) := by decide +kernel
theorem dL_law_533 : decode cL_law 533 = .ok (.aload_n 2, 1) := by decide +kernel
theorem dL_law_534 : decode cL_law 534 = .ok (.aload_n 0, 1) := by decide +kernel
theorem dL_law_535 : decode cL_law 535 = .ok (.iload 4, 2) := by decide +kernel
theorem dL_law_537 : decode cL_law 537 = .ok (.iconst 1, 1) := by decide +kernel
theorem dL_law_538 : decode cL_law 538 = .ok (.iadd, 1) := by decide +kernel
theorem dL_law_539 : decode cL_law 539 = .ok (.iaload, 1) := by decide +kernel
theorem dL_law_540 : decode cL_law 540 = .ok (.aload_n 0, 1) := by decide +kernel
theorem dL_law_541 : decode cL_law 541 = .ok (.iload 4, 2) := by decide +kernel
theorem dL_law_543 : decode cL_law 543 = .ok (.iconst 2, 1) := by decide +kernel
theorem dL_law_544 : decode cL_law 544 = .ok (.iadd, 1) := by decide +kernel
theorem dL_law_545 : decode cL_law 545 = .ok (.iaload, 1) := by decide +kernel
theorem dL_law_546 : decode cL_law 546 = .ok (.invokevirtual 68, 3) := by decide +kernel
theorem dL_law_549 : decode cL_law 549 = .ok (.pop, 1) := by decide +kernel
theorem dL_law_550 : decode cL_law 550 = .ok (.goto 886, 3) := by decide +kernel
theorem dL_law_553 : decode cL_law 553 = .ok (.aload_n 1, 1) := by decide +kernel
theorem dL_law_554 : decode cL_law 554 = .ok (.aload_n 0, 1) := by decide +kernel
theorem dL_law_555 : decode cL_law 555 = .ok (.iload 4, 2) := by decide +kernel
theorem dL_law_557 : decode cL_law 557 = .ok (.iconst 1, 1) := by decide +kernel
theorem dL_law_558 : decode cL_law 558 = .ok (.iadd, 1) := by decide +kernel
theorem dL_law_559 : decode cL_law 559 = .ok (.iaload, 1) := by decide +kernel
theorem dL_law_560 : decode cL_law 560 = .ok (.invokevirtual 69, 3) := by decide +kernel
theorem dL_law_563 : decode cL_law 563 = .ok (.pop, 1) := by decide +kernel
theorem dL_law_564 : decode cL_law 564 = .ok (.aload_n 2, 1) := by decide +kernel
theorem dL_law_565 : decode cL_law 565 = .ok (.aload_n 0, 1) := by decide +kernel
theorem dL_law_566 : decode cL_law 566 = .ok (.iload 4, 2) := by decide +kernel
theorem dL_law_568 : decode cL_law 568 = .ok (.iconst 1, 1) := by decide +kernel
theorem dL_law_569 : decode cL_law 569 = .ok (.iadd, 1) := by decide +kernel
theorem dL_law_570 : decode cL_law 570 = .ok (.iaload, 1) := by decide +kernel
theorem dL_law_571 : decode cL_law 571 = .ok (.invokevirtual 72, 3) := by decide +kernel
theorem dL_law_574 : decode cL_law 574 = .ok (.pop, 1) := by decide +kernel
theorem dL_law_575 : decode cL_law 575 = .ok (.goto 861, 3) := by decide +kernel
theorem dL_law_578 : decode cL_law 578 = .ok (.aload_n 1, 1) := by decide +kernel
theorem dL_law_579 : decode cL_law 579 = .ok (.aload_n 0, 1) := by decide +kernel
theorem dL_law_580 : decode cL_law 580 = .ok (.iload 4, 2) := by decide +kernel
theorem dL_law_582 : decode cL_law 582 = .ok (.iconst 1, 1) := by decide +kernel
theorem dL_law_583 : decode cL_law 583 = .ok (.iadd, 1) := by decide +kernel
theorem dL_law_584 : decode cL_law 584 = .ok (.iaload, 1) := by decide +kernel
theorem dL_law_585 : decode cL_law 585 = .ok (.invokevirtual 73, 3) := by decide +kernel
theorem dL_law_588 : decode cL_law 588 = .ok (.pop, 1) := by decide +kernel
theorem dL_law_589 : decode cL_law 589 = .ok (.aload_n 2, 1) := by decide +kernel
theorem dL_law_590 : decode cL_law 590 = .ok (.aload_n 0, 1) := by decide +kernel
theorem dL_law_591 : decode cL_law 591 = .ok (.iload 4, 2) := by decide +kernel
theorem dL_law_593 : decode cL_law 593 = .ok (.iconst 1, 1) := by decide +kernel
theorem dL_law_594 : decode cL_law 594 = .ok (.iadd, 1) := by decide +kernel
theorem dL_law_595 : decode cL_law 595 = .ok (.iaload, 1) := by decide +kernel
theorem dL_law_596 : decode cL_law 596 = .ok (.invokevirtual 76, 3) := by decide +kernel
theorem dL_law_599 : decode cL_law 599 = .ok (.pop, 1) := by decide +kernel
theorem dL_law_600 : decode cL_law 600 = .ok (.goto 836, 3) := by decide +kernel
theorem dL_law_603 : decode cL_law 603 = .ok (.aload_n 1, 1) := by decide +kernel
theorem dL_law_604 : decode cL_law 604 = .ok (.invokevirtual 77, 3) := by decide +kernel
theorem dL_law_607 : decode cL_law 607 = .ok (.pop, 1) := by decide +kernel
theorem dL_law_608 : decode cL_law 608 = .ok (.aload_n 2, 1) := by decide +kernel
theorem dL_law_609 : decode cL_law 609 = .ok (.invokevirtual 80, 3) := by decide +kernel
theorem dL_law_612 : decode cL_law 612 = .ok (.pop, 1) := by decide +kernel
theorem dL_law_613 : decode cL_law 613 = .ok (.goto 823, 3) := by decide +kernel
theorem dL_law_616 : decode cL_law 616 = .ok (.aload_n 1, 1) := by decide +kernel
theorem dL_law_617 : decode cL_law 617 = .ok (.invokevirtual 81, 3) := by decide +kernel
theorem dL_law_620 : decode cL_law 620 = .ok (.pop, 1) := by decide +kernel
theorem dL_law_621 : decode cL_law 621 = .ok (.aload_n 2, 1) := by decide +kernel
theorem dL_law_622 : decode cL_law 622 = .ok (.invokevirtual 84, 3) := by decide +kernel
theorem dL_law_625 : decode cL_law 625 = .ok (.pop, 1) := by decide +kernel
theorem dL_law_626 : decode cL_law 626 = .ok (.goto 810, 3) := by decide +kernel
theorem dL_law_629 : decode cL_law 629 = .ok (.aload_n 1, 1) := by decide +kernel
theorem dL_law_630 : decode cL_law 630 = .ok (.invokevirtual 85, 3) := by decide +kernel
theorem dL_law_633 : decode cL_law 633 = .ok (.pop, 1) := by decide +kernel
theorem dL_law_634 : decode cL_law 634 = .ok (.aload_n 2, 1) := by decide +kernel
theorem dL_law_635 : decode cL_law 635 = .ok (.invokevirtual 88, 3) := by decide +kernel
theorem dL_law_638 : decode cL_law 638 = .ok (.pop, 1) := by decide +kernel
theorem dL_law_639 : decode cL_law 639 = .ok (.goto 797, 3) := by decide +kernel
theorem dL_law_642 : decode cL_law 642 = .ok (.aload_n 1, 1) := by decide +kernel
theorem dL_law_643 : decode cL_law 643 = .ok (.aload_n 0, 1) := by decide +kernel
theorem dL_law_644 : decode cL_law 644 = .ok (.iload 4, 2) := by decide +kernel
theorem dL_law_646 : decode cL_law 646 = .ok (.iconst 1, 1) := by decide +kernel
theorem dL_law_647 : decode cL_law 647 = .ok (.iadd, 1) := by decide +kernel
theorem dL_law_648 : decode cL_law 648 = .ok (.iaload, 1) := by decide +kernel
theorem dL_law_649 : decode cL_law 649 = .ok (.invokevirtual 89, 3) := by decide +kernel
theorem dL_law_652 : decode cL_law 652 = .ok (.pop, 1) := by decide +kernel
theorem dL_law_653 : decode cL_law 653 = .ok (.aload_n 2, 1) := by decide +kernel
theorem dL_law_654 : decode cL_law 654 = .ok (.aload_n 0, 1) := by decide +kernel
theorem dL_law_655 : decode cL_law 655 = .ok (.iload 4, 2) := by decide +kernel
theorem dL_law_657 : decode cL_law 657 = .ok (.iconst 1, 1) := by decide +kernel
theorem dL_law_658 : decode cL_law 658 = .ok (.iadd, 1) := by decide +kernel
theorem dL_law_659 : decode cL_law 659 = .ok (.iaload, 1) := by decide +kernel
theorem dL_law_660 : decode cL_law 660 = .ok (.invokevirtual 92, 3) := by decide +kernel
theorem dL_law_663 : decode cL_law 663 = .ok (.pop, 1) := by decide +kernel
theorem dL_law_664 : decode cL_law 664 = .ok (.goto 772, 3) := by decide +kernel
theorem dL_law_667 : decode cL_law 667 = .ok (.aload_n 1, 1) := by decide +kernel
theorem dL_law_668 : decode cL_law 668 = .ok (.aload_n 0, 1) := by decide +kernel
theorem dL_law_669 : decode cL_law 669 = .ok (.iload 4, 2) := by decide +kernel
theorem dL_law_671 : decode cL_law 671 = .ok (.iconst 1, 1) := by decide +kernel
theorem dL_law_672 : decode cL_law 672 = .ok (.iadd, 1) := by decide +kernel
theorem dL_law_673 : decode cL_law 673 = .ok (.iaload, 1) := by decide +kernel
theorem dL_law_674 : decode cL_law 674 = .ok (.invokevirtual 93, 3) := by decide +kernel
theorem dL_law_677 : decode cL_law 677 = .ok (.pop, 1) := by decide +kernel
theorem dL_law_678 : decode cL_law 678 = .ok (.aload_n 2, 1) := by decide +kernel
theorem dL_law_679 : decode cL_law 679 = .ok (.aload_n 0, 1) := by decide +kernel
theorem dL_law_680 : decode cL_law 680 = .ok (.iload 4, 2) := by decide +kernel
theorem dL_law_682 : decode cL_law 682 = .ok (.iconst 1, 1) := by decide +kernel
theorem dL_law_683 : decode cL_law 683 = .ok (.iadd, 1) := by decide +kernel
theorem dL_law_684 : decode cL_law 684 = .ok (.iaload, 1) := by decide +kernel
theorem dL_law_685 : decode cL_law 685 = .ok (.invokevirtual 96, 3) := by decide +kernel
theorem dL_law_688 : decode cL_law 688 = .ok (.pop, 1) := by decide +kernel
theorem dL_law_689 : decode cL_law 689 = .ok (.goto 747, 3) := by decide +kernel
theorem dL_law_692 : decode cL_law 692 = .ok (.aload_n 1, 1) := by decide +kernel
theorem dL_law_693 : decode cL_law 693 = .ok (.aload_n 0, 1) := by decide +kernel
theorem dL_law_694 : decode cL_law 694 = .ok (.iload 4, 2) := by decide +kernel
theorem dL_law_696 : decode cL_law 696 = .ok (.iconst 1, 1) := by decide +kernel
theorem dL_law_697 : decode cL_law 697 = .ok (.iadd, 1) := by decide +kernel
theorem dL_law_698 : decode cL_law 698 = .ok (.iaload, 1) := by decide +kernel
theorem dL_law_699 : decode cL_law 699 = .ok (.invokevirtual 97, 3) := by decide +kernel
theorem dL_law_702 : decode cL_law 702 = .ok (.pop, 1) := by decide +kernel
theorem dL_law_703 : decode cL_law 703 = .ok (.aload_n 2, 1) := by decide +kernel
theorem dL_law_704 : decode cL_law 704 = .ok (.aload_n 0, 1) := by decide +kernel
theorem dL_law_705 : decode cL_law 705 = .ok (.iload 4, 2) := by decide +kernel
theorem dL_law_707 : decode cL_law 707 = .ok (.iconst 1, 1) := by decide +kernel
theorem dL_law_708 : decode cL_law 708 = .ok (.iadd, 1) := by decide +kernel
theorem dL_law_709 : decode cL_law 709 = .ok (.iaload, 1) := by decide +kernel
theorem dL_law_710 : decode cL_law 710 = .ok (.invokevirtual 100, 3) := by decide +kernel
theorem dL_law_713 : decode cL_law 713 = .ok (.pop, 1) := by decide +kernel
theorem dL_law_714 : decode cL_law 714 = .ok (.goto 722, 3) := by decide +kernel
theorem dL_law_717 : decode cL_law 717 = .ok (.aload_n 1, 1) := by decide +kernel
theorem dL_law_718 : decode cL_law 718 = .ok (.invokevirtual 101, 3) := by decide +kernel
theorem dL_law_721 : decode cL_law 721 = .ok (.pop, 1) := by decide +kernel
theorem dL_law_722 : decode cL_law 722 = .ok (.aload_n 2, 1) := by decide +kernel
theorem dL_law_723 : decode cL_law 723 = .ok (.invokevirtual 104, 3) := by decide +kernel
theorem dL_law_726 : decode cL_law 726 = .ok (.pop, 1) := by decide +kernel
theorem dL_law_727 : decode cL_law 727 = .ok (.goto 709, 3) := by decide +kernel
theorem dL_law_730 : decode cL_law 730 = .ok (.aload_n 1, 1) := by decide +kernel
theorem dL_law_731 : decode cL_law 731 = .ok (.invokevirtual 105, 3) := by decide +kernel
theorem dL_law_734 : decode cL_law 734 = .ok (.pop, 1) := by decide +kernel
theorem dL_law_735 : decode cL_law 735 = .ok (.aload_n 2, 1) := by decide +kernel
theorem dL_law_736 : decode cL_law 736 = .ok (.invokevirtual 108, 3) := by decide +kernel
theorem dL_law_739 : decode cL_law 739 = .ok (.pop, 1) := by decide +kernel
theorem dL_law_740 : decode cL_law 740 = .ok (.goto 696, 3) := by decide +kernel
theorem dL_law_743 : decode cL_law 743 = .ok (.aload_n 1, 1) := by decide +kernel
theorem dL_law_744 : decode cL_law 744 = .ok (.invokevirtual 109, 3) := by decide +kernel
theorem dL_law_747 : decode cL_law 747 = .ok (.pop, 1) := by decide +kernel
theorem dL_law_748 : decode cL_law 748 = .ok (.aload_n 2, 1) := by decide +kernel
theorem dL_law_749 : decode cL_law 749 = .ok (.invokevirtual 112, 3) := by decide +kernel
theorem dL_law_752 : decode cL_law 752 = .ok (.pop, 1) := by decide +kernel
theorem dL_law_753 : decode cL_law 753 = .ok (.goto 683, 3) := by decide +kernel
theorem dL_law_756 : decode cL_law 756 = .ok (.aload_n 1, 1) := by decide +kernel
theorem dL_law_757 : decode cL_law 757 = .ok (.invokevirtual 113, 3) := by decide +kernel
theorem dL_law_760 : decode cL_law 760 = .ok (.pop, 1) := by decide +kernel
theorem dL_law_761 : decode cL_law 761 = .ok (.aload_n 2, 1) := by decide +kernel
theorem dL_law_762 : decode cL_law 762 = .ok (.invokevirtual 116, 3) := by decide +kernel
theorem dL_law_765 : decode cL_law 765 = .ok (.pop, 1) := by decide +kernel
theorem dL_law_766 : decode cL_law 766 = .ok (.goto 670, 3) := by decide +kernel
theorem dL_law_769 : decode cL_law 769 = .ok (.aload_n 1, 1) := by decide +kernel
theorem dL_law_770 : decode cL_law 770 = .ok (.invokevirtual 117, 3) := by decide +kernel
theorem dL_law_773 : decode cL_law 773 = .ok (.pop, 1) := by decide +kernel
theorem dL_law_774 : decode cL_law 774 = .ok (.aload_n 2, 1) := by decide +kernel
theorem dL_law_775 : decode cL_law 775 = .ok (.invokevirtual 120, 3) := by decide +kernel
theorem dL_law_778 : decode cL_law 778 = .ok (.pop, 1) := by decide +kernel
theorem dL_law_779 : decode cL_law 779 = .ok (.goto 657, 3) := by decide +kernel
theorem dL_law_782 : decode cL_law 782 = .ok (.aload_n 1, 1) := by decide +kernel
theorem dL_law_783 : decode cL_law 783 = .ok (.aload_n 0, 1) := by decide +kernel
theorem dL_law_784 : decode cL_law 784 = .ok (.iload 4, 2) := by decide +kernel
theorem dL_law_786 : decode cL_law 786 = .ok (.iconst 1, 1) := by decide +kernel
theorem dL_law_787 : decode cL_law 787 = .ok (.iadd, 1) := by decide +kernel
theorem dL_law_788 : decode cL_law 788 = .ok (.iaload, 1) := by decide +kernel
theorem dL_law_789 : decode cL_law 789 = .ok (.invokevirtual 121, 3) := by decide +kernel
theorem dL_law_792 : decode cL_law 792 = .ok (.pop, 1) := by decide +kernel
theorem dL_law_793 : decode cL_law 793 = .ok (.aload_n 2, 1) := by decide +kernel
theorem dL_law_794 : decode cL_law 794 = .ok (.aload_n 0, 1) := by decide +kernel
theorem dL_law_795 : decode cL_law 795 = .ok (.iload 4, 2) := by decide +kernel
theorem dL_law_797 : decode cL_law 797 = .ok (.iconst 1, 1) := by decide +kernel
theorem dL_law_798 : decode cL_law 798 = .ok (.iadd, 1) := by decide +kernel
theorem dL_law_799 : decode cL_law 799 = .ok (.iaload, 1) := by decide +kernel
theorem dL_law_800 : decode cL_law 800 = .ok (.invokevirtual 124, 3) := by decide +kernel
theorem dL_law_803 : decode cL_law 803 = .ok (.pop, 1) := by decide +kernel
theorem dL_law_804 : decode cL_law 804 = .ok (.goto 632, 3) := by decide +kernel
theorem dL_law_807 : decode cL_law 807 = .ok (.aload_n 1, 1) := by decide +kernel
theorem dL_law_808 : decode cL_law 808 = .ok (.invokevirtual 125, 3) := by decide +kernel
theorem dL_law_811 : decode cL_law 811 = .ok (.pop, 1) := by decide +kernel
theorem dL_law_812 : decode cL_law 812 = .ok (.aload_n 2, 1) := by decide +kernel
theorem dL_law_813 : decode cL_law 813 = .ok (.invokevirtual 128, 3) := by decide +kernel
theorem dL_law_816 : decode cL_law 816 = .ok (.pop, 1) := by decide +kernel
theorem dL_law_817 : decode cL_law 817 = .ok (.goto 619, 3) := by decide +kernel
theorem dL_law_820 : decode cL_law 820 = .ok (.aload_n 1, 1) := by decide +kernel
theorem dL_law_821 : decode cL_law 821 = .ok (.aload_n 0, 1) := by decide +kernel
theorem dL_law_822 : decode cL_law 822 = .ok (.iload 4, 2) := by decide +kernel
theorem dL_law_824 : decode cL_law 824 = .ok (.iconst 1, 1) := by decide +kernel
theorem dL_law_825 : decode cL_law 825 = .ok (.iadd, 1) := by decide +kernel
theorem dL_law_826 : decode cL_law 826 = .ok (.iaload, 1) := by decide +kernel
theorem dL_law_827 : decode cL_law 827 = .ok (.invokevirtual 129, 3) := by decide +kernel
theorem dL_law_830 : decode cL_law 830 = .ok (.pop, 1) := by decide +kernel
theorem dL_law_831 : decode cL_law 831 = .ok (.aload_n 2, 1) := by decide +kernel
theorem dL_law_832 : decode cL_law 832 = .ok (.aload_n 0, 1) := by decide +kernel
theorem dL_law_833 : decode cL_law 833 = .ok (.iload 4, 2) := by decide +kernel
theorem dL_law_835 : decode cL_law 835 = .ok (.iconst 1, 1) := by decide +kernel
theorem dL_law_836 : decode cL_law 836 = .ok (.iadd, 1) := by decide +kernel
theorem dL_law_837 : decode cL_law 837 = .ok (.iaload, 1) := by decide +kernel
theorem dL_law_838 : decode cL_law 838 = .ok (.invokevirtual 132, 3) := by decide +kernel
theorem dL_law_841 : decode cL_law 841 = .ok (.pop, 1) := by decide +kernel
theorem dL_law_842 : decode cL_law 842 = .ok (.goto 594, 3) := by decide +kernel
theorem dL_law_845 : decode cL_law 845 = .ok (.aload_n 1, 1) := by decide +kernel
theorem dL_law_846 : decode cL_law 846 = .ok (.aload_n 0, 1) := by decide +kernel
theorem dL_law_847 : decode cL_law 847 = .ok (.iload 4, 2) := by decide +kernel
theorem dL_law_849 : decode cL_law 849 = .ok (.iconst 1, 1) := by decide +kernel
theorem dL_law_850 : decode cL_law 850 = .ok (.iadd, 1) := by decide +kernel
theorem dL_law_851 : decode cL_law 851 = .ok (.iaload, 1) := by decide +kernel
theorem dL_law_852 : decode cL_law 852 = .ok (.invokevirtual 133, 3) := by decide +kernel
theorem dL_law_855 : decode cL_law 855 = .ok (.pop, 1) := by decide +kernel
theorem dL_law_856 : decode cL_law 856 = .ok (.aload_n 2, 1) := by decide +kernel
theorem dL_law_857 : decode cL_law 857 = .ok (.aload_n 0, 1) := by decide +kernel
theorem dL_law_858 : decode cL_law 858 = .ok (.iload 4, 2) := by decide +kernel
theorem dL_law_860 : decode cL_law 860 = .ok (.iconst 1, 1) := by decide +kernel
theorem dL_law_861 : decode cL_law 861 = .ok (.iadd, 1) := by decide +kernel
theorem dL_law_862 : decode cL_law 862 = .ok (.iaload, 1) := by decide +kernel
theorem dL_law_863 : decode cL_law 863 = .ok (.invokevirtual 136, 3) := by decide +kernel
theorem dL_law_866 : decode cL_law 866 = .ok (.pop, 1) := by decide +kernel
theorem dL_law_867 : decode cL_law 867 = .ok (.goto 569, 3) := by decide +kernel
theorem dL_law_870 : decode cL_law 870 = .ok (.aload_n 1, 1) := by decide +kernel
theorem dL_law_871 : decode cL_law 871 = .ok (.invokevirtual 137, 3) := by decide +kernel
theorem dL_law_874 : decode cL_law 874 = .ok (.pop, 1) := by decide +kernel
theorem dL_law_875 : decode cL_law 875 = .ok (.aload_n 2, 1) := by decide +kernel
theorem dL_law_876 : decode cL_law 876 = .ok (.invokevirtual 140, 3) := by decide +kernel
theorem dL_law_879 : decode cL_law 879 = .ok (.pop, 1) := by decide +kernel
theorem dL_law_880 : decode cL_law 880 = .ok (.goto 556, 3) := by decide +kernel
theorem dL_law_883 : decode cL_law 883 = .ok (.aload_n 1, 1) := by decide +kernel
theorem dL_law_884 : decode cL_law 884 = .ok (.invokevirtual 141, 3) := by decide +kernel
theorem dL_law_887 : decode cL_law 887 = .ok (.pop, 1) := by decide +kernel
theorem dL_law_888 : decode cL_law 888 = .ok (.aload_n 2, 1) := by decide +kernel
theorem dL_law_889 : decode cL_law 889 = .ok (.invokevirtual 144, 3) := by decide +kernel
theorem dL_law_892 : decode cL_law 892 = .ok (.pop, 1) := by decide +kernel
theorem dL_law_893 : decode cL_law 893 = .ok (.goto 543, 3) := by decide +kernel
theorem dL_law_896 : decode cL_law 896 = .ok (.aload_n 1, 1) := by decide +kernel
theorem dL_law_897 : decode cL_law 897 = .ok (.aload_n 0, 1) := by decide +kernel
theorem dL_law_898 : decode cL_law 898 = .ok (.iload 4, 2) := by decide +kernel
theorem dL_law_900 : decode cL_law 900 = .ok (.iconst 1, 1) := by decide +kernel
theorem dL_law_901 : decode cL_law 901 = .ok (.iadd, 1) := by decide +kernel
theorem dL_law_902 : decode cL_law 902 = .ok (.iaload, 1) := by decide +kernel
theorem dL_law_903 : decode cL_law 903 = .ok (.invokevirtual 145, 3) := by decide +kernel
theorem dL_law_906 : decode cL_law 906 = .ok (.pop, 1) := by decide +kernel
theorem dL_law_907 : decode cL_law 907 = .ok (.aload_n 2, 1) := by decide +kernel
theorem dL_law_908 : decode cL_law 908 = .ok (.aload_n 0, 1) := by decide +kernel
theorem dL_law_909 : decode cL_law 909 = .ok (.iload 4, 2) := by decide +kernel
theorem dL_law_911 : decode cL_law 911 = .ok (.iconst 1, 1) := by decide +kernel
theorem dL_law_912 : decode cL_law 912 = .ok (.iadd, 1) := by decide +kernel
theorem dL_law_913 : decode cL_law 913 = .ok (.iaload, 1) := by decide +kernel
theorem dL_law_914 : decode cL_law 914 = .ok (.invokevirtual 148, 3) := by decide +kernel
theorem dL_law_917 : decode cL_law 917 = .ok (.pop, 1) := by decide +kernel
theorem dL_law_918 : decode cL_law 918 = .ok (.goto 518, 3) := by decide +kernel
theorem dL_law_921 : decode cL_law 921 = .ok (.aload_n 1, 1) := by decide +kernel
theorem dL_law_922 : decode cL_law 922 = .ok (.aload_n 0, 1) := by decide +kernel
theorem dL_law_923 : decode cL_law 923 = .ok (.iload 4, 2) := by decide +kernel
theorem dL_law_925 : decode cL_law 925 = .ok (.iconst 1, 1) := by decide +kernel
theorem dL_law_926 : decode cL_law 926 = .ok (.iadd, 1) := by decide +kernel
theorem dL_law_927 : decode cL_law 927 = .ok (.iaload, 1) := by decide +kernel
theorem dL_law_928 : decode cL_law 928 = .ok (.invokevirtual 149, 3) := by decide +kernel
theorem dL_law_931 : decode cL_law 931 = .ok (.pop, 1) := by decide +kernel
theorem dL_law_932 : decode cL_law 932 = .ok (.aload_n 2, 1) := by decide +kernel
theorem dL_law_933 : decode cL_law 933 = .ok (.aload_n 0, 1) := by decide +kernel
theorem dL_law_934 : decode cL_law 934 = .ok (.iload 4, 2) := by decide +kernel
theorem dL_law_936 : decode cL_law 936 = .ok (.iconst 1, 1) := by decide +kernel
theorem dL_law_937 : decode cL_law 937 = .ok (.iadd, 1) := by decide +kernel
theorem dL_law_938 : decode cL_law 938 = .ok (.iaload, 1) := by decide +kernel
theorem dL_law_939 : decode cL_law 939 = .ok (.invokevirtual 152, 3) := by decide +kernel
theorem dL_law_942 : decode cL_law 942 = .ok (.pop, 1) := by decide +kernel
theorem dL_law_943 : decode cL_law 943 = .ok (.goto 493, 3) := by decide +kernel
theorem dL_law_946 : decode cL_law 946 = .ok (.aload_n 1, 1) := by decide +kernel
theorem dL_law_947 : decode cL_law 947 = .ok (.aload_n 0, 1) := by decide +kernel
theorem dL_law_948 : decode cL_law 948 = .ok (.iload 4, 2) := by decide +kernel
theorem dL_law_950 : decode cL_law 950 = .ok (.iconst 1, 1) := by decide +kernel
theorem dL_law_951 : decode cL_law 951 = .ok (.iadd, 1) := by decide +kernel
theorem dL_law_952 : decode cL_law 952 = .ok (.iaload, 1) := by decide +kernel
theorem dL_law_953 : decode cL_law 953 = .ok (.aload_n 0, 1) := by decide +kernel
theorem dL_law_954 : decode cL_law 954 = .ok (.iload 4, 2) := by decide +kernel
theorem dL_law_956 : decode cL_law 956 = .ok (.iconst 2, 1) := by decide +kernel
theorem dL_law_957 : decode cL_law 957 = .ok (.iadd, 1) := by decide +kernel
theorem dL_law_958 : decode cL_law 958 = .ok (.iaload, 1) := by decide +kernel
theorem dL_law_959 : decode cL_law 959 = .ok (.invokevirtual 153, 3) := by decide +kernel
theorem dL_law_962 : decode cL_law 962 = .ok (.pop, 1) := by decide +kernel
theorem dL_law_963 : decode cL_law 963 = .ok (.aload_n 2, 1) := by decide +kernel
theorem dL_law_964 : decode cL_law 964 = .ok (.aload_n 0, 1) := by decide +kernel
theorem dL_law_965 : decode cL_law 965 = .ok (.iload 4, 2) := by decide +kernel
theorem dL_law_967 : decode cL_law 967 = .ok (.iconst 1, 1) := by decide +kernel
theorem dL_law_968 : decode cL_law 968 = .ok (.iadd, 1) := by decide +kernel
theorem dL_law_969 : decode cL_law 969 = .ok (.iaload, 1) := by decide +kernel
theorem dL_law_970 : decode cL_law 970 = .ok (.aload_n 0, 1) := by decide +kernel
theorem dL_law_971 : decode cL_law 971 = .ok (.iload 4, 2) := by decide +kernel
theorem dL_law_973 : decode cL_law 973 = .ok (.iconst 2, 1) := by decide +kernel
theorem dL_law_974 : decode cL_law 974 = .ok (.iadd, 1) := by decide +kernel
theorem dL_law_975 : decode cL_law 975 = .ok (.iaload, 1) := by decide +kernel
theorem dL_law_976 : decode cL_law 976 = .ok (.invokevirtual 156, 3) := by decide +kernel
theorem dL_law_979 : decode cL_law 979 = .ok (.pop, 1) := by decide +kernel
theorem dL_law_980 : decode cL_law 980 = .ok (.goto 456, 3) := by decide +kernel
theorem dL_law_983 : decode cL_law 983 = .ok (.aload_n 1, 1) := by decide +kernel
theorem dL_law_984 : decode cL_law 984 = .ok (.invokevirtual 157, 3) := by decide +kernel
theorem dL_law_987 : decode cL_law 987 = .ok (.pop, 1) := by decide +kernel
theorem dL_law_988 : decode cL_law 988 = .ok (.aload_n 2, 1) := by decide +kernel
theorem dL_law_989 : decode cL_law 989 = .ok (.invokevirtual 160, 3) := by decide +kernel
theorem dL_law_992 : decode cL_law 992 = .ok (.pop, 1) := by decide +kernel
theorem dL_law_993 : decode cL_law 993 = .ok (.goto 443, 3) := by decide +kernel
theorem dL_law_996 : decode cL_law 996 = .ok (.aload_n 1, 1) := by decide +kernel
theorem dL_law_997 : decode cL_law 997 = .ok (.invokevirtual 161, 3) := by decide +kernel
theorem dL_law_1000 : decode cL_law 1000 = .ok (.pop, 1) := by decide +kernel
theorem dL_law_1001 : decode cL_law 1001 = .ok (.aload_n 2, 1) := by decide +kernel
theorem dL_law_1002 : decode cL_law 1002 = .ok (.invokevirtual 164, 3) := by decide +kernel
theorem dL_law_1005 : decode cL_law 1005 = .ok (.pop, 1) := by decide +kernel
theorem dL_law_1006 : decode cL_law 1006 = .ok (.goto 430, 3) := by decide +kernel
theorem dL_law_1009 : decode cL_law 1009 = .ok (.aload_n 1, 1) := by decide +kernel
theorem dL_law_1010 : decode cL_law 1010 = .ok (.invokevirtual 165, 3) := by decide +kernel
theorem dL_law_1013 : decode cL_law 1013 = .ok (.pop, 1) := by decide +kernel
theorem dL_law_1014 : decode cL_law 1014 = .ok (.aload_n 2, 1) := by decide +kernel
theorem dL_law_1015 : decode cL_law 1015 = .ok (.invokevirtual 168, 3) := by decide +kernel
theorem dL_law_1018 : decode cL_law 1018 = .ok (.pop, 1) := by decide +kernel
theorem dL_law_1019 : decode cL_law 1019 = .ok (.goto 417, 3) := by decide +kernel
theorem dL_law_1022 : decode cL_law 1022 = .ok (.aload_n 1, 1) := by decide +kernel
theorem dL_law_1023 : decode cL_law 1023 = .ok (.aload_n 0, 1) := by decide +kernel
theorem dL_law_1024 : decode cL_law 1024 = .ok (.iload 4, 2) := by decide +kernel
theorem dL_law_1026 : decode cL_law 1026 = .ok (.iconst 1, 1) := by decide +kernel
theorem dL_law_1027 : decode cL_law 1027 = .ok (.iadd, 1) := by decide +kernel
theorem dL_law_1028 : decode cL_law 1028 = .ok (.iaload, 1) := by decide +kernel
theorem dL_law_1029 : decode cL_law 1029 = .ok (.aload_n 0, 1) := by decide +kernel
theorem dL_law_1030 : decode cL_law 1030 = .ok (.iload 4, 2) := by decide +kernel
theorem dL_law_1032 : decode cL_law 1032 = .ok (.iconst 2, 1) := by decide +kernel
theorem dL_law_1033 : decode cL_law 1033 = .ok (.iadd, 1) := by decide +kernel
theorem dL_law_1034 : decode cL_law 1034 = .ok (.iaload, 1) := by decide +kernel
theorem dL_law_1035 : decode cL_law 1035 = .ok (.aload_n 0, 1) := by decide +kernel
theorem dL_law_1036 : decode cL_law 1036 = .ok (.iload 4, 2) := by decide +kernel
theorem dL_law_1038 : decode cL_law 1038 = .ok (.iconst 3, 1) := by decide +kernel
theorem dL_law_1039 : decode cL_law 1039 = .ok (.iadd, 1) := by decide +kernel
theorem dL_law_1040 : decode cL_law 1040 = .ok (.iaload, 1) := by decide +kernel
theorem dL_law_1041 : decode cL_law 1041 = .ok (.invokevirtual 169, 3) := by decide +kernel
theorem dL_law_1044 : decode cL_law 1044 = .ok (.pop, 1) := by decide +kernel
theorem dL_law_1045 : decode cL_law 1045 = .ok (.aload_n 2, 1) := by decide +kernel
theorem dL_law_1046 : decode cL_law 1046 = .ok (.aload_n 0, 1) := by decide +kernel
theorem dL_law_1047 : decode cL_law 1047 = .ok (.iload 4, 2) := by decide +kernel
theorem dL_law_1049 : decode cL_law 1049 = .ok (.iconst 1, 1) := by decide +kernel
theorem dL_law_1050 : decode cL_law 1050 = .ok (.iadd, 1) := by decide +kernel
theorem dL_law_1051 : decode cL_law 1051 = .ok (.iaload, 1) := by decide +kernel
theorem dL_law_1052 : decode cL_law 1052 = .ok (.aload_n 0, 1) := by decide +kernel
theorem dL_law_1053 : decode cL_law 1053 = .ok (.iload 4, 2) := by decide +kernel
theorem dL_law_1055 : decode cL_law 1055 = .ok (.iconst 2, 1) := by decide +kernel
theorem dL_law_1056 : decode cL_law 1056 = .ok (.iadd, 1) := by decide +kernel
theorem dL_law_1057 : decode cL_law 1057 = .ok (.iaload, 1) := by decide +kernel
theorem dL_law_1058 : decode cL_law 1058 = .ok (.aload_n 0, 1) := by decide +kernel
theorem dL_law_1059 : decode cL_law 1059 = .ok (.iload 4, 2) := by decide +kernel
theorem dL_law_1061 : decode cL_law 1061 = .ok (.iconst 3, 1) := by decide +kernel
theorem dL_law_1062 : decode cL_law 1062 = .ok (.iadd, 1) := by decide +kernel
theorem dL_law_1063 : decode cL_law 1063 = .ok (.iaload, 1) := by decide +kernel
theorem dL_law_1064 : decode cL_law 1064 = .ok (.invokevirtual 173, 3) := by decide +kernel
theorem dL_law_1067 : decode cL_law 1067 = .ok (.pop, 1) := by decide +kernel
theorem dL_law_1068 : decode cL_law 1068 = .ok (.goto 368, 3) := by decide +kernel
theorem dL_law_1071 : decode cL_law 1071 = .ok (.aload_n 1, 1) := by decide +kernel
theorem dL_law_1072 : decode cL_law 1072 = .ok (.aload_n 0, 1) := by decide +kernel
theorem dL_law_1073 : decode cL_law 1073 = .ok (.iload 4, 2) := by decide +kernel
theorem dL_law_1075 : decode cL_law 1075 = .ok (.iconst 1, 1) := by decide +kernel
theorem dL_law_1076 : decode cL_law 1076 = .ok (.iadd, 1) := by decide +kernel
theorem dL_law_1077 : decode cL_law 1077 = .ok (.iaload, 1) := by decide +kernel
theorem dL_law_1078 : decode cL_law 1078 = .ok (.aload_n 0, 1) := by decide +kernel
theorem dL_law_1079 : decode cL_law 1079 = .ok (.iload 4, 2) := by decide +kernel
theorem dL_law_1081 : decode cL_law 1081 = .ok (.iconst 2, 1) := by decide +kernel
theorem dL_law_1082 : decode cL_law 1082 = .ok (.iadd, 1) := by decide +kernel
theorem dL_law_1083 : decode cL_law 1083 = .ok (.iaload, 1) := by decide +kernel
theorem dL_law_1084 : decode cL_law 1084 = .ok (.aload_n 0, 1) := by decide +kernel
theorem dL_law_1085 : decode cL_law 1085 = .ok (.iload 4, 2) := by decide +kernel
theorem dL_law_1087 : decode cL_law 1087 = .ok (.iconst 3, 1) := by decide +kernel
theorem dL_law_1088 : decode cL_law 1088 = .ok (.iadd, 1) := by decide +kernel
theorem dL_law_1089 : decode cL_law 1089 = .ok (.iaload, 1) := by decide +kernel
theorem dL_law_1090 : decode cL_law 1090 = .ok (.invokevirtual 174, 3) := by decide +kernel
theorem dL_law_1093 : decode cL_law 1093 = .ok (.pop, 1) := by decide +kernel
theorem dL_law_1094 : decode cL_law 1094 = .ok (.aload_n 2, 1) := by decide +kernel
theorem dL_law_1095 : decode cL_law 1095 = .ok (.aload_n 0, 1) := by decide +kernel
theorem dL_law_1096 : decode cL_law 1096 = .ok (.iload 4, 2) := by decide +kernel
theorem dL_law_1098 : decode cL_law 1098 = .ok (.iconst 1, 1) := by decide +kernel
theorem dL_law_1099 : decode cL_law 1099 = .ok (.iadd, 1) := by decide +kernel
theorem dL_law_1100 : decode cL_law 1100 = .ok (.iaload, 1) := by decide +kernel
theorem dL_law_1101 : decode cL_law 1101 = .ok (.aload_n 0, 1) := by decide +kernel
theorem dL_law_1102 : decode cL_law 1102 = .ok (.iload 4, 2) := by decide +kernel
theorem dL_law_1104 : decode cL_law 1104 = .ok (.iconst 2, 1) := by decide +kernel
theorem dL_law_1105 : decode cL_law 1105 = .ok (.iadd, 1) := by decide +kernel
theorem dL_law_1106 : decode cL_law 1106 = .ok (.iaload, 1) := by decide +kernel
theorem dL_law_1107 : decode cL_law 1107 = .ok (.aload_n 0, 1) := by decide +kernel
theorem dL_law_1108 : decode cL_law 1108 = .ok (.iload 4, 2) := by decide +kernel
theorem dL_law_1110 : decode cL_law 1110 = .ok (.iconst 3, 1) := by decide +kernel
theorem dL_law_1111 : decode cL_law 1111 = .ok (.iadd, 1) := by decide +kernel
theorem dL_law_1112 : decode cL_law 1112 = .ok (.iaload, 1) := by decide +kernel
theorem dL_law_1113 : decode cL_law 1113 = .ok (.invokevirtual 177, 3) := by decide +kernel
theorem dL_law_1116 : decode cL_law 1116 = .ok (.pop, 1) := by decide +kernel
theorem dL_law_1117 : decode cL_law 1117 = .ok (.goto 319, 3) := by decide +kernel
theorem dL_law_1120 : decode cL_law 1120 = .ok (.aload_n 1, 1) := by decide +kernel
theorem dL_law_1121 : decode cL_law 1121 = .ok (.invokevirtual 178, 3) := by decide +kernel
theorem dL_law_1124 : decode cL_law 1124 = .ok (.pop, 1) := by decide +kernel
theorem dL_law_1125 : decode cL_law 1125 = .ok (.aload_n 2, 1) := by decide +kernel
theorem dL_law_1126 : decode cL_law 1126 = .ok (.invokevirtual 181, 3) := by decide +kernel
theorem dL_law_1129 : decode cL_law 1129 = .ok (.pop, 1) := by decide +kernel
theorem dL_law_1130 : decode cL_law 1130 = .ok (.goto 306, 3) := by decide +kernel
theorem dL_law_1133 : decode cL_law 1133 = .ok (.aload_n 1, 1) := by decide +kernel
theorem dL_law_1134 : decode cL_law 1134 = .ok (.invokevirtual 182, 3) := by decide +kernel
theorem dL_law_1137 : decode cL_law 1137 = .ok (.pop, 1) := by decide +kernel
theorem dL_law_1138 : decode cL_law 1138 = .ok (.aload_n 2, 1) := by decide +kernel
theorem dL_law_1139 : decode cL_law 1139 = .ok (.invokevirtual 185, 3) := by decide +kernel
theorem dL_law_1142 : decode cL_law 1142 = .ok (.pop, 1) := by decide +kernel
theorem dL_law_1143 : decode cL_law 1143 = .ok (.goto 293, 3) := by decide +kernel
theorem dL_law_1146 : decode cL_law 1146 = .ok (.aload_n 1, 1) := by decide +kernel
theorem dL_law_1147 : decode cL_law 1147 = .ok (.aload_n 0, 1) := by decide +kernel
theorem dL_law_1148 : decode cL_law 1148 = .ok (.iload 4, 2) := by decide +kernel
theorem dL_law_1150 : decode cL_law 1150 = .ok (.iconst 1, 1) := by decide +kernel
theorem dL_law_1151 : decode cL_law 1151 = .ok (.iadd, 1) := by decide +kernel
theorem dL_law_1152 : decode cL_law 1152 = .ok (.iaload, 1) := by decide +kernel
theorem dL_law_1153 : decode cL_law 1153 = .ok (.aload_n 0, 1) := by decide +kernel
theorem dL_law_1154 : decode cL_law 1154 = .ok (.iload 4, 2) := by decide +kernel
theorem dL_law_1156 : decode cL_law 1156 = .ok (.iconst 2, 1) := by decide +kernel
theorem dL_law_1157 : decode cL_law 1157 = .ok (.iadd, 1) := by decide +kernel
theorem dL_law_1158 : decode cL_law 1158 = .ok (.iaload, 1) := by decide +kernel
theorem dL_law_1159 : decode cL_law 1159 = .ok (.invokevirtual 186, 3) := by decide +kernel
theorem dL_law_1162 : decode cL_law 1162 = .ok (.pop, 1) := by decide +kernel
theorem dL_law_1163 : decode cL_law 1163 = .ok (.aload_n 2, 1) := by decide +kernel
theorem dL_law_1164 : decode cL_law 1164 = .ok (.aload_n 0, 1) := by decide +kernel
theorem dL_law_1165 : decode cL_law 1165 = .ok (.iload 4, 2) := by decide +kernel
theorem dL_law_1167 : decode cL_law 1167 = .ok (.iconst 1, 1) := by decide +kernel
theorem dL_law_1168 : decode cL_law 1168 = .ok (.iadd, 1) := by decide +kernel
theorem dL_law_1169 : decode cL_law 1169 = .ok (.iaload, 1) := by decide +kernel
theorem dL_law_1170 : decode cL_law 1170 = .ok (.aload_n 0, 1) := by decide +kernel
theorem dL_law_1171 : decode cL_law 1171 = .ok (.iload 4, 2) := by decide +kernel
theorem dL_law_1173 : decode cL_law 1173 = .ok (.iconst 2, 1) := by decide +kernel
theorem dL_law_1174 : decode cL_law 1174 = .ok (.iadd, 1) := by decide +kernel
theorem dL_law_1175 : decode cL_law 1175 = .ok (.iaload, 1) := by decide +kernel
theorem dL_law_1176 : decode cL_law 1176 = .ok (.invokevirtual 189, 3) := by decide +kernel
theorem dL_law_1179 : decode cL_law 1179 = .ok (.pop, 1) := by decide +kernel
theorem dL_law_1180 : decode cL_law 1180 = .ok (.goto 256, 3) := by decide +kernel
theorem dL_law_1183 : decode cL_law 1183 = .ok (.aload_n 1, 1) := by decide +kernel
theorem dL_law_1184 : decode cL_law 1184 = .ok (.invokevirtual 190, 3) := by decide +kernel
theorem dL_law_1187 : decode cL_law 1187 = .ok (.pop, 1) := by decide +kernel
theorem dL_law_1188 : decode cL_law 1188 = .ok (.aload_n 2, 1) := by decide +kernel
theorem dL_law_1189 : decode cL_law 1189 = .ok (.invokevirtual 193, 3) := by decide +kernel
theorem dL_law_1192 : decode cL_law 1192 = .ok (.pop, 1) := by decide +kernel
theorem dL_law_1193 : decode cL_law 1193 = .ok (.goto 243, 3) := by decide +kernel
theorem dL_law_1196 : decode cL_law 1196 = .ok (.aload_n 1, 1) := by decide +kernel
theorem dL_law_1197 : decode cL_law 1197 = .ok (.aload_n 0, 1) := by decide +kernel
theorem dL_law_1198 : decode cL_law 1198 = .ok (.iload 4, 2) := by decide +kernel
theorem dL_law_1200 : decode cL_law 1200 = .ok (.iconst 1, 1) := by decide +kernel
theorem dL_law_1201 : decode cL_law 1201 = .ok (.iadd, 1) := by decide +kernel
theorem dL_law_1202 : decode cL_law 1202 = .ok (.iaload, 1) := by decide +kernel
theorem dL_law_1203 : decode cL_law 1203 = .ok (.invokevirtual 194, 3) := by decide +kernel
theorem dL_law_1206 : decode cL_law 1206 = .ok (.aload_n 2, 1) := by decide +kernel
theorem dL_law_1207 : decode cL_law 1207 = .ok (.aload_n 0, 1) := by decide +kernel
theorem dL_law_1208 : decode cL_law 1208 = .ok (.iload 4, 2) := by decide +kernel
theorem dL_law_1210 : decode cL_law 1210 = .ok (.iconst 1, 1) := by decide +kernel
theorem dL_law_1211 : decode cL_law 1211 = .ok (.iadd, 1) := by decide +kernel
theorem dL_law_1212 : decode cL_law 1212 = .ok (.iaload, 1) := by decide +kernel
theorem dL_law_1213 : decode cL_law 1213 = .ok (.invokevirtual 197, 3) := by decide +kernel
theorem dL_law_1216 : decode cL_law 1216 = .ok (.if_icmp .eq 220, 3) := by decide +kernel
theorem dL_law_1219 : decode cL_law 1219 = .ok (.iconst 0, 1) := by decide +kernel
theorem dL_law_1220 : decode cL_law 1220 = .ok (.ireturn, 1) := by decide +kernel
theorem dL_law_1221 : decode cL_law 1221 = .ok (.aload_n 1, 1) := by decide +kernel
theorem dL_law_1222 : decode cL_law 1222 = .ok (.aload_n 0, 1) := by decide +kernel
theorem dL_law_1223 : decode cL_law 1223 = .ok (.iload 4, 2) := by decide +kernel
theorem dL_law_1225 : decode cL_law 1225 = .ok (.iconst 1, 1) := by decide +kernel
theorem dL_law_1226 : decode cL_law 1226 = .ok (.iadd, 1) := by decide +kernel
theorem dL_law_1227 : decode cL_law 1227 = .ok (.iaload, 1) := by decide +kernel
theorem dL_law_1228 : decode cL_law 1228 = .ok (.invokevirtual 198, 3) := by decide +kernel
theorem dL_law_1231 : decode cL_law 1231 = .ok (.pop, 1) := by decide +kernel
theorem dL_law_1232 : decode cL_law 1232 = .ok (.aload_n 2, 1) := by decide +kernel
theorem dL_law_1233 : decode cL_law 1233 = .ok (.aload_n 0, 1) := by decide +kernel
theorem dL_law_1234 : decode cL_law 1234 = .ok (.iload 4, 2) := by decide +kernel
theorem dL_law_1236 : decode cL_law 1236 = .ok (.iconst 1, 1) := by decide +kernel
theorem dL_law_1237 : decode cL_law 1237 = .ok (.iadd, 1) := by decide +kernel
theorem dL_law_1238 : decode cL_law 1238 = .ok (.iaload, 1) := by decide +kernel
theorem dL_law_1239 : decode cL_law 1239 = .ok (.invokevirtual 201, 3) := by decide +kernel
theorem dL_law_1242 : decode cL_law 1242 = .ok (.pop, 1) := by decide +kernel
theorem dL_law_1243 : decode cL_law 1243 = .ok (.goto 193, 3) := by decide +kernel
theorem dL_law_1246 : decode cL_law 1246 = .ok (.aload_n 1, 1) := by decide +kernel
theorem dL_law_1247 : decode cL_law 1247 = .ok (.aload_n 0, 1) := by decide +kernel
theorem dL_law_1248 : decode cL_law 1248 = .ok (.iload 4, 2) := by decide +kernel
theorem dL_law_1250 : decode cL_law 1250 = .ok (.iconst 1, 1) := by decide +kernel
theorem dL_law_1251 : decode cL_law 1251 = .ok (.iadd, 1) := by decide +kernel
theorem dL_law_1252 : decode cL_law 1252 = .ok (.iaload, 1) := by decide +kernel
theorem dL_law_1253 : decode cL_law 1253 = .ok (.aload_n 0, 1) := by decide +kernel
theorem dL_law_1254 : decode cL_law 1254 = .ok (.iload 4, 2) := by decide +kernel
theorem dL_law_1256 : decode cL_law 1256 = .ok (.iconst 2, 1) := by decide +kernel
theorem dL_law_1257 : decode cL_law 1257 = .ok (.iadd, 1) := by decide +kernel
theorem dL_law_1258 : decode cL_law 1258 = .ok (.iaload, 1) := by decide +kernel
theorem dL_law_1259 : decode cL_law 1259 = .ok (.invokevirtual 202, 3) := by decide +kernel
theorem dL_law_1262 : decode cL_law 1262 = .ok (.pop, 1) := by decide +kernel
theorem dL_law_1263 : decode cL_law 1263 = .ok (.aload_n 2, 1) := by decide +kernel
theorem dL_law_1264 : decode cL_law 1264 = .ok (.aload_n 0, 1) := by decide +kernel
theorem dL_law_1265 : decode cL_law 1265 = .ok (.iload 4, 2) := by decide +kernel
theorem dL_law_1267 : decode cL_law 1267 = .ok (.iconst 1, 1) := by decide +kernel
theorem dL_law_1268 : decode cL_law 1268 = .ok (.iadd, 1) := by decide +kernel
theorem dL_law_1269 : decode cL_law 1269 = .ok (.iaload, 1) := by decide +kernel
theorem dL_law_1270 : decode cL_law 1270 = .ok (.aload_n 0, 1) := by decide +kernel
theorem dL_law_1271 : decode cL_law 1271 = .ok (.iload 4, 2) := by decide +kernel
theorem dL_law_1273 : decode cL_law 1273 = .ok (.iconst 2, 1) := by decide +kernel
theorem dL_law_1274 : decode cL_law 1274 = .ok (.iadd, 1) := by decide +kernel
theorem dL_law_1275 : decode cL_law 1275 = .ok (.iaload, 1) := by decide +kernel
theorem dL_law_1276 : decode cL_law 1276 = .ok (.invokevirtual 205, 3) := by decide +kernel
theorem dL_law_1279 : decode cL_law 1279 = .ok (.pop, 1) := by decide +kernel
theorem dL_law_1280 : decode cL_law 1280 = .ok (.goto 156, 3) := by decide +kernel
theorem dL_law_1283 : decode cL_law 1283 = .ok (.aload_n 1, 1) := by decide +kernel
theorem dL_law_1284 : decode cL_law 1284 = .ok (.invokevirtual 206, 3) := by decide +kernel
theorem dL_law_1287 : decode cL_law 1287 = .ok (.pop, 1) := by decide +kernel
theorem dL_law_1288 : decode cL_law 1288 = .ok (.aload_n 2, 1) := by decide +kernel
theorem dL_law_1289 : decode cL_law 1289 = .ok (.invokevirtual 209, 3) := by decide +kernel
theorem dL_law_1292 : decode cL_law 1292 = .ok (.pop, 1) := by decide +kernel
theorem dL_law_1293 : decode cL_law 1293 = .ok (.goto 143, 3) := by decide +kernel
theorem dL_law_1296 : decode cL_law 1296 = .ok (.aload_n 1, 1) := by decide +kernel
theorem dL_law_1297 : decode cL_law 1297 = .ok (.aload_n 0, 1) := by decide +kernel
theorem dL_law_1298 : decode cL_law 1298 = .ok (.iload 4, 2) := by decide +kernel
theorem dL_law_1300 : decode cL_law 1300 = .ok (.iconst 1, 1) := by decide +kernel
theorem dL_law_1301 : decode cL_law 1301 = .ok (.iadd, 1) := by decide +kernel
theorem dL_law_1302 : decode cL_law 1302 = .ok (.iaload, 1) := by decide +kernel
theorem dL_law_1303 : decode cL_law 1303 = .ok (.aload_n 0, 1) := by decide +kernel
theorem dL_law_1304 : decode cL_law 1304 = .ok (.iload 4, 2) := by decide +kernel
theorem dL_law_1306 : decode cL_law 1306 = .ok (.iconst 2, 1) := by decide +kernel
theorem dL_law_1307 : decode cL_law 1307 = .ok (.iadd, 1) := by decide +kernel
theorem dL_law_1308 : decode cL_law 1308 = .ok (.iaload, 1) := by decide +kernel
theorem dL_law_1309 : decode cL_law 1309 = .ok (.invokevirtual 210, 3) := by decide +kernel
theorem dL_law_1312 : decode cL_law 1312 = .ok (.pop, 1) := by decide +kernel
theorem dL_law_1313 : decode cL_law 1313 = .ok (.aload_n 2, 1) := by decide +kernel
theorem dL_law_1314 : decode cL_law 1314 = .ok (.aload_n 0, 1) := by decide +kernel
theorem dL_law_1315 : decode cL_law 1315 = .ok (.iload 4, 2) := by decide +kernel
theorem dL_law_1317 : decode cL_law 1317 = .ok (.iconst 1, 1) := by decide +kernel
theorem dL_law_1318 : decode cL_law 1318 = .ok (.iadd, 1) := by decide +kernel
theorem dL_law_1319 : decode cL_law 1319 = .ok (.iaload, 1) := by decide +kernel
theorem dL_law_1320 : decode cL_law 1320 = .ok (.aload_n 0, 1) := by decide +kernel
theorem dL_law_1321 : decode cL_law 1321 = .ok (.iload 4, 2) := by decide +kernel
theorem dL_law_1323 : decode cL_law 1323 = .ok (.iconst 2, 1) := by decide +kernel
theorem dL_law_1324 : decode cL_law 1324 = .ok (.iadd, 1) := by decide +kernel
theorem dL_law_1325 : decode cL_law 1325 = .ok (.iaload, 1) := by decide +kernel
theorem dL_law_1326 : decode cL_law 1326 = .ok (.invokevirtual 213, 3) := by decide +kernel
theorem dL_law_1329 : decode cL_law 1329 = .ok (.pop, 1) := by decide +kernel
theorem dL_law_1330 : decode cL_law 1330 = .ok (.goto 106, 3) := by decide +kernel
theorem dL_law_1333 : decode cL_law 1333 = .ok (.aload_n 1, 1) := by decide +kernel
theorem dL_law_1334 : decode cL_law 1334 = .ok (.aload_n 0, 1) := by decide +kernel
theorem dL_law_1335 : decode cL_law 1335 = .ok (.iload 4, 2) := by decide +kernel
theorem dL_law_1337 : decode cL_law 1337 = .ok (.iconst 1, 1) := by decide +kernel
theorem dL_law_1338 : decode cL_law 1338 = .ok (.iadd, 1) := by decide +kernel
theorem dL_law_1339 : decode cL_law 1339 = .ok (.iaload, 1) := by decide +kernel
theorem dL_law_1340 : decode cL_law 1340 = .ok (.invokevirtual 214, 3) := by decide +kernel
theorem dL_law_1343 : decode cL_law 1343 = .ok (.pop, 1) := by decide +kernel
theorem dL_law_1344 : decode cL_law 1344 = .ok (.aload_n 2, 1) := by decide +kernel
theorem dL_law_1345 : decode cL_law 1345 = .ok (.aload_n 0, 1) := by decide +kernel
theorem dL_law_1346 : decode cL_law 1346 = .ok (.iload 4, 2) := by decide +kernel
theorem dL_law_1348 : decode cL_law 1348 = .ok (.iconst 1, 1) := by decide +kernel
theorem dL_law_1349 : decode cL_law 1349 = .ok (.iadd, 1) := by decide +kernel
theorem dL_law_1350 : decode cL_law 1350 = .ok (.iaload, 1) := by decide +kernel
theorem dL_law_1351 : decode cL_law 1351 = .ok (.invokevirtual 217, 3) := by decide +kernel
theorem dL_law_1354 : decode cL_law 1354 = .ok (.pop, 1) := by decide +kernel
theorem dL_law_1355 : decode cL_law 1355 = .ok (.goto 81, 3) := by decide +kernel
theorem dL_law_1358 : decode cL_law 1358 = .ok (.aload_n 1, 1) := by decide +kernel
theorem dL_law_1359 : decode cL_law 1359 = .ok (.aload_n 0, 1) := by decide +kernel
theorem dL_law_1360 : decode cL_law 1360 = .ok (.iload 4, 2) := by decide +kernel
theorem dL_law_1362 : decode cL_law 1362 = .ok (.iconst 1, 1) := by decide +kernel
theorem dL_law_1363 : decode cL_law 1363 = .ok (.iadd, 1) := by decide +kernel
theorem dL_law_1364 : decode cL_law 1364 = .ok (.iaload, 1) := by decide +kernel
theorem dL_law_1365 : decode cL_law 1365 = .ok (.invokevirtual 218, 3) := by decide +kernel
theorem dL_law_1368 : decode cL_law 1368 = .ok (.pop, 1) := by decide +kernel
theorem dL_law_1369 : decode cL_law 1369 = .ok (.aload_n 2, 1) := by decide +kernel
theorem dL_law_1370 : decode cL_law 1370 = .ok (.aload_n 0, 1) := by decide +kernel
theorem dL_law_1371 : decode cL_law 1371 = .ok (.iload 4, 2) := by decide +kernel
theorem dL_law_1373 : decode cL_law 1373 = .ok (.iconst 1, 1) := by decide +kernel
theorem dL_law_1374 : decode cL_law 1374 = .ok (.iadd, 1) := by decide +kernel
theorem dL_law_1375 : decode cL_law 1375 = .ok (.iaload, 1) := by decide +kernel
theorem dL_law_1376 : decode cL_law 1376 = .ok (.invokevirtual 221, 3) := by decide +kernel
theorem dL_law_1379 : decode cL_law 1379 = .ok (.pop, 1) := by decide +kernel
theorem dL_law_1380 : decode cL_law 1380 = .ok (.goto 56, 3) := by decide +kernel
theorem dL_law_1383 : decode cL_law 1383 = .ok (.aload_n 1, 1) := by decide +kernel
theorem dL_law_1384 : decode cL_law 1384 = .ok (.aload_n 0, 1) := by decide +kernel
theorem dL_law_1385 : decode cL_law 1385 = .ok (.iload 4, 2) := by decide +kernel
theorem dL_law_1387 : decode cL_law 1387 = .ok (.iconst 1, 1) := by decide +kernel
theorem dL_law_1388 : decode cL_law 1388 = .ok (.iadd, 1) := by decide +kernel
theorem dL_law_1389 : decode cL_law 1389 = .ok (.iaload, 1) := by decide +kernel
theorem dL_law_1390 : decode cL_law 1390 = .ok (.invokevirtual 222, 3) := by decide +kernel
theorem dL_law_1393 : decode cL_law 1393 = .ok (.pop, 1) := by decide +kernel
theorem dL_law_1394 : decode cL_law 1394 = .ok (.aload_n 2, 1) := by decide +kernel
theorem dL_law_1395 : decode cL_law 1395 = .ok (.aload_n 0, 1) := by decide +kernel
theorem dL_law_1396 : decode cL_law 1396 = .ok (.iload 4, 2) := by decide +kernel
theorem dL_law_1398 : decode cL_law 1398 = .ok (.iconst 1, 1) := by decide +kernel
theorem dL_law_1399 : decode cL_law 1399 = .ok (.iadd, 1) := by decide +kernel
theorem dL_law_1400 : decode cL_law 1400 = .ok (.iaload, 1) := by decide +kernel
theorem dL_law_1401 : decode cL_law 1401 = .ok (.invokevirtual 225, 3) := by decide +kernel
theorem dL_law_1404 : decode cL_law 1404 = .ok (.pop, 1) := by decide +kernel
theorem dL_law_1405 : decode cL_law 1405 = .ok (.goto 31, 3) := by decide +kernel
theorem dL_law_1408 : decode cL_law 1408 = .ok (.aload_n 1, 1) := by decide +kernel
theorem dL_law_1409 : decode cL_law 1409 = .ok (.aload_n 0, 1) := by decide +kernel
theorem dL_law_1410 : decode cL_law 1410 = .ok (.iload 4, 2) := by decide +kernel
theorem dL_law_1412 : decode cL_law 1412 = .ok (.iconst 1, 1) := by decide +kernel
theorem dL_law_1413 : decode cL_law 1413 = .ok (.iadd, 1) := by decide +kernel
theorem dL_law_1414 : decode cL_law 1414 = .ok (.iaload, 1) := by decide +kernel
theorem dL_law_1415 : decode cL_law 1415 = .ok (.aload_n 3, 1) := by decide +kernel
theorem dL_law_1416 : decode cL_law 1416 = .ok (.invokestatic 226, 3) := by decide +kernel
theorem dL_law_1419 : decode cL_law 1419 = .ok (.istore 5, 2) := by decide +kernel
theorem dL_law_1421 : decode cL_law 1421 = .ok (.aload_n 2, 1) := by decide +kernel
theorem dL_law_1422 : decode cL_law 1422 = .ok (.aload_n 0, 1) := by decide +kernel
theorem dL_law_1423 : decode cL_law 1423 = .ok (.iload 4, 2) := by decide +kernel
theorem dL_law_1425 : decode cL_law 1425 = .ok (.iconst 1, 1) := by decide +kernel
theorem dL_law_1426 : decode cL_law 1426 = .ok (.iadd, 1) := by decide +kernel
theorem dL_law_1427 : decode cL_law 1427 = .ok (.iaload, 1) := by decide +kernel
theorem dL_law_1428 : decode cL_law 1428 = .ok (.invokevirtual 229, 3) := by decide +kernel
theorem dL_law_1431 : decode cL_law 1431 = .ok (.lstore 6, 2) := by decide +kernel
theorem dL_law_1433 : decode cL_law 1433 = .ok (.goto 3, 3) := by decide +kernel
theorem dL_law_1436 : decode cL_law 1436 = .ok (.iinc 4 5, 3) := by decide +kernel
theorem dL_law_1439 : decode cL_law 1439 = .ok (.goto (-1416), 3) := by decide +kernel
theorem dL_law_1442 : decode cL_law 1442 = .ok (.iconst 1, 1) := by decide +kernel
theorem dL_law_1443 : decode cL_law 1443 = .ok (.ireturn, 1) := by decide +kernel
