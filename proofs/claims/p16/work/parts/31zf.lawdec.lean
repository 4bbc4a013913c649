/-! THE CLAIM OUT OF ONE WALK OF THE LAW'S BODY. Your part is whole_start (and what it stands on); all else here is the same for every law, but numbers. -/
def R_law : String := "RockingHorseLaw"
def lw_P (b : Addr) (xs : List Int32) (args : Array Value) (s : State) : Prop := args = #[.ref b] ∧ s.IntsAt b xs ∧ xs.length ≤ 2560 ∧ (Jvm.Cond.and given_1 narrow_1).before args s = true
def lw_Q (_ : Array Value) (s : State) (o : Outcome) (t : State) : Prop := o = .returned (some (.int 1)) ∧ Framed s o t [] 601024 7293034
def lw_Z (below : List Frame) (a : Array Value) (s : State) : State → Prop := fun t => ∃ o, t.status = .running ∧ Ended t below o ∧ lw_Q a s o t
/-- the law's own end, with 1 on the stack, nothing written that was there before, its room as the claim has it -/
theorem lw_ret {p : Program} {l : Launch} {e : Env} {s : State} {m : MethodId} {below : List Frame} {meth : Method} {c : Code} {b : Nat} (hx : p.tables.exec = Jvm.exec) (hb : c.code = code) (hr : meth.sig.returnType = ret) (hlocks : meth.locks = false) {pc : Nat} {H : Heap} {ls : Array Slot} (hdg : decode code pc = .ok (.ireturn, 1)) : W p l e room_1 s m #[Value.ref b] below meth c H [] 601024 7293034 (lw_Z below #[Value.ref b] s) (F0 m pc ls [.int 1]) := by
  intro T hT X
  obtain ⟨fs, hret, hrun, hended, hW, hframe⟩ := X.leave (v := some (.int 1)) (hlocks := hlocks) (fun h => by rw [hr] at h; cases h)
  have hmeth' : T.vm.method? m = some meth := X.method'
  refine ⟨T.setFrames fs, ?_, .returned (some (.int 1)), hrun, hended, rfl, ⟨_, rfl⟩, hW, hframe⟩
  jvm_step X.here [X.here.top, hx, hb, hdg, hmeth', hr, ret, narrow_b1]
  (try refine ⟨rfl, ?_⟩); (try refine ⟨rfl, ?_⟩)
  first | (intro acts; rw [hret _ acts rfl rfl rfl]) | rw [hret _ _ rfl rfl rfl]
  exact Steps.refl _
/-- what holds at the law's entry: the machine, the code, the tables' words (any of lw_tbl by 'hts w (by decide +kernel)'), the script of L ints xs at the cell b, what the Statement gives of the start (any of its parts by flat_of_before) -/
def lw_At (p : Program) (s : State) (m : MethodId) (meth : Method) (c : Code) (b L : Nat) (xs : Nat → Int32) : Prop :=
  p.tables.exec = Jvm.exec ∧ c.code = code ∧ meth.sig.returnType = ret ∧ c.maxLocals = 8 ∧ s.vm.findClass R_law = some m.cls ∧ (∀ w ∈ lw_tbl, w.before #[Value.ref b] s = true) ∧ va_X b L xs s s.heap ∧ b < s.heap.size ∧ meth.locks = false ∧ (Jvm.Cond.and given_1 narrow_1).before #[Value.ref b] s = true
theorem zw23 : (Jvm.Cond.classLink "RockingHorseLaw" (8 : Nat) "RockingHorse") ∈ zTs := zTs_b1 23 rfl rfl
theorem zw24 : (Jvm.Cond.instantiable "RockingHorse" (16 : Nat)) ∈ zTs := zTs_b1 24 rfl rfl
theorem zw25 : (Jvm.Cond.methodLink "RockingHorseLaw" (19 : Nat) ({ cls := "RockingHorse", name := "<init>", desc := "()V" } : Jvm.MethodName)) ∈ zTs := zTs_b1 25 rfl rfl
theorem zw26 : (Jvm.Cond.instanceMethod ({ cls := "RockingHorse", name := "<init>", desc := "()V" } : Jvm.MethodName)) ∈ zTs := zTs_b1 26 rfl rfl
theorem zw27 : (Jvm.Cond.code ({ cls := "RockingHorse", name := "<init>", desc := "()V" } : Jvm.MethodName) prog_1_method_1_code (2 : Nat) (Option.none : Option Jvm.ClassFile.FieldType)) ∈ zTs := zTs_b1 27 rfl rfl
theorem zw472 : (Jvm.Cond.methodLink "RockingHorseLaw" (23 : Nat) ({ cls := "RockingHorse", name := "sign", desc := "(I)I" } : Jvm.MethodName)) ∈ zTs := zTs_b2 232 rfl rfl
theorem zw473 : (Jvm.Cond.instanceMethod ({ cls := "RockingHorse", name := "sign", desc := "(I)I" } : Jvm.MethodName)) ∈ zTs := zTs_b2 233 rfl rfl
theorem zw474 : (Jvm.Cond.selects "RockingHorse" ({ cls := "RockingHorse", name := "sign", desc := "(I)I" } : Jvm.MethodName) ({ cls := "RockingHorse", name := "sign", desc := "(I)I" } : Jvm.MethodName)) ∈ zTs := zTs_b2 234 rfl rfl
theorem zw475 : (Jvm.Cond.code ({ cls := "RockingHorse", name := "sign", desc := "(I)I" } : Jvm.MethodName) prog_1_method_2_code (2 : Nat) (Option.some Jvm.ClassFile.FieldType.int)) ∈ zTs := zTs_b2 235 rfl rfl
theorem zw480 : (Jvm.Cond.methodLink "RockingHorseLaw" (28 : Nat) ({ cls := "RockingHorse", name := "end", desc := "(I)Z" } : Jvm.MethodName)) ∈ zTs := zTs_b3 0 rfl rfl
theorem zw481 : (Jvm.Cond.instanceMethod ({ cls := "RockingHorse", name := "end", desc := "(I)Z" } : Jvm.MethodName)) ∈ zTs := zTs_b3 1 rfl rfl
theorem zw482 : (Jvm.Cond.selects "RockingHorse" ({ cls := "RockingHorse", name := "end", desc := "(I)Z" } : Jvm.MethodName) ({ cls := "RockingHorse", name := "end", desc := "(I)Z" } : Jvm.MethodName)) ∈ zTs := zTs_b3 2 rfl rfl
theorem zw483 : (Jvm.Cond.code ({ cls := "RockingHorse", name := "end", desc := "(I)Z" } : Jvm.MethodName) prog_1_method_3_code (2 : Nat) (Option.some Jvm.ClassFile.FieldType.boolean)) ∈ zTs := zTs_b3 3 rfl rfl
theorem zw488 : (Jvm.Cond.methodLink "RockingHorseLaw" (33 : Nat) ({ cls := "RockingHorse", name := "riders", desc := "()I" } : Jvm.MethodName)) ∈ zTs := zTs_b3 8 rfl rfl
theorem zw489 : (Jvm.Cond.instanceMethod ({ cls := "RockingHorse", name := "riders", desc := "()I" } : Jvm.MethodName)) ∈ zTs := zTs_b3 9 rfl rfl
theorem zw490 : (Jvm.Cond.selects "RockingHorse" ({ cls := "RockingHorse", name := "riders", desc := "()I" } : Jvm.MethodName) ({ cls := "RockingHorse", name := "riders", desc := "()I" } : Jvm.MethodName)) ∈ zTs := zTs_b3 10 rfl rfl
theorem zw491 : (Jvm.Cond.code ({ cls := "RockingHorse", name := "riders", desc := "()I" } : Jvm.MethodName) prog_1_method_4_code (2 : Nat) (Option.some Jvm.ClassFile.FieldType.int)) ∈ zTs := zTs_b3 11 rfl rfl
theorem zw529 : (Jvm.Cond.methodLink "RockingHorseLaw" (38 : Nat) ({ cls := "RockingHorse", name := "rule", desc := "()I" } : Jvm.MethodName)) ∈ zTs := zTs_b3 49 rfl rfl
theorem zw530 : (Jvm.Cond.instanceMethod ({ cls := "RockingHorse", name := "rule", desc := "()I" } : Jvm.MethodName)) ∈ zTs := zTs_b3 50 rfl rfl
theorem zw531 : (Jvm.Cond.selects "RockingHorse" ({ cls := "RockingHorse", name := "rule", desc := "()I" } : Jvm.MethodName) ({ cls := "RockingHorse", name := "rule", desc := "()I" } : Jvm.MethodName)) ∈ zTs := zTs_b3 51 rfl rfl
theorem zw532 : (Jvm.Cond.code ({ cls := "RockingHorse", name := "rule", desc := "()I" } : Jvm.MethodName) prog_1_method_5_code (3 : Nat) (Option.some Jvm.ClassFile.FieldType.int)) ∈ zTs := zTs_b3 52 rfl rfl
theorem zw543 : (Jvm.Cond.methodLink "RockingHorseLaw" (48 : Nat) ({ cls := "RockingHorse", name := "hard", desc := "(II)I" } : Jvm.MethodName)) ∈ zTs := zTs_b3 63 rfl rfl
theorem zw544 : (Jvm.Cond.instanceMethod ({ cls := "RockingHorse", name := "hard", desc := "(II)I" } : Jvm.MethodName)) ∈ zTs := zTs_b3 64 rfl rfl
theorem zw545 : (Jvm.Cond.selects "RockingHorse" ({ cls := "RockingHorse", name := "hard", desc := "(II)I" } : Jvm.MethodName) ({ cls := "RockingHorse", name := "hard", desc := "(II)I" } : Jvm.MethodName)) ∈ zTs := zTs_b3 65 rfl rfl
theorem zw546 : (Jvm.Cond.code ({ cls := "RockingHorse", name := "hard", desc := "(II)I" } : Jvm.MethodName) prog_1_method_7_code (3 : Nat) (Option.some Jvm.ClassFile.FieldType.int)) ∈ zTs := zTs_b3 66 rfl rfl
theorem zw584 : (Jvm.Cond.methodLink "RockingHorseLaw" (52 : Nat) ({ cls := "RockingHorse", name := "set", desc := "(II)I" } : Jvm.MethodName)) ∈ zTs := zTs_b3 104 rfl rfl
theorem zw585 : (Jvm.Cond.instanceMethod ({ cls := "RockingHorse", name := "set", desc := "(II)I" } : Jvm.MethodName)) ∈ zTs := zTs_b3 105 rfl rfl
theorem zw586 : (Jvm.Cond.selects "RockingHorse" ({ cls := "RockingHorse", name := "set", desc := "(II)I" } : Jvm.MethodName) ({ cls := "RockingHorse", name := "set", desc := "(II)I" } : Jvm.MethodName)) ∈ zTs := zTs_b3 106 rfl rfl
theorem zw587 : (Jvm.Cond.code ({ cls := "RockingHorse", name := "set", desc := "(II)I" } : Jvm.MethodName) prog_1_method_8_code (4 : Nat) (Option.some Jvm.ClassFile.FieldType.int)) ∈ zTs := zTs_b3 107 rfl rfl
theorem zw588 : (Jvm.Cond.methodLink "RockingHorseLaw" (56 : Nat) ({ cls := "RockingHorse", name := "sheet", desc := "(IIII)I" } : Jvm.MethodName)) ∈ zTs := zTs_b3 108 rfl rfl
theorem zw589 : (Jvm.Cond.instanceMethod ({ cls := "RockingHorse", name := "sheet", desc := "(IIII)I" } : Jvm.MethodName)) ∈ zTs := zTs_b3 109 rfl rfl
theorem zw590 : (Jvm.Cond.selects "RockingHorse" ({ cls := "RockingHorse", name := "sheet", desc := "(IIII)I" } : Jvm.MethodName) ({ cls := "RockingHorse", name := "sheet", desc := "(IIII)I" } : Jvm.MethodName)) ∈ zTs := zTs_b3 110 rfl rfl
theorem zw591 : (Jvm.Cond.code ({ cls := "RockingHorse", name := "sheet", desc := "(IIII)I" } : Jvm.MethodName) prog_1_method_9_code (6 : Nat) (Option.some Jvm.ClassFile.FieldType.int)) ∈ zTs := zTs_b3 111 rfl rfl
theorem zw601 : (Jvm.Cond.methodLink "RockingHorseLaw" (61 : Nat) ({ cls := "RockingHorse", name := "rota", desc := "()I" } : Jvm.MethodName)) ∈ zTs := zTs_b3 121 rfl rfl
theorem zw602 : (Jvm.Cond.instanceMethod ({ cls := "RockingHorse", name := "rota", desc := "()I" } : Jvm.MethodName)) ∈ zTs := zTs_b3 122 rfl rfl
theorem zw603 : (Jvm.Cond.selects "RockingHorse" ({ cls := "RockingHorse", name := "rota", desc := "()I" } : Jvm.MethodName) ({ cls := "RockingHorse", name := "rota", desc := "()I" } : Jvm.MethodName)) ∈ zTs := zTs_b3 123 rfl rfl
theorem zw604 : (Jvm.Cond.code ({ cls := "RockingHorse", name := "rota", desc := "()I" } : Jvm.MethodName) prog_1_method_10_code (3 : Nat) (Option.some Jvm.ClassFile.FieldType.int)) ∈ zTs := zTs_b3 124 rfl rfl
theorem zw628 : (Jvm.Cond.methodLink "RockingHorseLaw" (65 : Nat) ({ cls := "RockingHorse", name := "give", desc := "(II)I" } : Jvm.MethodName)) ∈ zTs := zTs_b3 148 rfl rfl
theorem zw629 : (Jvm.Cond.instanceMethod ({ cls := "RockingHorse", name := "give", desc := "(II)I" } : Jvm.MethodName)) ∈ zTs := zTs_b3 149 rfl rfl
theorem zw630 : (Jvm.Cond.selects "RockingHorse" ({ cls := "RockingHorse", name := "give", desc := "(II)I" } : Jvm.MethodName) ({ cls := "RockingHorse", name := "give", desc := "(II)I" } : Jvm.MethodName)) ∈ zTs := zTs_b3 150 rfl rfl
theorem zw631 : (Jvm.Cond.code ({ cls := "RockingHorse", name := "give", desc := "(II)I" } : Jvm.MethodName) prog_1_method_11_code (4 : Nat) (Option.some Jvm.ClassFile.FieldType.int)) ∈ zTs := zTs_b3 151 rfl rfl
theorem zw637 : (Jvm.Cond.methodLink "RockingHorseLaw" (69 : Nat) ({ cls := "RockingHorse", name := "ill", desc := "(I)I" } : Jvm.MethodName)) ∈ zTs := zTs_b3 157 rfl rfl
theorem zw638 : (Jvm.Cond.instanceMethod ({ cls := "RockingHorse", name := "ill", desc := "(I)I" } : Jvm.MethodName)) ∈ zTs := zTs_b3 158 rfl rfl
theorem zw639 : (Jvm.Cond.selects "RockingHorse" ({ cls := "RockingHorse", name := "ill", desc := "(I)I" } : Jvm.MethodName) ({ cls := "RockingHorse", name := "ill", desc := "(I)I" } : Jvm.MethodName)) ∈ zTs := zTs_b3 159 rfl rfl
theorem zw640 : (Jvm.Cond.code ({ cls := "RockingHorse", name := "ill", desc := "(I)I" } : Jvm.MethodName) prog_1_method_12_code (2 : Nat) (Option.some Jvm.ClassFile.FieldType.int)) ∈ zTs := zTs_b3 160 rfl rfl
theorem zw646 : (Jvm.Cond.methodLink "RockingHorseLaw" (73 : Nat) ({ cls := "RockingHorse", name := "nights", desc := "(I)I" } : Jvm.MethodName)) ∈ zTs := zTs_b3 166 rfl rfl
theorem zw647 : (Jvm.Cond.instanceMethod ({ cls := "RockingHorse", name := "nights", desc := "(I)I" } : Jvm.MethodName)) ∈ zTs := zTs_b3 167 rfl rfl
theorem zw648 : (Jvm.Cond.selects "RockingHorse" ({ cls := "RockingHorse", name := "nights", desc := "(I)I" } : Jvm.MethodName) ({ cls := "RockingHorse", name := "nights", desc := "(I)I" } : Jvm.MethodName)) ∈ zTs := zTs_b3 168 rfl rfl
theorem zw649 : (Jvm.Cond.code ({ cls := "RockingHorse", name := "nights", desc := "(I)I" } : Jvm.MethodName) prog_1_method_13_code (4 : Nat) (Option.some Jvm.ClassFile.FieldType.int)) ∈ zTs := zTs_b3 169 rfl rfl
theorem zw695 : (Jvm.Cond.methodLink "RockingHorseLaw" (77 : Nat) ({ cls := "RockingHorse", name := "year", desc := "()I" } : Jvm.MethodName)) ∈ zTs := zTs_b3 215 rfl rfl
theorem zw696 : (Jvm.Cond.instanceMethod ({ cls := "RockingHorse", name := "year", desc := "()I" } : Jvm.MethodName)) ∈ zTs := zTs_b3 216 rfl rfl
theorem zw697 : (Jvm.Cond.selects "RockingHorse" ({ cls := "RockingHorse", name := "year", desc := "()I" } : Jvm.MethodName) ({ cls := "RockingHorse", name := "year", desc := "()I" } : Jvm.MethodName)) ∈ zTs := zTs_b3 217 rfl rfl
theorem zw698 : (Jvm.Cond.code ({ cls := "RockingHorse", name := "year", desc := "()I" } : Jvm.MethodName) prog_1_method_14_code (6 : Nat) (Option.some Jvm.ClassFile.FieldType.int)) ∈ zTs := zTs_b3 218 rfl rfl
theorem zw723 : (Jvm.Cond.methodLink "RockingHorseLaw" (81 : Nat) ({ cls := "RockingHorse", name := "undo", desc := "()I" } : Jvm.MethodName)) ∈ zTs := zTs_b4 3 rfl rfl
theorem zw724 : (Jvm.Cond.instanceMethod ({ cls := "RockingHorse", name := "undo", desc := "()I" } : Jvm.MethodName)) ∈ zTs := zTs_b4 4 rfl rfl
theorem zw725 : (Jvm.Cond.selects "RockingHorse" ({ cls := "RockingHorse", name := "undo", desc := "()I" } : Jvm.MethodName) ({ cls := "RockingHorse", name := "undo", desc := "()I" } : Jvm.MethodName)) ∈ zTs := zTs_b4 5 rfl rfl
theorem zw726 : (Jvm.Cond.code ({ cls := "RockingHorse", name := "undo", desc := "()I" } : Jvm.MethodName) prog_1_method_15_code (1 : Nat) (Option.some Jvm.ClassFile.FieldType.int)) ∈ zTs := zTs_b4 6 rfl rfl
theorem zw731 : (Jvm.Cond.methodLink "RockingHorseLaw" (85 : Nat) ({ cls := "RockingHorse", name := "gaps", desc := "()I" } : Jvm.MethodName)) ∈ zTs := zTs_b4 11 rfl rfl
theorem zw732 : (Jvm.Cond.instanceMethod ({ cls := "RockingHorse", name := "gaps", desc := "()I" } : Jvm.MethodName)) ∈ zTs := zTs_b4 12 rfl rfl
theorem zw733 : (Jvm.Cond.selects "RockingHorse" ({ cls := "RockingHorse", name := "gaps", desc := "()I" } : Jvm.MethodName) ({ cls := "RockingHorse", name := "gaps", desc := "()I" } : Jvm.MethodName)) ∈ zTs := zTs_b4 13 rfl rfl
theorem zw734 : (Jvm.Cond.code ({ cls := "RockingHorse", name := "gaps", desc := "()I" } : Jvm.MethodName) prog_1_method_16_code (1 : Nat) (Option.some Jvm.ClassFile.FieldType.int)) ∈ zTs := zTs_b4 14 rfl rfl
theorem zw736 : (Jvm.Cond.methodLink "RockingHorseLaw" (89 : Nat) ({ cls := "RockingHorse", name := "first", desc := "(I)I" } : Jvm.MethodName)) ∈ zTs := zTs_b4 16 rfl rfl
theorem zw737 : (Jvm.Cond.instanceMethod ({ cls := "RockingHorse", name := "first", desc := "(I)I" } : Jvm.MethodName)) ∈ zTs := zTs_b4 17 rfl rfl
theorem zw738 : (Jvm.Cond.selects "RockingHorse" ({ cls := "RockingHorse", name := "first", desc := "(I)I" } : Jvm.MethodName) ({ cls := "RockingHorse", name := "first", desc := "(I)I" } : Jvm.MethodName)) ∈ zTs := zTs_b4 18 rfl rfl
theorem zw739 : (Jvm.Cond.code ({ cls := "RockingHorse", name := "first", desc := "(I)I" } : Jvm.MethodName) prog_1_method_17_code (3 : Nat) (Option.some Jvm.ClassFile.FieldType.int)) ∈ zTs := zTs_b4 19 rfl rfl
theorem zw748 : (Jvm.Cond.methodLink "RockingHorseLaw" (93 : Nat) ({ cls := "RockingHorse", name := "later", desc := "(I)I" } : Jvm.MethodName)) ∈ zTs := zTs_b4 28 rfl rfl
theorem zw749 : (Jvm.Cond.instanceMethod ({ cls := "RockingHorse", name := "later", desc := "(I)I" } : Jvm.MethodName)) ∈ zTs := zTs_b4 29 rfl rfl
theorem zw750 : (Jvm.Cond.selects "RockingHorse" ({ cls := "RockingHorse", name := "later", desc := "(I)I" } : Jvm.MethodName) ({ cls := "RockingHorse", name := "later", desc := "(I)I" } : Jvm.MethodName)) ∈ zTs := zTs_b4 30 rfl rfl
theorem zw751 : (Jvm.Cond.code ({ cls := "RockingHorse", name := "later", desc := "(I)I" } : Jvm.MethodName) prog_1_method_18_code (2 : Nat) (Option.some Jvm.ClassFile.FieldType.int)) ∈ zTs := zTs_b4 31 rfl rfl
theorem zw757 : (Jvm.Cond.methodLink "RockingHorseLaw" (97 : Nat) ({ cls := "RockingHorse", name := "vigil", desc := "(I)I" } : Jvm.MethodName)) ∈ zTs := zTs_b4 37 rfl rfl
theorem zw758 : (Jvm.Cond.instanceMethod ({ cls := "RockingHorse", name := "vigil", desc := "(I)I" } : Jvm.MethodName)) ∈ zTs := zTs_b4 38 rfl rfl
theorem zw759 : (Jvm.Cond.selects "RockingHorse" ({ cls := "RockingHorse", name := "vigil", desc := "(I)I" } : Jvm.MethodName) ({ cls := "RockingHorse", name := "vigil", desc := "(I)I" } : Jvm.MethodName)) ∈ zTs := zTs_b4 39 rfl rfl
theorem zw760 : (Jvm.Cond.code ({ cls := "RockingHorse", name := "vigil", desc := "(I)I" } : Jvm.MethodName) prog_1_method_19_code (6 : Nat) (Option.some Jvm.ClassFile.FieldType.int)) ∈ zTs := zTs_b4 40 rfl rfl
theorem zw761 : (Jvm.Cond.methodLink "RockingHorseLaw" (101 : Nat) ({ cls := "RockingHorse", name := "trade", desc := "()I" } : Jvm.MethodName)) ∈ zTs := zTs_b4 41 rfl rfl
theorem zw762 : (Jvm.Cond.instanceMethod ({ cls := "RockingHorse", name := "trade", desc := "()I" } : Jvm.MethodName)) ∈ zTs := zTs_b4 42 rfl rfl
theorem zw763 : (Jvm.Cond.selects "RockingHorse" ({ cls := "RockingHorse", name := "trade", desc := "()I" } : Jvm.MethodName) ({ cls := "RockingHorse", name := "trade", desc := "()I" } : Jvm.MethodName)) ∈ zTs := zTs_b4 43 rfl rfl
theorem zw764 : (Jvm.Cond.code ({ cls := "RockingHorse", name := "trade", desc := "()I" } : Jvm.MethodName) prog_1_method_20_code (7 : Nat) (Option.some Jvm.ClassFile.FieldType.int)) ∈ zTs := zTs_b4 44 rfl rfl
theorem zw770 : (Jvm.Cond.methodLink "RockingHorseLaw" (105 : Nat) ({ cls := "RockingHorse", name := "easiest", desc := "()I" } : Jvm.MethodName)) ∈ zTs := zTs_b4 50 rfl rfl
theorem zw771 : (Jvm.Cond.instanceMethod ({ cls := "RockingHorse", name := "easiest", desc := "()I" } : Jvm.MethodName)) ∈ zTs := zTs_b4 51 rfl rfl
theorem zw772 : (Jvm.Cond.selects "RockingHorse" ({ cls := "RockingHorse", name := "easiest", desc := "()I" } : Jvm.MethodName) ({ cls := "RockingHorse", name := "easiest", desc := "()I" } : Jvm.MethodName)) ∈ zTs := zTs_b4 52 rfl rfl
theorem zw773 : (Jvm.Cond.code ({ cls := "RockingHorse", name := "easiest", desc := "()I" } : Jvm.MethodName) prog_1_method_21_code (3 : Nat) (Option.some Jvm.ClassFile.FieldType.int)) ∈ zTs := zTs_b4 53 rfl rfl
theorem zw839 : (Jvm.Cond.methodLink "RockingHorseLaw" (109 : Nat) ({ cls := "RockingHorse", name := "fewest", desc := "()I" } : Jvm.MethodName)) ∈ zTs := zTs_b4 119 rfl rfl
theorem zw840 : (Jvm.Cond.instanceMethod ({ cls := "RockingHorse", name := "fewest", desc := "()I" } : Jvm.MethodName)) ∈ zTs := zTs_b4 120 rfl rfl
theorem zw841 : (Jvm.Cond.selects "RockingHorse" ({ cls := "RockingHorse", name := "fewest", desc := "()I" } : Jvm.MethodName) ({ cls := "RockingHorse", name := "fewest", desc := "()I" } : Jvm.MethodName)) ∈ zTs := zTs_b4 121 rfl rfl
theorem zw842 : (Jvm.Cond.code ({ cls := "RockingHorse", name := "fewest", desc := "()I" } : Jvm.MethodName) prog_1_method_22_code (3 : Nat) (Option.some Jvm.ClassFile.FieldType.int)) ∈ zTs := zTs_b4 122 rfl rfl
theorem zw844 : (Jvm.Cond.methodLink "RockingHorseLaw" (113 : Nat) ({ cls := "RockingHorse", name := "bare", desc := "()I" } : Jvm.MethodName)) ∈ zTs := zTs_b4 124 rfl rfl
theorem zw845 : (Jvm.Cond.instanceMethod ({ cls := "RockingHorse", name := "bare", desc := "()I" } : Jvm.MethodName)) ∈ zTs := zTs_b4 125 rfl rfl
theorem zw846 : (Jvm.Cond.selects "RockingHorse" ({ cls := "RockingHorse", name := "bare", desc := "()I" } : Jvm.MethodName) ({ cls := "RockingHorse", name := "bare", desc := "()I" } : Jvm.MethodName)) ∈ zTs := zTs_b4 126 rfl rfl
theorem zw847 : (Jvm.Cond.code ({ cls := "RockingHorse", name := "bare", desc := "()I" } : Jvm.MethodName) prog_1_method_23_code (4 : Nat) (Option.some Jvm.ClassFile.FieldType.int)) ∈ zTs := zTs_b4 127 rfl rfl
theorem zw852 : (Jvm.Cond.methodLink "RockingHorseLaw" (117 : Nat) ({ cls := "RockingHorse", name := "rotas", desc := "()I" } : Jvm.MethodName)) ∈ zTs := zTs_b4 132 rfl rfl
theorem zw853 : (Jvm.Cond.instanceMethod ({ cls := "RockingHorse", name := "rotas", desc := "()I" } : Jvm.MethodName)) ∈ zTs := zTs_b4 133 rfl rfl
theorem zw854 : (Jvm.Cond.selects "RockingHorse" ({ cls := "RockingHorse", name := "rotas", desc := "()I" } : Jvm.MethodName) ({ cls := "RockingHorse", name := "rotas", desc := "()I" } : Jvm.MethodName)) ∈ zTs := zTs_b4 134 rfl rfl
theorem zw855 : (Jvm.Cond.code ({ cls := "RockingHorse", name := "rotas", desc := "()I" } : Jvm.MethodName) prog_1_method_24_code (1 : Nat) (Option.some Jvm.ClassFile.FieldType.int)) ∈ zTs := zTs_b4 135 rfl rfl
theorem zw872 : (Jvm.Cond.methodLink "RockingHorseLaw" (121 : Nat) ({ cls := "RockingHorse", name := "mended", desc := "(I)I" } : Jvm.MethodName)) ∈ zTs := zTs_b4 152 rfl rfl
theorem zw873 : (Jvm.Cond.instanceMethod ({ cls := "RockingHorse", name := "mended", desc := "(I)I" } : Jvm.MethodName)) ∈ zTs := zTs_b4 153 rfl rfl
theorem zw874 : (Jvm.Cond.selects "RockingHorse" ({ cls := "RockingHorse", name := "mended", desc := "(I)I" } : Jvm.MethodName) ({ cls := "RockingHorse", name := "mended", desc := "(I)I" } : Jvm.MethodName)) ∈ zTs := zTs_b4 154 rfl rfl
theorem zw875 : (Jvm.Cond.code ({ cls := "RockingHorse", name := "mended", desc := "(I)I" } : Jvm.MethodName) prog_1_method_25_code (4 : Nat) (Option.some Jvm.ClassFile.FieldType.int)) ∈ zTs := zTs_b4 155 rfl rfl
theorem zw880 : (Jvm.Cond.methodLink "RockingHorseLaw" (125 : Nat) ({ cls := "RockingHorse", name := "takes", desc := "()I" } : Jvm.MethodName)) ∈ zTs := zTs_b4 160 rfl rfl
theorem zw881 : (Jvm.Cond.instanceMethod ({ cls := "RockingHorse", name := "takes", desc := "()I" } : Jvm.MethodName)) ∈ zTs := zTs_b4 161 rfl rfl
theorem zw882 : (Jvm.Cond.selects "RockingHorse" ({ cls := "RockingHorse", name := "takes", desc := "()I" } : Jvm.MethodName) ({ cls := "RockingHorse", name := "takes", desc := "()I" } : Jvm.MethodName)) ∈ zTs := zTs_b4 162 rfl rfl
theorem zw883 : (Jvm.Cond.code ({ cls := "RockingHorse", name := "takes", desc := "()I" } : Jvm.MethodName) prog_1_method_26_code (6 : Nat) (Option.some Jvm.ClassFile.FieldType.int)) ∈ zTs := zTs_b4 163 rfl rfl
theorem zw884 : (Jvm.Cond.methodLink "RockingHorseLaw" (129 : Nat) ({ cls := "RockingHorse", name := "missed", desc := "(I)I" } : Jvm.MethodName)) ∈ zTs := zTs_b4 164 rfl rfl
theorem zw885 : (Jvm.Cond.instanceMethod ({ cls := "RockingHorse", name := "missed", desc := "(I)I" } : Jvm.MethodName)) ∈ zTs := zTs_b4 165 rfl rfl
theorem zw886 : (Jvm.Cond.selects "RockingHorse" ({ cls := "RockingHorse", name := "missed", desc := "(I)I" } : Jvm.MethodName) ({ cls := "RockingHorse", name := "missed", desc := "(I)I" } : Jvm.MethodName)) ∈ zTs := zTs_b4 166 rfl rfl
theorem zw887 : (Jvm.Cond.code ({ cls := "RockingHorse", name := "missed", desc := "(I)I" } : Jvm.MethodName) prog_1_method_27_code (6 : Nat) (Option.some Jvm.ClassFile.FieldType.int)) ∈ zTs := zTs_b4 167 rfl rfl
theorem zw888 : (Jvm.Cond.methodLink "RockingHorseLaw" (133 : Nat) ({ cls := "RockingHorse", name := "paid", desc := "(I)I" } : Jvm.MethodName)) ∈ zTs := zTs_b4 168 rfl rfl
theorem zw889 : (Jvm.Cond.instanceMethod ({ cls := "RockingHorse", name := "paid", desc := "(I)I" } : Jvm.MethodName)) ∈ zTs := zTs_b4 169 rfl rfl
theorem zw890 : (Jvm.Cond.selects "RockingHorse" ({ cls := "RockingHorse", name := "paid", desc := "(I)I" } : Jvm.MethodName) ({ cls := "RockingHorse", name := "paid", desc := "(I)I" } : Jvm.MethodName)) ∈ zTs := zTs_b4 170 rfl rfl
theorem zw891 : (Jvm.Cond.code ({ cls := "RockingHorse", name := "paid", desc := "(I)I" } : Jvm.MethodName) prog_1_method_28_code (8 : Nat) (Option.some Jvm.ClassFile.FieldType.int)) ∈ zTs := zTs_b4 171 rfl rfl
theorem zw892 : (Jvm.Cond.methodLink "RockingHorseLaw" (137 : Nat) ({ cls := "RockingHorse", name := "fairest", desc := "()I" } : Jvm.MethodName)) ∈ zTs := zTs_b4 172 rfl rfl
theorem zw893 : (Jvm.Cond.instanceMethod ({ cls := "RockingHorse", name := "fairest", desc := "()I" } : Jvm.MethodName)) ∈ zTs := zTs_b4 173 rfl rfl
theorem zw894 : (Jvm.Cond.selects "RockingHorse" ({ cls := "RockingHorse", name := "fairest", desc := "()I" } : Jvm.MethodName) ({ cls := "RockingHorse", name := "fairest", desc := "()I" } : Jvm.MethodName)) ∈ zTs := zTs_b4 174 rfl rfl
theorem zw895 : (Jvm.Cond.code ({ cls := "RockingHorse", name := "fairest", desc := "()I" } : Jvm.MethodName) prog_1_method_29_code (3 : Nat) (Option.some Jvm.ClassFile.FieldType.int)) ∈ zTs := zTs_b4 175 rfl rfl
theorem zw905 : (Jvm.Cond.methodLink "RockingHorseLaw" (141 : Nat) ({ cls := "RockingHorse", name := "away", desc := "()I" } : Jvm.MethodName)) ∈ zTs := zTs_b4 185 rfl rfl
theorem zw906 : (Jvm.Cond.instanceMethod ({ cls := "RockingHorse", name := "away", desc := "()I" } : Jvm.MethodName)) ∈ zTs := zTs_b4 186 rfl rfl
theorem zw907 : (Jvm.Cond.selects "RockingHorse" ({ cls := "RockingHorse", name := "away", desc := "()I" } : Jvm.MethodName) ({ cls := "RockingHorse", name := "away", desc := "()I" } : Jvm.MethodName)) ∈ zTs := zTs_b4 187 rfl rfl
theorem zw908 : (Jvm.Cond.code ({ cls := "RockingHorse", name := "away", desc := "()I" } : Jvm.MethodName) prog_1_method_30_code (5 : Nat) (Option.some Jvm.ClassFile.FieldType.int)) ∈ zTs := zTs_b4 188 rfl rfl
theorem zw914 : (Jvm.Cond.methodLink "RockingHorseLaw" (145 : Nat) ({ cls := "RockingHorse", name := "able", desc := "(I)I" } : Jvm.MethodName)) ∈ zTs := zTs_b4 194 rfl rfl
theorem zw915 : (Jvm.Cond.instanceMethod ({ cls := "RockingHorse", name := "able", desc := "(I)I" } : Jvm.MethodName)) ∈ zTs := zTs_b4 195 rfl rfl
theorem zw916 : (Jvm.Cond.selects "RockingHorse" ({ cls := "RockingHorse", name := "able", desc := "(I)I" } : Jvm.MethodName) ({ cls := "RockingHorse", name := "able", desc := "(I)I" } : Jvm.MethodName)) ∈ zTs := zTs_b4 196 rfl rfl
theorem zw917 : (Jvm.Cond.code ({ cls := "RockingHorse", name := "able", desc := "(I)I" } : Jvm.MethodName) prog_1_method_31_code (5 : Nat) (Option.some Jvm.ClassFile.FieldType.int)) ∈ zTs := zTs_b4 197 rfl rfl
theorem zw923 : (Jvm.Cond.methodLink "RockingHorseLaw" (149 : Nat) ({ cls := "RockingHorse", name := "spent", desc := "(I)I" } : Jvm.MethodName)) ∈ zTs := zTs_b4 203 rfl rfl
theorem zw924 : (Jvm.Cond.instanceMethod ({ cls := "RockingHorse", name := "spent", desc := "(I)I" } : Jvm.MethodName)) ∈ zTs := zTs_b4 204 rfl rfl
theorem zw925 : (Jvm.Cond.selects "RockingHorse" ({ cls := "RockingHorse", name := "spent", desc := "(I)I" } : Jvm.MethodName) ({ cls := "RockingHorse", name := "spent", desc := "(I)I" } : Jvm.MethodName)) ∈ zTs := zTs_b4 205 rfl rfl
theorem zw926 : (Jvm.Cond.code ({ cls := "RockingHorse", name := "spent", desc := "(I)I" } : Jvm.MethodName) prog_1_method_32_code (6 : Nat) (Option.some Jvm.ClassFile.FieldType.int)) ∈ zTs := zTs_b4 206 rfl rfl
theorem zw931 : (Jvm.Cond.methodLink "RockingHorseLaw" (153 : Nat) ({ cls := "RockingHorse", name := "shared", desc := "(II)I" } : Jvm.MethodName)) ∈ zTs := zTs_b4 211 rfl rfl
theorem zw932 : (Jvm.Cond.instanceMethod ({ cls := "RockingHorse", name := "shared", desc := "(II)I" } : Jvm.MethodName)) ∈ zTs := zTs_b4 212 rfl rfl
theorem zw933 : (Jvm.Cond.selects "RockingHorse" ({ cls := "RockingHorse", name := "shared", desc := "(II)I" } : Jvm.MethodName) ({ cls := "RockingHorse", name := "shared", desc := "(II)I" } : Jvm.MethodName)) ∈ zTs := zTs_b4 213 rfl rfl
theorem zw934 : (Jvm.Cond.code ({ cls := "RockingHorse", name := "shared", desc := "(II)I" } : Jvm.MethodName) prog_1_method_33_code (3 : Nat) (Option.some Jvm.ClassFile.FieldType.int)) ∈ zTs := zTs_b4 214 rfl rfl
theorem zw935 : (Jvm.Cond.methodLink "RockingHorseLaw" (157 : Nat) ({ cls := "RockingHorse", name := "thin", desc := "()I" } : Jvm.MethodName)) ∈ zTs := zTs_b4 215 rfl rfl
theorem zw936 : (Jvm.Cond.instanceMethod ({ cls := "RockingHorse", name := "thin", desc := "()I" } : Jvm.MethodName)) ∈ zTs := zTs_b4 216 rfl rfl
theorem zw937 : (Jvm.Cond.selects "RockingHorse" ({ cls := "RockingHorse", name := "thin", desc := "()I" } : Jvm.MethodName) ({ cls := "RockingHorse", name := "thin", desc := "()I" } : Jvm.MethodName)) ∈ zTs := zTs_b4 217 rfl rfl
theorem zw938 : (Jvm.Cond.code ({ cls := "RockingHorse", name := "thin", desc := "()I" } : Jvm.MethodName) prog_1_method_34_code (6 : Nat) (Option.some Jvm.ClassFile.FieldType.int)) ∈ zTs := zTs_b4 218 rfl rfl
theorem zw939 : (Jvm.Cond.methodLink "RockingHorseLaw" (161 : Nat) ({ cls := "RockingHorse", name := "changes", desc := "()I" } : Jvm.MethodName)) ∈ zTs := zTs_b4 219 rfl rfl
theorem zw940 : (Jvm.Cond.instanceMethod ({ cls := "RockingHorse", name := "changes", desc := "()I" } : Jvm.MethodName)) ∈ zTs := zTs_b4 220 rfl rfl
theorem zw941 : (Jvm.Cond.selects "RockingHorse" ({ cls := "RockingHorse", name := "changes", desc := "()I" } : Jvm.MethodName) ({ cls := "RockingHorse", name := "changes", desc := "()I" } : Jvm.MethodName)) ∈ zTs := zTs_b4 221 rfl rfl
theorem zw942 : (Jvm.Cond.code ({ cls := "RockingHorse", name := "changes", desc := "()I" } : Jvm.MethodName) prog_1_method_35_code (8 : Nat) (Option.some Jvm.ClassFile.FieldType.int)) ∈ zTs := zTs_b4 222 rfl rfl
theorem zw944 : (Jvm.Cond.methodLink "RockingHorseLaw" (165 : Nat) ({ cls := "RockingHorse", name := "smoothest", desc := "()I" } : Jvm.MethodName)) ∈ zTs := zTs_b4 224 rfl rfl
theorem zw945 : (Jvm.Cond.instanceMethod ({ cls := "RockingHorse", name := "smoothest", desc := "()I" } : Jvm.MethodName)) ∈ zTs := zTs_b4 225 rfl rfl
theorem zw946 : (Jvm.Cond.selects "RockingHorse" ({ cls := "RockingHorse", name := "smoothest", desc := "()I" } : Jvm.MethodName) ({ cls := "RockingHorse", name := "smoothest", desc := "()I" } : Jvm.MethodName)) ∈ zTs := zTs_b4 226 rfl rfl
theorem zw947 : (Jvm.Cond.code ({ cls := "RockingHorse", name := "smoothest", desc := "()I" } : Jvm.MethodName) prog_1_method_36_code (3 : Nat) (Option.some Jvm.ClassFile.FieldType.int)) ∈ zTs := zTs_b4 227 rfl rfl
theorem zw952 : (Jvm.Cond.methodLink "RockingHorseLaw" (169 : Nat) ({ cls := "RockingHorse", name := "meets", desc := "(III)I" } : Jvm.MethodName)) ∈ zTs := zTs_b4 232 rfl rfl
theorem zw953 : (Jvm.Cond.instanceMethod ({ cls := "RockingHorse", name := "meets", desc := "(III)I" } : Jvm.MethodName)) ∈ zTs := zTs_b4 233 rfl rfl
theorem zw954 : (Jvm.Cond.selects "RockingHorse" ({ cls := "RockingHorse", name := "meets", desc := "(III)I" } : Jvm.MethodName) ({ cls := "RockingHorse", name := "meets", desc := "(III)I" } : Jvm.MethodName)) ∈ zTs := zTs_b4 234 rfl rfl
theorem zw955 : (Jvm.Cond.code ({ cls := "RockingHorse", name := "meets", desc := "(III)I" } : Jvm.MethodName) prog_1_method_37_code (7 : Nat) (Option.some Jvm.ClassFile.FieldType.int)) ∈ zTs := zTs_b4 235 rfl rfl
theorem zw956 : (Jvm.Cond.methodLink "RockingHorseLaw" (174 : Nat) ({ cls := "RockingHorse", name := "found", desc := "(III)I" } : Jvm.MethodName)) ∈ zTs := zTs_b4 236 rfl rfl
theorem zw957 : (Jvm.Cond.instanceMethod ({ cls := "RockingHorse", name := "found", desc := "(III)I" } : Jvm.MethodName)) ∈ zTs := zTs_b4 237 rfl rfl
theorem zw958 : (Jvm.Cond.selects "RockingHorse" ({ cls := "RockingHorse", name := "found", desc := "(III)I" } : Jvm.MethodName) ({ cls := "RockingHorse", name := "found", desc := "(III)I" } : Jvm.MethodName)) ∈ zTs := zTs_b4 238 rfl rfl
theorem zw959 : (Jvm.Cond.code ({ cls := "RockingHorse", name := "found", desc := "(III)I" } : Jvm.MethodName) prog_1_method_38_code (4 : Nat) (Option.some Jvm.ClassFile.FieldType.int)) ∈ zTs := zTs_b4 239 rfl rfl
theorem zw960 : (Jvm.Cond.methodLink "RockingHorseLaw" (178 : Nat) ({ cls := "RockingHorse", name := "forget", desc := "()I" } : Jvm.MethodName)) ∈ zTs := zTs_b5 0 rfl rfl
theorem zw961 : (Jvm.Cond.instanceMethod ({ cls := "RockingHorse", name := "forget", desc := "()I" } : Jvm.MethodName)) ∈ zTs := zTs_b5 1 rfl rfl
theorem zw962 : (Jvm.Cond.selects "RockingHorse" ({ cls := "RockingHorse", name := "forget", desc := "()I" } : Jvm.MethodName) ({ cls := "RockingHorse", name := "forget", desc := "()I" } : Jvm.MethodName)) ∈ zTs := zTs_b5 2 rfl rfl
theorem zw963 : (Jvm.Cond.code ({ cls := "RockingHorse", name := "forget", desc := "()I" } : Jvm.MethodName) prog_1_method_39_code (2 : Nat) (Option.some Jvm.ClassFile.FieldType.int)) ∈ zTs := zTs_b5 3 rfl rfl
theorem zw964 : (Jvm.Cond.methodLink "RockingHorseLaw" (182 : Nat) ({ cls := "RockingHorse", name := "fits", desc := "()I" } : Jvm.MethodName)) ∈ zTs := zTs_b5 4 rfl rfl
theorem zw965 : (Jvm.Cond.instanceMethod ({ cls := "RockingHorse", name := "fits", desc := "()I" } : Jvm.MethodName)) ∈ zTs := zTs_b5 5 rfl rfl
theorem zw966 : (Jvm.Cond.selects "RockingHorse" ({ cls := "RockingHorse", name := "fits", desc := "()I" } : Jvm.MethodName) ({ cls := "RockingHorse", name := "fits", desc := "()I" } : Jvm.MethodName)) ∈ zTs := zTs_b5 6 rfl rfl
theorem zw967 : (Jvm.Cond.code ({ cls := "RockingHorse", name := "fits", desc := "()I" } : Jvm.MethodName) prog_1_method_40_code (1 : Nat) (Option.some Jvm.ClassFile.FieldType.int)) ∈ zTs := zTs_b5 7 rfl rfl
theorem zw981 : (Jvm.Cond.methodLink "RockingHorseLaw" (186 : Nat) ({ cls := "RockingHorse", name := "sure", desc := "(II)I" } : Jvm.MethodName)) ∈ zTs := zTs_b5 21 rfl rfl
theorem zw982 : (Jvm.Cond.instanceMethod ({ cls := "RockingHorse", name := "sure", desc := "(II)I" } : Jvm.MethodName)) ∈ zTs := zTs_b5 22 rfl rfl
theorem zw983 : (Jvm.Cond.selects "RockingHorse" ({ cls := "RockingHorse", name := "sure", desc := "(II)I" } : Jvm.MethodName) ({ cls := "RockingHorse", name := "sure", desc := "(II)I" } : Jvm.MethodName)) ∈ zTs := zTs_b5 23 rfl rfl
theorem zw984 : (Jvm.Cond.code ({ cls := "RockingHorse", name := "sure", desc := "(II)I" } : Jvm.MethodName) prog_1_method_41_code (5 : Nat) (Option.some Jvm.ClassFile.FieldType.int)) ∈ zTs := zTs_b5 24 rfl rfl
theorem zw992 : (Jvm.Cond.methodLink "RockingHorseLaw" (190 : Nat) ({ cls := "RockingHorse", name := "ask", desc := "()I" } : Jvm.MethodName)) ∈ zTs := zTs_b5 32 rfl rfl
theorem zw993 : (Jvm.Cond.instanceMethod ({ cls := "RockingHorse", name := "ask", desc := "()I" } : Jvm.MethodName)) ∈ zTs := zTs_b5 33 rfl rfl
theorem zw994 : (Jvm.Cond.selects "RockingHorse" ({ cls := "RockingHorse", name := "ask", desc := "()I" } : Jvm.MethodName) ({ cls := "RockingHorse", name := "ask", desc := "()I" } : Jvm.MethodName)) ∈ zTs := zTs_b5 34 rfl rfl
theorem zw995 : (Jvm.Cond.code ({ cls := "RockingHorse", name := "ask", desc := "()I" } : Jvm.MethodName) prog_1_method_42_code (5 : Nat) (Option.some Jvm.ClassFile.FieldType.int)) ∈ zTs := zTs_b5 35 rfl rfl
theorem zw1013 : (Jvm.Cond.methodLink "RockingHorseLaw" (194 : Nat) ({ cls := "RockingHorse", name := "held", desc := "(I)I" } : Jvm.MethodName)) ∈ zTs := zTs_b5 53 rfl rfl
theorem zw1014 : (Jvm.Cond.instanceMethod ({ cls := "RockingHorse", name := "held", desc := "(I)I" } : Jvm.MethodName)) ∈ zTs := zTs_b5 54 rfl rfl
theorem zw1015 : (Jvm.Cond.selects "RockingHorse" ({ cls := "RockingHorse", name := "held", desc := "(I)I" } : Jvm.MethodName) ({ cls := "RockingHorse", name := "held", desc := "(I)I" } : Jvm.MethodName)) ∈ zTs := zTs_b5 55 rfl rfl
theorem zw1016 : (Jvm.Cond.code ({ cls := "RockingHorse", name := "held", desc := "(I)I" } : Jvm.MethodName) prog_1_method_43_code (2 : Nat) (Option.some Jvm.ClassFile.FieldType.int)) ∈ zTs := zTs_b5 56 rfl rfl
theorem zw1037 : (Jvm.Cond.methodLink "RockingHorseLaw" (198 : Nat) ({ cls := "RockingHorse", name := "keystone", desc := "(I)I" } : Jvm.MethodName)) ∈ zTs := zTs_b5 77 rfl rfl
theorem zw1038 : (Jvm.Cond.instanceMethod ({ cls := "RockingHorse", name := "keystone", desc := "(I)I" } : Jvm.MethodName)) ∈ zTs := zTs_b5 78 rfl rfl
theorem zw1039 : (Jvm.Cond.selects "RockingHorse" ({ cls := "RockingHorse", name := "keystone", desc := "(I)I" } : Jvm.MethodName) ({ cls := "RockingHorse", name := "keystone", desc := "(I)I" } : Jvm.MethodName)) ∈ zTs := zTs_b5 79 rfl rfl
theorem zw1040 : (Jvm.Cond.code ({ cls := "RockingHorse", name := "keystone", desc := "(I)I" } : Jvm.MethodName) prog_1_method_44_code (9 : Nat) (Option.some Jvm.ClassFile.FieldType.int)) ∈ zTs := zTs_b5 80 rfl rfl
theorem zw1041 : (Jvm.Cond.methodLink "RockingHorseLaw" (202 : Nat) ({ cls := "RockingHorse", name := "rests", desc := "(II)I" } : Jvm.MethodName)) ∈ zTs := zTs_b5 81 rfl rfl
theorem zw1042 : (Jvm.Cond.instanceMethod ({ cls := "RockingHorse", name := "rests", desc := "(II)I" } : Jvm.MethodName)) ∈ zTs := zTs_b5 82 rfl rfl
theorem zw1043 : (Jvm.Cond.selects "RockingHorse" ({ cls := "RockingHorse", name := "rests", desc := "(II)I" } : Jvm.MethodName) ({ cls := "RockingHorse", name := "rests", desc := "(II)I" } : Jvm.MethodName)) ∈ zTs := zTs_b5 83 rfl rfl
theorem zw1044 : (Jvm.Cond.code ({ cls := "RockingHorse", name := "rests", desc := "(II)I" } : Jvm.MethodName) prog_1_method_45_code (7 : Nat) (Option.some Jvm.ClassFile.FieldType.int)) ∈ zTs := zTs_b5 84 rfl rfl
theorem zw1048 : (Jvm.Cond.methodLink "RockingHorseLaw" (206 : Nat) ({ cls := "RockingHorse", name := "law", desc := "()I" } : Jvm.MethodName)) ∈ zTs := zTs_b5 88 rfl rfl
theorem zw1049 : (Jvm.Cond.instanceMethod ({ cls := "RockingHorse", name := "law", desc := "()I" } : Jvm.MethodName)) ∈ zTs := zTs_b5 89 rfl rfl
theorem zw1050 : (Jvm.Cond.selects "RockingHorse" ({ cls := "RockingHorse", name := "law", desc := "()I" } : Jvm.MethodName) ({ cls := "RockingHorse", name := "law", desc := "()I" } : Jvm.MethodName)) ∈ zTs := zTs_b5 90 rfl rfl
theorem zw1051 : (Jvm.Cond.code ({ cls := "RockingHorse", name := "law", desc := "()I" } : Jvm.MethodName) prog_1_method_46_code (4 : Nat) (Option.some Jvm.ClassFile.FieldType.int)) ∈ zTs := zTs_b5 91 rfl rfl
theorem zw1056 : (Jvm.Cond.methodLink "RockingHorseLaw" (210 : Nat) ({ cls := "RockingHorse", name := "years", desc := "(II)I" } : Jvm.MethodName)) ∈ zTs := zTs_b5 96 rfl rfl
theorem zw1057 : (Jvm.Cond.instanceMethod ({ cls := "RockingHorse", name := "years", desc := "(II)I" } : Jvm.MethodName)) ∈ zTs := zTs_b5 97 rfl rfl
theorem zw1058 : (Jvm.Cond.selects "RockingHorse" ({ cls := "RockingHorse", name := "years", desc := "(II)I" } : Jvm.MethodName) ({ cls := "RockingHorse", name := "years", desc := "(II)I" } : Jvm.MethodName)) ∈ zTs := zTs_b5 98 rfl rfl
theorem zw1059 : (Jvm.Cond.code ({ cls := "RockingHorse", name := "years", desc := "(II)I" } : Jvm.MethodName) prog_1_method_47_code (4 : Nat) (Option.some Jvm.ClassFile.FieldType.int)) ∈ zTs := zTs_b5 99 rfl rfl
theorem zw1069 : (Jvm.Cond.methodLink "RockingHorseLaw" (214 : Nat) ({ cls := "RockingHorse", name := "keep", desc := "(I)Z" } : Jvm.MethodName)) ∈ zTs := zTs_b5 109 rfl rfl
theorem zw1070 : (Jvm.Cond.instanceMethod ({ cls := "RockingHorse", name := "keep", desc := "(I)Z" } : Jvm.MethodName)) ∈ zTs := zTs_b5 110 rfl rfl
theorem zw1071 : (Jvm.Cond.selects "RockingHorse" ({ cls := "RockingHorse", name := "keep", desc := "(I)Z" } : Jvm.MethodName) ({ cls := "RockingHorse", name := "keep", desc := "(I)Z" } : Jvm.MethodName)) ∈ zTs := zTs_b5 111 rfl rfl
theorem zw1072 : (Jvm.Cond.code ({ cls := "RockingHorse", name := "keep", desc := "(I)Z" } : Jvm.MethodName) prog_1_method_48_code (2 : Nat) (Option.some Jvm.ClassFile.FieldType.boolean)) ∈ zTs := zTs_b5 112 rfl rfl
theorem zw1073 : (Jvm.Cond.methodLink "RockingHorseLaw" (218 : Nat) ({ cls := "RockingHorse", name := "again", desc := "(I)Z" } : Jvm.MethodName)) ∈ zTs := zTs_b5 113 rfl rfl
theorem zw1074 : (Jvm.Cond.instanceMethod ({ cls := "RockingHorse", name := "again", desc := "(I)Z" } : Jvm.MethodName)) ∈ zTs := zTs_b5 114 rfl rfl
theorem zw1075 : (Jvm.Cond.selects "RockingHorse" ({ cls := "RockingHorse", name := "again", desc := "(I)Z" } : Jvm.MethodName) ({ cls := "RockingHorse", name := "again", desc := "(I)Z" } : Jvm.MethodName)) ∈ zTs := zTs_b5 115 rfl rfl
theorem zw1076 : (Jvm.Cond.code ({ cls := "RockingHorse", name := "again", desc := "(I)Z" } : Jvm.MethodName) prog_1_method_49_code (2 : Nat) (Option.some Jvm.ClassFile.FieldType.boolean)) ∈ zTs := zTs_b5 116 rfl rfl
theorem zw1077 : (Jvm.Cond.methodLink "RockingHorseLaw" (222 : Nat) ({ cls := "RockingHorse", name := "count", desc := "(I)I" } : Jvm.MethodName)) ∈ zTs := zTs_b5 117 rfl rfl
theorem zw1078 : (Jvm.Cond.instanceMethod ({ cls := "RockingHorse", name := "count", desc := "(I)I" } : Jvm.MethodName)) ∈ zTs := zTs_b5 118 rfl rfl
theorem zw1079 : (Jvm.Cond.selects "RockingHorse" ({ cls := "RockingHorse", name := "count", desc := "(I)I" } : Jvm.MethodName) ({ cls := "RockingHorse", name := "count", desc := "(I)I" } : Jvm.MethodName)) ∈ zTs := zTs_b5 119 rfl rfl
theorem zw1080 : (Jvm.Cond.code ({ cls := "RockingHorse", name := "count", desc := "(I)I" } : Jvm.MethodName) prog_1_method_50_code (2 : Nat) (Option.some Jvm.ClassFile.FieldType.int)) ∈ zTs := zTs_b5 120 rfl rfl
theorem zw1165 : (Jvm.Cond.classLink "RockingHorseLaw" (20 : Nat) "RockingHorseModel") ∈ zTs := zTs_b5 205 rfl rfl
theorem zw1166 : (Jvm.Cond.instantiable "RockingHorseModel" (51 : Nat)) ∈ zTs := zTs_b5 206 rfl rfl
theorem zw1167 : (Jvm.Cond.methodLink "RockingHorseLaw" (22 : Nat) ({ cls := "RockingHorseModel", name := "<init>", desc := "()V" } : Jvm.MethodName)) ∈ zTs := zTs_b5 207 rfl rfl
theorem zw1168 : (Jvm.Cond.instanceMethod ({ cls := "RockingHorseModel", name := "<init>", desc := "()V" } : Jvm.MethodName)) ∈ zTs := zTs_b5 208 rfl rfl
theorem zw1169 : (Jvm.Cond.code ({ cls := "RockingHorseModel", name := "<init>", desc := "()V" } : Jvm.MethodName) prog_10_method_1_code (2 : Nat) (Option.none : Option Jvm.ClassFile.FieldType)) ∈ zTs := zTs_b5 209 rfl rfl
theorem zw1326 : (Jvm.Cond.methodLink "RockingHorseLaw" (27 : Nat) ({ cls := "RockingHorseModel", name := "sign", desc := "(I)I" } : Jvm.MethodName)) ∈ zTs := zTs_b6 126 rfl rfl
theorem zw1327 : (Jvm.Cond.instanceMethod ({ cls := "RockingHorseModel", name := "sign", desc := "(I)I" } : Jvm.MethodName)) ∈ zTs := zTs_b6 127 rfl rfl
theorem zw1328 : (Jvm.Cond.selects "RockingHorseModel" ({ cls := "RockingHorseModel", name := "sign", desc := "(I)I" } : Jvm.MethodName) ({ cls := "RockingHorseModel", name := "sign", desc := "(I)I" } : Jvm.MethodName)) ∈ zTs := zTs_b6 128 rfl rfl
theorem zw1329 : (Jvm.Cond.code ({ cls := "RockingHorseModel", name := "sign", desc := "(I)I" } : Jvm.MethodName) prog_10_method_11_code (3 : Nat) (Option.some Jvm.ClassFile.FieldType.int)) ∈ zTs := zTs_b6 129 rfl rfl
theorem zw1330 : (Jvm.Cond.methodLink "RockingHorseLaw" (32 : Nat) ({ cls := "RockingHorseModel", name := "end", desc := "(I)Z" } : Jvm.MethodName)) ∈ zTs := zTs_b6 130 rfl rfl
theorem zw1331 : (Jvm.Cond.instanceMethod ({ cls := "RockingHorseModel", name := "end", desc := "(I)Z" } : Jvm.MethodName)) ∈ zTs := zTs_b6 131 rfl rfl
theorem zw1332 : (Jvm.Cond.selects "RockingHorseModel" ({ cls := "RockingHorseModel", name := "end", desc := "(I)Z" } : Jvm.MethodName) ({ cls := "RockingHorseModel", name := "end", desc := "(I)Z" } : Jvm.MethodName)) ∈ zTs := zTs_b6 132 rfl rfl
theorem zw1333 : (Jvm.Cond.code ({ cls := "RockingHorseModel", name := "end", desc := "(I)Z" } : Jvm.MethodName) prog_10_method_12_code (2 : Nat) (Option.some Jvm.ClassFile.FieldType.boolean)) ∈ zTs := zTs_b6 133 rfl rfl
theorem zw1337 : (Jvm.Cond.methodLink "RockingHorseLaw" (37 : Nat) ({ cls := "RockingHorseModel", name := "riders", desc := "()I" } : Jvm.MethodName)) ∈ zTs := zTs_b6 137 rfl rfl
theorem zw1338 : (Jvm.Cond.instanceMethod ({ cls := "RockingHorseModel", name := "riders", desc := "()I" } : Jvm.MethodName)) ∈ zTs := zTs_b6 138 rfl rfl
theorem zw1339 : (Jvm.Cond.selects "RockingHorseModel" ({ cls := "RockingHorseModel", name := "riders", desc := "()I" } : Jvm.MethodName) ({ cls := "RockingHorseModel", name := "riders", desc := "()I" } : Jvm.MethodName)) ∈ zTs := zTs_b6 139 rfl rfl
theorem zw1340 : (Jvm.Cond.code ({ cls := "RockingHorseModel", name := "riders", desc := "()I" } : Jvm.MethodName) prog_10_method_24_code (4 : Nat) (Option.some Jvm.ClassFile.FieldType.int)) ∈ zTs := zTs_b6 140 rfl rfl
theorem zw1377 : (Jvm.Cond.methodLink "RockingHorseLaw" (41 : Nat) ({ cls := "RockingHorseModel", name := "rule", desc := "()I" } : Jvm.MethodName)) ∈ zTs := zTs_b6 177 rfl rfl
theorem zw1378 : (Jvm.Cond.instanceMethod ({ cls := "RockingHorseModel", name := "rule", desc := "()I" } : Jvm.MethodName)) ∈ zTs := zTs_b6 178 rfl rfl
theorem zw1379 : (Jvm.Cond.selects "RockingHorseModel" ({ cls := "RockingHorseModel", name := "rule", desc := "()I" } : Jvm.MethodName) ({ cls := "RockingHorseModel", name := "rule", desc := "()I" } : Jvm.MethodName)) ∈ zTs := zTs_b6 179 rfl rfl
theorem zw1380 : (Jvm.Cond.code ({ cls := "RockingHorseModel", name := "rule", desc := "()I" } : Jvm.MethodName) prog_10_method_31_code (3 : Nat) (Option.some Jvm.ClassFile.FieldType.int)) ∈ zTs := zTs_b6 180 rfl rfl
theorem zw1412 : (Jvm.Cond.methodLink "RockingHorseLaw" (47 : Nat) ({ cls := "RockingHorseModel", name := "rider", desc := "(II)I" } : Jvm.MethodName)) ∈ zTs := zTs_b6 212 rfl rfl
theorem zw1413 : (Jvm.Cond.instanceMethod ({ cls := "RockingHorseModel", name := "rider", desc := "(II)I" } : Jvm.MethodName)) ∈ zTs := zTs_b6 213 rfl rfl
theorem zw1414 : (Jvm.Cond.selects "RockingHorseModel" ({ cls := "RockingHorseModel", name := "rider", desc := "(II)I" } : Jvm.MethodName) ({ cls := "RockingHorseModel", name := "rider", desc := "(II)I" } : Jvm.MethodName)) ∈ zTs := zTs_b6 214 rfl rfl
theorem zw1415 : (Jvm.Cond.code ({ cls := "RockingHorseModel", name := "rider", desc := "(II)I" } : Jvm.MethodName) prog_10_method_34_code (3 : Nat) (Option.some Jvm.ClassFile.FieldType.int)) ∈ zTs := zTs_b6 215 rfl rfl
theorem zw1428 : (Jvm.Cond.methodLink "RockingHorseLaw" (51 : Nat) ({ cls := "RockingHorseModel", name := "hard", desc := "(II)I" } : Jvm.MethodName)) ∈ zTs := zTs_b6 228 rfl rfl
theorem zw1429 : (Jvm.Cond.instanceMethod ({ cls := "RockingHorseModel", name := "hard", desc := "(II)I" } : Jvm.MethodName)) ∈ zTs := zTs_b6 229 rfl rfl
theorem zw1430 : (Jvm.Cond.selects "RockingHorseModel" ({ cls := "RockingHorseModel", name := "hard", desc := "(II)I" } : Jvm.MethodName) ({ cls := "RockingHorseModel", name := "hard", desc := "(II)I" } : Jvm.MethodName)) ∈ zTs := zTs_b6 230 rfl rfl
theorem zw1431 : (Jvm.Cond.code ({ cls := "RockingHorseModel", name := "hard", desc := "(II)I" } : Jvm.MethodName) prog_10_method_35_code (3 : Nat) (Option.some Jvm.ClassFile.FieldType.int)) ∈ zTs := zTs_b6 231 rfl rfl
theorem zw1442 : (Jvm.Cond.methodLink "RockingHorseLaw" (55 : Nat) ({ cls := "RockingHorseModel", name := "set", desc := "(II)I" } : Jvm.MethodName)) ∈ zTs := zTs_b7 2 rfl rfl
theorem zw1443 : (Jvm.Cond.instanceMethod ({ cls := "RockingHorseModel", name := "set", desc := "(II)I" } : Jvm.MethodName)) ∈ zTs := zTs_b7 3 rfl rfl
theorem zw1444 : (Jvm.Cond.selects "RockingHorseModel" ({ cls := "RockingHorseModel", name := "set", desc := "(II)I" } : Jvm.MethodName) ({ cls := "RockingHorseModel", name := "set", desc := "(II)I" } : Jvm.MethodName)) ∈ zTs := zTs_b7 4 rfl rfl
theorem zw1445 : (Jvm.Cond.code ({ cls := "RockingHorseModel", name := "set", desc := "(II)I" } : Jvm.MethodName) prog_10_method_36_code (4 : Nat) (Option.some Jvm.ClassFile.FieldType.int)) ∈ zTs := zTs_b7 5 rfl rfl
theorem zw1446 : (Jvm.Cond.methodLink "RockingHorseLaw" (60 : Nat) ({ cls := "RockingHorseModel", name := "sheet", desc := "(IIII)I" } : Jvm.MethodName)) ∈ zTs := zTs_b7 6 rfl rfl
theorem zw1447 : (Jvm.Cond.instanceMethod ({ cls := "RockingHorseModel", name := "sheet", desc := "(IIII)I" } : Jvm.MethodName)) ∈ zTs := zTs_b7 7 rfl rfl
theorem zw1448 : (Jvm.Cond.selects "RockingHorseModel" ({ cls := "RockingHorseModel", name := "sheet", desc := "(IIII)I" } : Jvm.MethodName) ({ cls := "RockingHorseModel", name := "sheet", desc := "(IIII)I" } : Jvm.MethodName)) ∈ zTs := zTs_b7 8 rfl rfl
theorem zw1449 : (Jvm.Cond.code ({ cls := "RockingHorseModel", name := "sheet", desc := "(IIII)I" } : Jvm.MethodName) prog_10_method_37_code (9 : Nat) (Option.some Jvm.ClassFile.FieldType.int)) ∈ zTs := zTs_b7 9 rfl rfl
theorem zw1450 : (Jvm.Cond.methodLink "RockingHorseLaw" (64 : Nat) ({ cls := "RockingHorseModel", name := "rota", desc := "()I" } : Jvm.MethodName)) ∈ zTs := zTs_b7 10 rfl rfl
theorem zw1451 : (Jvm.Cond.instanceMethod ({ cls := "RockingHorseModel", name := "rota", desc := "()I" } : Jvm.MethodName)) ∈ zTs := zTs_b7 11 rfl rfl
theorem zw1452 : (Jvm.Cond.selects "RockingHorseModel" ({ cls := "RockingHorseModel", name := "rota", desc := "()I" } : Jvm.MethodName) ({ cls := "RockingHorseModel", name := "rota", desc := "()I" } : Jvm.MethodName)) ∈ zTs := zTs_b7 12 rfl rfl
theorem zw1453 : (Jvm.Cond.code ({ cls := "RockingHorseModel", name := "rota", desc := "()I" } : Jvm.MethodName) prog_10_method_40_code (3 : Nat) (Option.some Jvm.ClassFile.FieldType.int)) ∈ zTs := zTs_b7 13 rfl rfl
theorem zw1461 : (Jvm.Cond.methodLink "RockingHorseLaw" (68 : Nat) ({ cls := "RockingHorseModel", name := "give", desc := "(II)I" } : Jvm.MethodName)) ∈ zTs := zTs_b7 21 rfl rfl
theorem zw1462 : (Jvm.Cond.instanceMethod ({ cls := "RockingHorseModel", name := "give", desc := "(II)I" } : Jvm.MethodName)) ∈ zTs := zTs_b7 22 rfl rfl
theorem zw1463 : (Jvm.Cond.selects "RockingHorseModel" ({ cls := "RockingHorseModel", name := "give", desc := "(II)I" } : Jvm.MethodName) ({ cls := "RockingHorseModel", name := "give", desc := "(II)I" } : Jvm.MethodName)) ∈ zTs := zTs_b7 23 rfl rfl
theorem zw1464 : (Jvm.Cond.code ({ cls := "RockingHorseModel", name := "give", desc := "(II)I" } : Jvm.MethodName) prog_10_method_42_code (4 : Nat) (Option.some Jvm.ClassFile.FieldType.int)) ∈ zTs := zTs_b7 24 rfl rfl
theorem zw1469 : (Jvm.Cond.methodLink "RockingHorseLaw" (72 : Nat) ({ cls := "RockingHorseModel", name := "ill", desc := "(I)I" } : Jvm.MethodName)) ∈ zTs := zTs_b7 29 rfl rfl
theorem zw1470 : (Jvm.Cond.instanceMethod ({ cls := "RockingHorseModel", name := "ill", desc := "(I)I" } : Jvm.MethodName)) ∈ zTs := zTs_b7 30 rfl rfl
theorem zw1471 : (Jvm.Cond.selects "RockingHorseModel" ({ cls := "RockingHorseModel", name := "ill", desc := "(I)I" } : Jvm.MethodName) ({ cls := "RockingHorseModel", name := "ill", desc := "(I)I" } : Jvm.MethodName)) ∈ zTs := zTs_b7 31 rfl rfl
theorem zw1472 : (Jvm.Cond.code ({ cls := "RockingHorseModel", name := "ill", desc := "(I)I" } : Jvm.MethodName) prog_10_method_44_code (2 : Nat) (Option.some Jvm.ClassFile.FieldType.int)) ∈ zTs := zTs_b7 32 rfl rfl
theorem zw1477 : (Jvm.Cond.methodLink "RockingHorseLaw" (76 : Nat) ({ cls := "RockingHorseModel", name := "nights", desc := "(I)I" } : Jvm.MethodName)) ∈ zTs := zTs_b7 37 rfl rfl
theorem zw1478 : (Jvm.Cond.instanceMethod ({ cls := "RockingHorseModel", name := "nights", desc := "(I)I" } : Jvm.MethodName)) ∈ zTs := zTs_b7 38 rfl rfl
theorem zw1479 : (Jvm.Cond.selects "RockingHorseModel" ({ cls := "RockingHorseModel", name := "nights", desc := "(I)I" } : Jvm.MethodName) ({ cls := "RockingHorseModel", name := "nights", desc := "(I)I" } : Jvm.MethodName)) ∈ zTs := zTs_b7 39 rfl rfl
theorem zw1480 : (Jvm.Cond.code ({ cls := "RockingHorseModel", name := "nights", desc := "(I)I" } : Jvm.MethodName) prog_10_method_48_code (4 : Nat) (Option.some Jvm.ClassFile.FieldType.int)) ∈ zTs := zTs_b7 40 rfl rfl
theorem zw1501 : (Jvm.Cond.methodLink "RockingHorseLaw" (80 : Nat) ({ cls := "RockingHorseModel", name := "year", desc := "()I" } : Jvm.MethodName)) ∈ zTs := zTs_b7 61 rfl rfl
theorem zw1502 : (Jvm.Cond.instanceMethod ({ cls := "RockingHorseModel", name := "year", desc := "()I" } : Jvm.MethodName)) ∈ zTs := zTs_b7 62 rfl rfl
theorem zw1503 : (Jvm.Cond.selects "RockingHorseModel" ({ cls := "RockingHorseModel", name := "year", desc := "()I" } : Jvm.MethodName) ({ cls := "RockingHorseModel", name := "year", desc := "()I" } : Jvm.MethodName)) ∈ zTs := zTs_b7 63 rfl rfl
theorem zw1504 : (Jvm.Cond.code ({ cls := "RockingHorseModel", name := "year", desc := "()I" } : Jvm.MethodName) prog_10_method_50_code (3 : Nat) (Option.some Jvm.ClassFile.FieldType.int)) ∈ zTs := zTs_b7 64 rfl rfl
theorem zw1521 : (Jvm.Cond.methodLink "RockingHorseLaw" (84 : Nat) ({ cls := "RockingHorseModel", name := "undo", desc := "()I" } : Jvm.MethodName)) ∈ zTs := zTs_b7 81 rfl rfl
theorem zw1522 : (Jvm.Cond.instanceMethod ({ cls := "RockingHorseModel", name := "undo", desc := "()I" } : Jvm.MethodName)) ∈ zTs := zTs_b7 82 rfl rfl
theorem zw1523 : (Jvm.Cond.selects "RockingHorseModel" ({ cls := "RockingHorseModel", name := "undo", desc := "()I" } : Jvm.MethodName) ({ cls := "RockingHorseModel", name := "undo", desc := "()I" } : Jvm.MethodName)) ∈ zTs := zTs_b7 83 rfl rfl
theorem zw1524 : (Jvm.Cond.code ({ cls := "RockingHorseModel", name := "undo", desc := "()I" } : Jvm.MethodName) prog_10_method_53_code (2 : Nat) (Option.some Jvm.ClassFile.FieldType.int)) ∈ zTs := zTs_b7 84 rfl rfl
theorem zw1525 : (Jvm.Cond.methodLink "RockingHorseLaw" (88 : Nat) ({ cls := "RockingHorseModel", name := "gaps", desc := "()I" } : Jvm.MethodName)) ∈ zTs := zTs_b7 85 rfl rfl
theorem zw1526 : (Jvm.Cond.instanceMethod ({ cls := "RockingHorseModel", name := "gaps", desc := "()I" } : Jvm.MethodName)) ∈ zTs := zTs_b7 86 rfl rfl
theorem zw1527 : (Jvm.Cond.selects "RockingHorseModel" ({ cls := "RockingHorseModel", name := "gaps", desc := "()I" } : Jvm.MethodName) ({ cls := "RockingHorseModel", name := "gaps", desc := "()I" } : Jvm.MethodName)) ∈ zTs := zTs_b7 87 rfl rfl
theorem zw1528 : (Jvm.Cond.code ({ cls := "RockingHorseModel", name := "gaps", desc := "()I" } : Jvm.MethodName) prog_10_method_54_code (1 : Nat) (Option.some Jvm.ClassFile.FieldType.int)) ∈ zTs := zTs_b7 88 rfl rfl
theorem zw1529 : (Jvm.Cond.methodLink "RockingHorseLaw" (92 : Nat) ({ cls := "RockingHorseModel", name := "first", desc := "(I)I" } : Jvm.MethodName)) ∈ zTs := zTs_b7 89 rfl rfl
theorem zw1530 : (Jvm.Cond.instanceMethod ({ cls := "RockingHorseModel", name := "first", desc := "(I)I" } : Jvm.MethodName)) ∈ zTs := zTs_b7 90 rfl rfl
theorem zw1531 : (Jvm.Cond.selects "RockingHorseModel" ({ cls := "RockingHorseModel", name := "first", desc := "(I)I" } : Jvm.MethodName) ({ cls := "RockingHorseModel", name := "first", desc := "(I)I" } : Jvm.MethodName)) ∈ zTs := zTs_b7 91 rfl rfl
theorem zw1532 : (Jvm.Cond.code ({ cls := "RockingHorseModel", name := "first", desc := "(I)I" } : Jvm.MethodName) prog_10_method_55_code (3 : Nat) (Option.some Jvm.ClassFile.FieldType.int)) ∈ zTs := zTs_b7 92 rfl rfl
theorem zw1537 : (Jvm.Cond.methodLink "RockingHorseLaw" (96 : Nat) ({ cls := "RockingHorseModel", name := "later", desc := "(I)I" } : Jvm.MethodName)) ∈ zTs := zTs_b7 97 rfl rfl
theorem zw1538 : (Jvm.Cond.instanceMethod ({ cls := "RockingHorseModel", name := "later", desc := "(I)I" } : Jvm.MethodName)) ∈ zTs := zTs_b7 98 rfl rfl
theorem zw1539 : (Jvm.Cond.selects "RockingHorseModel" ({ cls := "RockingHorseModel", name := "later", desc := "(I)I" } : Jvm.MethodName) ({ cls := "RockingHorseModel", name := "later", desc := "(I)I" } : Jvm.MethodName)) ∈ zTs := zTs_b7 99 rfl rfl
theorem zw1540 : (Jvm.Cond.code ({ cls := "RockingHorseModel", name := "later", desc := "(I)I" } : Jvm.MethodName) prog_10_method_56_code (4 : Nat) (Option.some Jvm.ClassFile.FieldType.int)) ∈ zTs := zTs_b7 100 rfl rfl
theorem zw1541 : (Jvm.Cond.methodLink "RockingHorseLaw" (100 : Nat) ({ cls := "RockingHorseModel", name := "vigil", desc := "(I)I" } : Jvm.MethodName)) ∈ zTs := zTs_b7 101 rfl rfl
theorem zw1542 : (Jvm.Cond.instanceMethod ({ cls := "RockingHorseModel", name := "vigil", desc := "(I)I" } : Jvm.MethodName)) ∈ zTs := zTs_b7 102 rfl rfl
theorem zw1543 : (Jvm.Cond.selects "RockingHorseModel" ({ cls := "RockingHorseModel", name := "vigil", desc := "(I)I" } : Jvm.MethodName) ({ cls := "RockingHorseModel", name := "vigil", desc := "(I)I" } : Jvm.MethodName)) ∈ zTs := zTs_b7 103 rfl rfl
theorem zw1544 : (Jvm.Cond.code ({ cls := "RockingHorseModel", name := "vigil", desc := "(I)I" } : Jvm.MethodName) prog_10_method_57_code (6 : Nat) (Option.some Jvm.ClassFile.FieldType.int)) ∈ zTs := zTs_b7 104 rfl rfl
theorem zw1545 : (Jvm.Cond.methodLink "RockingHorseLaw" (104 : Nat) ({ cls := "RockingHorseModel", name := "trade", desc := "()I" } : Jvm.MethodName)) ∈ zTs := zTs_b7 105 rfl rfl
theorem zw1546 : (Jvm.Cond.instanceMethod ({ cls := "RockingHorseModel", name := "trade", desc := "()I" } : Jvm.MethodName)) ∈ zTs := zTs_b7 106 rfl rfl
theorem zw1547 : (Jvm.Cond.selects "RockingHorseModel" ({ cls := "RockingHorseModel", name := "trade", desc := "()I" } : Jvm.MethodName) ({ cls := "RockingHorseModel", name := "trade", desc := "()I" } : Jvm.MethodName)) ∈ zTs := zTs_b7 107 rfl rfl
theorem zw1548 : (Jvm.Cond.code ({ cls := "RockingHorseModel", name := "trade", desc := "()I" } : Jvm.MethodName) prog_10_method_58_code (6 : Nat) (Option.some Jvm.ClassFile.FieldType.int)) ∈ zTs := zTs_b7 108 rfl rfl
theorem zw1549 : (Jvm.Cond.methodLink "RockingHorseLaw" (108 : Nat) ({ cls := "RockingHorseModel", name := "easiest", desc := "()I" } : Jvm.MethodName)) ∈ zTs := zTs_b7 109 rfl rfl
theorem zw1550 : (Jvm.Cond.instanceMethod ({ cls := "RockingHorseModel", name := "easiest", desc := "()I" } : Jvm.MethodName)) ∈ zTs := zTs_b7 110 rfl rfl
theorem zw1551 : (Jvm.Cond.selects "RockingHorseModel" ({ cls := "RockingHorseModel", name := "easiest", desc := "()I" } : Jvm.MethodName) ({ cls := "RockingHorseModel", name := "easiest", desc := "()I" } : Jvm.MethodName)) ∈ zTs := zTs_b7 111 rfl rfl
theorem zw1552 : (Jvm.Cond.code ({ cls := "RockingHorseModel", name := "easiest", desc := "()I" } : Jvm.MethodName) prog_10_method_72_code (2 : Nat) (Option.some Jvm.ClassFile.FieldType.int)) ∈ zTs := zTs_b7 112 rfl rfl
theorem zw1605 : (Jvm.Cond.methodLink "RockingHorseLaw" (112 : Nat) ({ cls := "RockingHorseModel", name := "fewest", desc := "()I" } : Jvm.MethodName)) ∈ zTs := zTs_b7 165 rfl rfl
theorem zw1606 : (Jvm.Cond.instanceMethod ({ cls := "RockingHorseModel", name := "fewest", desc := "()I" } : Jvm.MethodName)) ∈ zTs := zTs_b7 166 rfl rfl
theorem zw1607 : (Jvm.Cond.selects "RockingHorseModel" ({ cls := "RockingHorseModel", name := "fewest", desc := "()I" } : Jvm.MethodName) ({ cls := "RockingHorseModel", name := "fewest", desc := "()I" } : Jvm.MethodName)) ∈ zTs := zTs_b7 167 rfl rfl
theorem zw1608 : (Jvm.Cond.code ({ cls := "RockingHorseModel", name := "fewest", desc := "()I" } : Jvm.MethodName) prog_10_method_74_code (3 : Nat) (Option.some Jvm.ClassFile.FieldType.int)) ∈ zTs := zTs_b7 168 rfl rfl
theorem zw1613 : (Jvm.Cond.methodLink "RockingHorseLaw" (116 : Nat) ({ cls := "RockingHorseModel", name := "bare", desc := "()I" } : Jvm.MethodName)) ∈ zTs := zTs_b7 173 rfl rfl
theorem zw1614 : (Jvm.Cond.instanceMethod ({ cls := "RockingHorseModel", name := "bare", desc := "()I" } : Jvm.MethodName)) ∈ zTs := zTs_b7 174 rfl rfl
theorem zw1615 : (Jvm.Cond.selects "RockingHorseModel" ({ cls := "RockingHorseModel", name := "bare", desc := "()I" } : Jvm.MethodName) ({ cls := "RockingHorseModel", name := "bare", desc := "()I" } : Jvm.MethodName)) ∈ zTs := zTs_b7 175 rfl rfl
theorem zw1616 : (Jvm.Cond.code ({ cls := "RockingHorseModel", name := "bare", desc := "()I" } : Jvm.MethodName) prog_10_method_75_code (3 : Nat) (Option.some Jvm.ClassFile.FieldType.int)) ∈ zTs := zTs_b7 176 rfl rfl
theorem zw1617 : (Jvm.Cond.methodLink "RockingHorseLaw" (120 : Nat) ({ cls := "RockingHorseModel", name := "rotas", desc := "()I" } : Jvm.MethodName)) ∈ zTs := zTs_b7 177 rfl rfl
theorem zw1618 : (Jvm.Cond.instanceMethod ({ cls := "RockingHorseModel", name := "rotas", desc := "()I" } : Jvm.MethodName)) ∈ zTs := zTs_b7 178 rfl rfl
theorem zw1619 : (Jvm.Cond.selects "RockingHorseModel" ({ cls := "RockingHorseModel", name := "rotas", desc := "()I" } : Jvm.MethodName) ({ cls := "RockingHorseModel", name := "rotas", desc := "()I" } : Jvm.MethodName)) ∈ zTs := zTs_b7 179 rfl rfl
theorem zw1620 : (Jvm.Cond.code ({ cls := "RockingHorseModel", name := "rotas", desc := "()I" } : Jvm.MethodName) prog_10_method_77_code (1 : Nat) (Option.some Jvm.ClassFile.FieldType.int)) ∈ zTs := zTs_b7 180 rfl rfl
theorem zw1629 : (Jvm.Cond.methodLink "RockingHorseLaw" (124 : Nat) ({ cls := "RockingHorseModel", name := "mended", desc := "(I)I" } : Jvm.MethodName)) ∈ zTs := zTs_b7 189 rfl rfl
theorem zw1630 : (Jvm.Cond.instanceMethod ({ cls := "RockingHorseModel", name := "mended", desc := "(I)I" } : Jvm.MethodName)) ∈ zTs := zTs_b7 190 rfl rfl
theorem zw1631 : (Jvm.Cond.selects "RockingHorseModel" ({ cls := "RockingHorseModel", name := "mended", desc := "(I)I" } : Jvm.MethodName) ({ cls := "RockingHorseModel", name := "mended", desc := "(I)I" } : Jvm.MethodName)) ∈ zTs := zTs_b7 191 rfl rfl
theorem zw1632 : (Jvm.Cond.code ({ cls := "RockingHorseModel", name := "mended", desc := "(I)I" } : Jvm.MethodName) prog_10_method_78_code (3 : Nat) (Option.some Jvm.ClassFile.FieldType.int)) ∈ zTs := zTs_b7 192 rfl rfl
theorem zw1633 : (Jvm.Cond.methodLink "RockingHorseLaw" (128 : Nat) ({ cls := "RockingHorseModel", name := "takes", desc := "()I" } : Jvm.MethodName)) ∈ zTs := zTs_b7 193 rfl rfl
theorem zw1634 : (Jvm.Cond.instanceMethod ({ cls := "RockingHorseModel", name := "takes", desc := "()I" } : Jvm.MethodName)) ∈ zTs := zTs_b7 194 rfl rfl
theorem zw1635 : (Jvm.Cond.selects "RockingHorseModel" ({ cls := "RockingHorseModel", name := "takes", desc := "()I" } : Jvm.MethodName) ({ cls := "RockingHorseModel", name := "takes", desc := "()I" } : Jvm.MethodName)) ∈ zTs := zTs_b7 195 rfl rfl
theorem zw1636 : (Jvm.Cond.code ({ cls := "RockingHorseModel", name := "takes", desc := "()I" } : Jvm.MethodName) prog_10_method_79_code (4 : Nat) (Option.some Jvm.ClassFile.FieldType.int)) ∈ zTs := zTs_b7 196 rfl rfl
theorem zw1637 : (Jvm.Cond.methodLink "RockingHorseLaw" (132 : Nat) ({ cls := "RockingHorseModel", name := "missed", desc := "(I)I" } : Jvm.MethodName)) ∈ zTs := zTs_b7 197 rfl rfl
theorem zw1638 : (Jvm.Cond.instanceMethod ({ cls := "RockingHorseModel", name := "missed", desc := "(I)I" } : Jvm.MethodName)) ∈ zTs := zTs_b7 198 rfl rfl
theorem zw1639 : (Jvm.Cond.selects "RockingHorseModel" ({ cls := "RockingHorseModel", name := "missed", desc := "(I)I" } : Jvm.MethodName) ({ cls := "RockingHorseModel", name := "missed", desc := "(I)I" } : Jvm.MethodName)) ∈ zTs := zTs_b7 199 rfl rfl
theorem zw1640 : (Jvm.Cond.code ({ cls := "RockingHorseModel", name := "missed", desc := "(I)I" } : Jvm.MethodName) prog_10_method_80_code (4 : Nat) (Option.some Jvm.ClassFile.FieldType.int)) ∈ zTs := zTs_b7 200 rfl rfl
theorem zw1641 : (Jvm.Cond.methodLink "RockingHorseLaw" (136 : Nat) ({ cls := "RockingHorseModel", name := "paid", desc := "(I)I" } : Jvm.MethodName)) ∈ zTs := zTs_b7 201 rfl rfl
theorem zw1642 : (Jvm.Cond.instanceMethod ({ cls := "RockingHorseModel", name := "paid", desc := "(I)I" } : Jvm.MethodName)) ∈ zTs := zTs_b7 202 rfl rfl
theorem zw1643 : (Jvm.Cond.selects "RockingHorseModel" ({ cls := "RockingHorseModel", name := "paid", desc := "(I)I" } : Jvm.MethodName) ({ cls := "RockingHorseModel", name := "paid", desc := "(I)I" } : Jvm.MethodName)) ∈ zTs := zTs_b7 203 rfl rfl
theorem zw1644 : (Jvm.Cond.code ({ cls := "RockingHorseModel", name := "paid", desc := "(I)I" } : Jvm.MethodName) prog_10_method_81_code (6 : Nat) (Option.some Jvm.ClassFile.FieldType.int)) ∈ zTs := zTs_b7 204 rfl rfl
theorem zw1645 : (Jvm.Cond.methodLink "RockingHorseLaw" (140 : Nat) ({ cls := "RockingHorseModel", name := "fairest", desc := "()I" } : Jvm.MethodName)) ∈ zTs := zTs_b7 205 rfl rfl
theorem zw1646 : (Jvm.Cond.instanceMethod ({ cls := "RockingHorseModel", name := "fairest", desc := "()I" } : Jvm.MethodName)) ∈ zTs := zTs_b7 206 rfl rfl
theorem zw1647 : (Jvm.Cond.selects "RockingHorseModel" ({ cls := "RockingHorseModel", name := "fairest", desc := "()I" } : Jvm.MethodName) ({ cls := "RockingHorseModel", name := "fairest", desc := "()I" } : Jvm.MethodName)) ∈ zTs := zTs_b7 207 rfl rfl
theorem zw1648 : (Jvm.Cond.code ({ cls := "RockingHorseModel", name := "fairest", desc := "()I" } : Jvm.MethodName) prog_10_method_82_code (4 : Nat) (Option.some Jvm.ClassFile.FieldType.int)) ∈ zTs := zTs_b7 208 rfl rfl
theorem zw1649 : (Jvm.Cond.methodLink "RockingHorseLaw" (144 : Nat) ({ cls := "RockingHorseModel", name := "away", desc := "()I" } : Jvm.MethodName)) ∈ zTs := zTs_b7 209 rfl rfl
theorem zw1650 : (Jvm.Cond.instanceMethod ({ cls := "RockingHorseModel", name := "away", desc := "()I" } : Jvm.MethodName)) ∈ zTs := zTs_b7 210 rfl rfl
theorem zw1651 : (Jvm.Cond.selects "RockingHorseModel" ({ cls := "RockingHorseModel", name := "away", desc := "()I" } : Jvm.MethodName) ({ cls := "RockingHorseModel", name := "away", desc := "()I" } : Jvm.MethodName)) ∈ zTs := zTs_b7 211 rfl rfl
theorem zw1652 : (Jvm.Cond.code ({ cls := "RockingHorseModel", name := "away", desc := "()I" } : Jvm.MethodName) prog_10_method_83_code (4 : Nat) (Option.some Jvm.ClassFile.FieldType.int)) ∈ zTs := zTs_b7 212 rfl rfl
theorem zw1653 : (Jvm.Cond.methodLink "RockingHorseLaw" (148 : Nat) ({ cls := "RockingHorseModel", name := "able", desc := "(I)I" } : Jvm.MethodName)) ∈ zTs := zTs_b7 213 rfl rfl
theorem zw1654 : (Jvm.Cond.instanceMethod ({ cls := "RockingHorseModel", name := "able", desc := "(I)I" } : Jvm.MethodName)) ∈ zTs := zTs_b7 214 rfl rfl
theorem zw1655 : (Jvm.Cond.selects "RockingHorseModel" ({ cls := "RockingHorseModel", name := "able", desc := "(I)I" } : Jvm.MethodName) ({ cls := "RockingHorseModel", name := "able", desc := "(I)I" } : Jvm.MethodName)) ∈ zTs := zTs_b7 215 rfl rfl
theorem zw1656 : (Jvm.Cond.code ({ cls := "RockingHorseModel", name := "able", desc := "(I)I" } : Jvm.MethodName) prog_10_method_84_code (6 : Nat) (Option.some Jvm.ClassFile.FieldType.int)) ∈ zTs := zTs_b7 216 rfl rfl
theorem zw1657 : (Jvm.Cond.methodLink "RockingHorseLaw" (152 : Nat) ({ cls := "RockingHorseModel", name := "spent", desc := "(I)I" } : Jvm.MethodName)) ∈ zTs := zTs_b7 217 rfl rfl
theorem zw1658 : (Jvm.Cond.instanceMethod ({ cls := "RockingHorseModel", name := "spent", desc := "(I)I" } : Jvm.MethodName)) ∈ zTs := zTs_b7 218 rfl rfl
theorem zw1659 : (Jvm.Cond.selects "RockingHorseModel" ({ cls := "RockingHorseModel", name := "spent", desc := "(I)I" } : Jvm.MethodName) ({ cls := "RockingHorseModel", name := "spent", desc := "(I)I" } : Jvm.MethodName)) ∈ zTs := zTs_b7 219 rfl rfl
theorem zw1660 : (Jvm.Cond.code ({ cls := "RockingHorseModel", name := "spent", desc := "(I)I" } : Jvm.MethodName) prog_10_method_85_code (6 : Nat) (Option.some Jvm.ClassFile.FieldType.int)) ∈ zTs := zTs_b7 220 rfl rfl
theorem zw1661 : (Jvm.Cond.methodLink "RockingHorseLaw" (156 : Nat) ({ cls := "RockingHorseModel", name := "shared", desc := "(II)I" } : Jvm.MethodName)) ∈ zTs := zTs_b7 221 rfl rfl
theorem zw1662 : (Jvm.Cond.instanceMethod ({ cls := "RockingHorseModel", name := "shared", desc := "(II)I" } : Jvm.MethodName)) ∈ zTs := zTs_b7 222 rfl rfl
theorem zw1663 : (Jvm.Cond.selects "RockingHorseModel" ({ cls := "RockingHorseModel", name := "shared", desc := "(II)I" } : Jvm.MethodName) ({ cls := "RockingHorseModel", name := "shared", desc := "(II)I" } : Jvm.MethodName)) ∈ zTs := zTs_b7 223 rfl rfl
theorem zw1664 : (Jvm.Cond.code ({ cls := "RockingHorseModel", name := "shared", desc := "(II)I" } : Jvm.MethodName) prog_10_method_86_code (3 : Nat) (Option.some Jvm.ClassFile.FieldType.int)) ∈ zTs := zTs_b7 224 rfl rfl
theorem zw1665 : (Jvm.Cond.methodLink "RockingHorseLaw" (160 : Nat) ({ cls := "RockingHorseModel", name := "thin", desc := "()I" } : Jvm.MethodName)) ∈ zTs := zTs_b7 225 rfl rfl
theorem zw1666 : (Jvm.Cond.instanceMethod ({ cls := "RockingHorseModel", name := "thin", desc := "()I" } : Jvm.MethodName)) ∈ zTs := zTs_b7 226 rfl rfl
theorem zw1667 : (Jvm.Cond.selects "RockingHorseModel" ({ cls := "RockingHorseModel", name := "thin", desc := "()I" } : Jvm.MethodName) ({ cls := "RockingHorseModel", name := "thin", desc := "()I" } : Jvm.MethodName)) ∈ zTs := zTs_b7 227 rfl rfl
theorem zw1668 : (Jvm.Cond.code ({ cls := "RockingHorseModel", name := "thin", desc := "()I" } : Jvm.MethodName) prog_10_method_88_code (3 : Nat) (Option.some Jvm.ClassFile.FieldType.int)) ∈ zTs := zTs_b7 228 rfl rfl
theorem zw1673 : (Jvm.Cond.methodLink "RockingHorseLaw" (164 : Nat) ({ cls := "RockingHorseModel", name := "changes", desc := "()I" } : Jvm.MethodName)) ∈ zTs := zTs_b7 233 rfl rfl
theorem zw1674 : (Jvm.Cond.instanceMethod ({ cls := "RockingHorseModel", name := "changes", desc := "()I" } : Jvm.MethodName)) ∈ zTs := zTs_b7 234 rfl rfl
theorem zw1675 : (Jvm.Cond.selects "RockingHorseModel" ({ cls := "RockingHorseModel", name := "changes", desc := "()I" } : Jvm.MethodName) ({ cls := "RockingHorseModel", name := "changes", desc := "()I" } : Jvm.MethodName)) ∈ zTs := zTs_b7 235 rfl rfl
theorem zw1676 : (Jvm.Cond.code ({ cls := "RockingHorseModel", name := "changes", desc := "()I" } : Jvm.MethodName) prog_10_method_89_code (8 : Nat) (Option.some Jvm.ClassFile.FieldType.int)) ∈ zTs := zTs_b7 236 rfl rfl
theorem zw1677 : (Jvm.Cond.methodLink "RockingHorseLaw" (168 : Nat) ({ cls := "RockingHorseModel", name := "smoothest", desc := "()I" } : Jvm.MethodName)) ∈ zTs := zTs_b7 237 rfl rfl
theorem zw1678 : (Jvm.Cond.instanceMethod ({ cls := "RockingHorseModel", name := "smoothest", desc := "()I" } : Jvm.MethodName)) ∈ zTs := zTs_b7 238 rfl rfl
theorem zw1679 : (Jvm.Cond.selects "RockingHorseModel" ({ cls := "RockingHorseModel", name := "smoothest", desc := "()I" } : Jvm.MethodName) ({ cls := "RockingHorseModel", name := "smoothest", desc := "()I" } : Jvm.MethodName)) ∈ zTs := zTs_b7 239 rfl rfl
theorem zw1680 : (Jvm.Cond.code ({ cls := "RockingHorseModel", name := "smoothest", desc := "()I" } : Jvm.MethodName) prog_10_method_91_code (2 : Nat) (Option.some Jvm.ClassFile.FieldType.int)) ∈ zTs := zTs_b8 0 rfl rfl
theorem zw1685 : (Jvm.Cond.methodLink "RockingHorseLaw" (173 : Nat) ({ cls := "RockingHorseModel", name := "meets", desc := "(III)I" } : Jvm.MethodName)) ∈ zTs := zTs_b8 5 rfl rfl
theorem zw1686 : (Jvm.Cond.instanceMethod ({ cls := "RockingHorseModel", name := "meets", desc := "(III)I" } : Jvm.MethodName)) ∈ zTs := zTs_b8 6 rfl rfl
theorem zw1687 : (Jvm.Cond.selects "RockingHorseModel" ({ cls := "RockingHorseModel", name := "meets", desc := "(III)I" } : Jvm.MethodName) ({ cls := "RockingHorseModel", name := "meets", desc := "(III)I" } : Jvm.MethodName)) ∈ zTs := zTs_b8 7 rfl rfl
theorem zw1688 : (Jvm.Cond.code ({ cls := "RockingHorseModel", name := "meets", desc := "(III)I" } : Jvm.MethodName) prog_10_method_92_code (7 : Nat) (Option.some Jvm.ClassFile.FieldType.int)) ∈ zTs := zTs_b8 8 rfl rfl
theorem zw1689 : (Jvm.Cond.methodLink "RockingHorseLaw" (177 : Nat) ({ cls := "RockingHorseModel", name := "found", desc := "(III)I" } : Jvm.MethodName)) ∈ zTs := zTs_b8 9 rfl rfl
theorem zw1690 : (Jvm.Cond.instanceMethod ({ cls := "RockingHorseModel", name := "found", desc := "(III)I" } : Jvm.MethodName)) ∈ zTs := zTs_b8 10 rfl rfl
theorem zw1691 : (Jvm.Cond.selects "RockingHorseModel" ({ cls := "RockingHorseModel", name := "found", desc := "(III)I" } : Jvm.MethodName) ({ cls := "RockingHorseModel", name := "found", desc := "(III)I" } : Jvm.MethodName)) ∈ zTs := zTs_b8 11 rfl rfl
theorem zw1692 : (Jvm.Cond.code ({ cls := "RockingHorseModel", name := "found", desc := "(III)I" } : Jvm.MethodName) prog_10_method_93_code (4 : Nat) (Option.some Jvm.ClassFile.FieldType.int)) ∈ zTs := zTs_b8 12 rfl rfl
theorem zw1693 : (Jvm.Cond.methodLink "RockingHorseLaw" (181 : Nat) ({ cls := "RockingHorseModel", name := "forget", desc := "()I" } : Jvm.MethodName)) ∈ zTs := zTs_b8 13 rfl rfl
theorem zw1694 : (Jvm.Cond.instanceMethod ({ cls := "RockingHorseModel", name := "forget", desc := "()I" } : Jvm.MethodName)) ∈ zTs := zTs_b8 14 rfl rfl
theorem zw1695 : (Jvm.Cond.selects "RockingHorseModel" ({ cls := "RockingHorseModel", name := "forget", desc := "()I" } : Jvm.MethodName) ({ cls := "RockingHorseModel", name := "forget", desc := "()I" } : Jvm.MethodName)) ∈ zTs := zTs_b8 15 rfl rfl
theorem zw1696 : (Jvm.Cond.code ({ cls := "RockingHorseModel", name := "forget", desc := "()I" } : Jvm.MethodName) prog_10_method_94_code (2 : Nat) (Option.some Jvm.ClassFile.FieldType.int)) ∈ zTs := zTs_b8 16 rfl rfl
theorem zw1697 : (Jvm.Cond.methodLink "RockingHorseLaw" (185 : Nat) ({ cls := "RockingHorseModel", name := "fits", desc := "()I" } : Jvm.MethodName)) ∈ zTs := zTs_b8 17 rfl rfl
theorem zw1698 : (Jvm.Cond.instanceMethod ({ cls := "RockingHorseModel", name := "fits", desc := "()I" } : Jvm.MethodName)) ∈ zTs := zTs_b8 18 rfl rfl
theorem zw1699 : (Jvm.Cond.selects "RockingHorseModel" ({ cls := "RockingHorseModel", name := "fits", desc := "()I" } : Jvm.MethodName) ({ cls := "RockingHorseModel", name := "fits", desc := "()I" } : Jvm.MethodName)) ∈ zTs := zTs_b8 19 rfl rfl
theorem zw1700 : (Jvm.Cond.code ({ cls := "RockingHorseModel", name := "fits", desc := "()I" } : Jvm.MethodName) prog_10_method_97_code (2 : Nat) (Option.some Jvm.ClassFile.FieldType.int)) ∈ zTs := zTs_b8 20 rfl rfl
theorem zw1709 : (Jvm.Cond.methodLink "RockingHorseLaw" (189 : Nat) ({ cls := "RockingHorseModel", name := "sure", desc := "(II)I" } : Jvm.MethodName)) ∈ zTs := zTs_b8 29 rfl rfl
theorem zw1710 : (Jvm.Cond.instanceMethod ({ cls := "RockingHorseModel", name := "sure", desc := "(II)I" } : Jvm.MethodName)) ∈ zTs := zTs_b8 30 rfl rfl
theorem zw1711 : (Jvm.Cond.selects "RockingHorseModel" ({ cls := "RockingHorseModel", name := "sure", desc := "(II)I" } : Jvm.MethodName) ({ cls := "RockingHorseModel", name := "sure", desc := "(II)I" } : Jvm.MethodName)) ∈ zTs := zTs_b8 31 rfl rfl
theorem zw1712 : (Jvm.Cond.code ({ cls := "RockingHorseModel", name := "sure", desc := "(II)I" } : Jvm.MethodName) prog_10_method_100_code (5 : Nat) (Option.some Jvm.ClassFile.FieldType.int)) ∈ zTs := zTs_b8 32 rfl rfl
theorem zw1720 : (Jvm.Cond.methodLink "RockingHorseLaw" (193 : Nat) ({ cls := "RockingHorseModel", name := "ask", desc := "()I" } : Jvm.MethodName)) ∈ zTs := zTs_b8 40 rfl rfl
theorem zw1721 : (Jvm.Cond.instanceMethod ({ cls := "RockingHorseModel", name := "ask", desc := "()I" } : Jvm.MethodName)) ∈ zTs := zTs_b8 41 rfl rfl
theorem zw1722 : (Jvm.Cond.selects "RockingHorseModel" ({ cls := "RockingHorseModel", name := "ask", desc := "()I" } : Jvm.MethodName) ({ cls := "RockingHorseModel", name := "ask", desc := "()I" } : Jvm.MethodName)) ∈ zTs := zTs_b8 42 rfl rfl
theorem zw1723 : (Jvm.Cond.code ({ cls := "RockingHorseModel", name := "ask", desc := "()I" } : Jvm.MethodName) prog_10_method_101_code (6 : Nat) (Option.some Jvm.ClassFile.FieldType.int)) ∈ zTs := zTs_b8 43 rfl rfl
theorem zw1724 : (Jvm.Cond.methodLink "RockingHorseLaw" (197 : Nat) ({ cls := "RockingHorseModel", name := "held", desc := "(I)I" } : Jvm.MethodName)) ∈ zTs := zTs_b8 44 rfl rfl
theorem zw1725 : (Jvm.Cond.instanceMethod ({ cls := "RockingHorseModel", name := "held", desc := "(I)I" } : Jvm.MethodName)) ∈ zTs := zTs_b8 45 rfl rfl
theorem zw1726 : (Jvm.Cond.selects "RockingHorseModel" ({ cls := "RockingHorseModel", name := "held", desc := "(I)I" } : Jvm.MethodName) ({ cls := "RockingHorseModel", name := "held", desc := "(I)I" } : Jvm.MethodName)) ∈ zTs := zTs_b8 46 rfl rfl
theorem zw1727 : (Jvm.Cond.code ({ cls := "RockingHorseModel", name := "held", desc := "(I)I" } : Jvm.MethodName) prog_10_method_105_code (2 : Nat) (Option.some Jvm.ClassFile.FieldType.int)) ∈ zTs := zTs_b8 47 rfl rfl
theorem zw1740 : (Jvm.Cond.methodLink "RockingHorseLaw" (201 : Nat) ({ cls := "RockingHorseModel", name := "keystone", desc := "(I)I" } : Jvm.MethodName)) ∈ zTs := zTs_b8 60 rfl rfl
theorem zw1741 : (Jvm.Cond.instanceMethod ({ cls := "RockingHorseModel", name := "keystone", desc := "(I)I" } : Jvm.MethodName)) ∈ zTs := zTs_b8 61 rfl rfl
theorem zw1742 : (Jvm.Cond.selects "RockingHorseModel" ({ cls := "RockingHorseModel", name := "keystone", desc := "(I)I" } : Jvm.MethodName) ({ cls := "RockingHorseModel", name := "keystone", desc := "(I)I" } : Jvm.MethodName)) ∈ zTs := zTs_b8 62 rfl rfl
theorem zw1743 : (Jvm.Cond.code ({ cls := "RockingHorseModel", name := "keystone", desc := "(I)I" } : Jvm.MethodName) prog_10_method_106_code (9 : Nat) (Option.some Jvm.ClassFile.FieldType.int)) ∈ zTs := zTs_b8 63 rfl rfl
theorem zw1744 : (Jvm.Cond.methodLink "RockingHorseLaw" (205 : Nat) ({ cls := "RockingHorseModel", name := "rests", desc := "(II)I" } : Jvm.MethodName)) ∈ zTs := zTs_b8 64 rfl rfl
theorem zw1745 : (Jvm.Cond.instanceMethod ({ cls := "RockingHorseModel", name := "rests", desc := "(II)I" } : Jvm.MethodName)) ∈ zTs := zTs_b8 65 rfl rfl
theorem zw1746 : (Jvm.Cond.selects "RockingHorseModel" ({ cls := "RockingHorseModel", name := "rests", desc := "(II)I" } : Jvm.MethodName) ({ cls := "RockingHorseModel", name := "rests", desc := "(II)I" } : Jvm.MethodName)) ∈ zTs := zTs_b8 66 rfl rfl
theorem zw1747 : (Jvm.Cond.code ({ cls := "RockingHorseModel", name := "rests", desc := "(II)I" } : Jvm.MethodName) prog_10_method_110_code (7 : Nat) (Option.some Jvm.ClassFile.FieldType.int)) ∈ zTs := zTs_b8 67 rfl rfl
theorem zw1757 : (Jvm.Cond.methodLink "RockingHorseLaw" (209 : Nat) ({ cls := "RockingHorseModel", name := "law", desc := "()I" } : Jvm.MethodName)) ∈ zTs := zTs_b8 77 rfl rfl
theorem zw1758 : (Jvm.Cond.instanceMethod ({ cls := "RockingHorseModel", name := "law", desc := "()I" } : Jvm.MethodName)) ∈ zTs := zTs_b8 78 rfl rfl
theorem zw1759 : (Jvm.Cond.selects "RockingHorseModel" ({ cls := "RockingHorseModel", name := "law", desc := "()I" } : Jvm.MethodName) ({ cls := "RockingHorseModel", name := "law", desc := "()I" } : Jvm.MethodName)) ∈ zTs := zTs_b8 79 rfl rfl
theorem zw1760 : (Jvm.Cond.code ({ cls := "RockingHorseModel", name := "law", desc := "()I" } : Jvm.MethodName) prog_10_method_112_code (6 : Nat) (Option.some Jvm.ClassFile.FieldType.int)) ∈ zTs := zTs_b8 80 rfl rfl
theorem zw1765 : (Jvm.Cond.methodLink "RockingHorseLaw" (213 : Nat) ({ cls := "RockingHorseModel", name := "years", desc := "(II)I" } : Jvm.MethodName)) ∈ zTs := zTs_b8 85 rfl rfl
theorem zw1766 : (Jvm.Cond.instanceMethod ({ cls := "RockingHorseModel", name := "years", desc := "(II)I" } : Jvm.MethodName)) ∈ zTs := zTs_b8 86 rfl rfl
theorem zw1767 : (Jvm.Cond.selects "RockingHorseModel" ({ cls := "RockingHorseModel", name := "years", desc := "(II)I" } : Jvm.MethodName) ({ cls := "RockingHorseModel", name := "years", desc := "(II)I" } : Jvm.MethodName)) ∈ zTs := zTs_b8 87 rfl rfl
theorem zw1768 : (Jvm.Cond.code ({ cls := "RockingHorseModel", name := "years", desc := "(II)I" } : Jvm.MethodName) prog_10_method_114_code (6 : Nat) (Option.some Jvm.ClassFile.FieldType.int)) ∈ zTs := zTs_b8 88 rfl rfl
theorem zw1774 : (Jvm.Cond.methodLink "RockingHorseLaw" (217 : Nat) ({ cls := "RockingHorseModel", name := "keep", desc := "(I)Z" } : Jvm.MethodName)) ∈ zTs := zTs_b8 94 rfl rfl
theorem zw1775 : (Jvm.Cond.instanceMethod ({ cls := "RockingHorseModel", name := "keep", desc := "(I)Z" } : Jvm.MethodName)) ∈ zTs := zTs_b8 95 rfl rfl
theorem zw1776 : (Jvm.Cond.selects "RockingHorseModel" ({ cls := "RockingHorseModel", name := "keep", desc := "(I)Z" } : Jvm.MethodName) ({ cls := "RockingHorseModel", name := "keep", desc := "(I)Z" } : Jvm.MethodName)) ∈ zTs := zTs_b8 96 rfl rfl
theorem zw1777 : (Jvm.Cond.code ({ cls := "RockingHorseModel", name := "keep", desc := "(I)Z" } : Jvm.MethodName) prog_10_method_115_code (2 : Nat) (Option.some Jvm.ClassFile.FieldType.boolean)) ∈ zTs := zTs_b8 97 rfl rfl
theorem zw1778 : (Jvm.Cond.methodLink "RockingHorseLaw" (221 : Nat) ({ cls := "RockingHorseModel", name := "again", desc := "(I)Z" } : Jvm.MethodName)) ∈ zTs := zTs_b8 98 rfl rfl
theorem zw1779 : (Jvm.Cond.instanceMethod ({ cls := "RockingHorseModel", name := "again", desc := "(I)Z" } : Jvm.MethodName)) ∈ zTs := zTs_b8 99 rfl rfl
theorem zw1780 : (Jvm.Cond.selects "RockingHorseModel" ({ cls := "RockingHorseModel", name := "again", desc := "(I)Z" } : Jvm.MethodName) ({ cls := "RockingHorseModel", name := "again", desc := "(I)Z" } : Jvm.MethodName)) ∈ zTs := zTs_b8 100 rfl rfl
theorem zw1781 : (Jvm.Cond.code ({ cls := "RockingHorseModel", name := "again", desc := "(I)Z" } : Jvm.MethodName) prog_10_method_116_code (3 : Nat) (Option.some Jvm.ClassFile.FieldType.boolean)) ∈ zTs := zTs_b8 101 rfl rfl
theorem zw1782 : (Jvm.Cond.methodLink "RockingHorseLaw" (225 : Nat) ({ cls := "RockingHorseModel", name := "count", desc := "(I)I" } : Jvm.MethodName)) ∈ zTs := zTs_b8 102 rfl rfl
theorem zw1783 : (Jvm.Cond.instanceMethod ({ cls := "RockingHorseModel", name := "count", desc := "(I)I" } : Jvm.MethodName)) ∈ zTs := zTs_b8 103 rfl rfl
theorem zw1784 : (Jvm.Cond.selects "RockingHorseModel" ({ cls := "RockingHorseModel", name := "count", desc := "(I)I" } : Jvm.MethodName) ({ cls := "RockingHorseModel", name := "count", desc := "(I)I" } : Jvm.MethodName)) ∈ zTs := zTs_b8 104 rfl rfl
theorem zw1785 : (Jvm.Cond.code ({ cls := "RockingHorseModel", name := "count", desc := "(I)I" } : Jvm.MethodName) prog_10_method_117_code (2 : Nat) (Option.some Jvm.ClassFile.FieldType.int)) ∈ zTs := zTs_b8 105 rfl rfl
theorem zw1786 : (Jvm.Cond.methodLink "RockingHorseLaw" (229 : Nat) ({ cls := "RockingHorseModel", name := "row", desc := "(I)J" } : Jvm.MethodName)) ∈ zTs := zTs_b8 106 rfl rfl
theorem zw1787 : (Jvm.Cond.instanceMethod ({ cls := "RockingHorseModel", name := "row", desc := "(I)J" } : Jvm.MethodName)) ∈ zTs := zTs_b8 107 rfl rfl
theorem zw1788 : (Jvm.Cond.selects "RockingHorseModel" ({ cls := "RockingHorseModel", name := "row", desc := "(I)J" } : Jvm.MethodName) ({ cls := "RockingHorseModel", name := "row", desc := "(I)J" } : Jvm.MethodName)) ∈ zTs := zTs_b8 108 rfl rfl
theorem zw1789 : (Jvm.Cond.code ({ cls := "RockingHorseModel", name := "row", desc := "(I)J" } : Jvm.MethodName) prog_10_method_118_code (2 : Nat) (Option.some Jvm.ClassFile.FieldType.long)) ∈ zTs := zTs_b8 109 rfl rfl


def zJL0 : List (List (Option (Instr × Nat))) := [[some (.new 8, 3), none, none, some (.dup, 1), some (.invokespecial 19, 3), none, none, some (.astore_n 1, 1), some (.new 20, 3), none, none, some (.dup, 1), some (.invokespecial 22, 3), none, none, some (.astore_n 2, 1)],
  [some (.iconst 1, 1), some (.newarray .long, 2), none, some (.astore_n 3, 1), some (.iconst 0, 1), some (.istore 4, 2), none, some (.iload 4, 2), none, some (.aload_n 0, 1), some (.arraylength, 1), some (.iconst 5, 1), some (.isub, 1), some (.if_icmp .gt 1413, 3), none, none],
  [some (.aload_n 0, 1), some (.iload 4, 2), none, some (.iaload, 1), some (.bipush 63, 2), none, some (.iand, 1), some (.tableswitch 1397 0 49 #[213, 238, 263, 276, 289, 329, 366, 403, 464, 477, 514, 539, 564, 577, 590, 603, 628, 653, 678, 691, 704, 717, 730, 743, 768, 781, 806, 831, 844, 857, 882, 907, 944, 957, 970, 983, 1032, 1081, 1094, 1107, 1144, 1157, 1182, 1207, 1244, 1257, 1294, 1319, 1344, 1369], 213), none, none, none, none, none, none, none, none],
  [none, none, none, none, none, none, none, none, none, none, none, none, none, none, none, none],
  [none, none, none, none, none, none, none, none, none, none, none, none, none, none, none, none],
  [none, none, none, none, none, none, none, none, none, none, none, none, none, none, none, none],
  [none, none, none, none, none, none, none, none, none, none, none, none, none, none, none, none],
  [none, none, none, none, none, none, none, none, none, none, none, none, none, none, none, none],
  [none, none, none, none, none, none, none, none, none, none, none, none, none, none, none, none],
  [none, none, none, none, none, none, none, none, none, none, none, none, none, none, none, none],
  [none, none, none, none, none, none, none, none, none, none, none, none, none, none, none, none],
  [none, none, none, none, none, none, none, none, none, none, none, none, none, none, none, none],
  [none, none, none, none, none, none, none, none, none, none, none, none, none, none, none, none],
  [none, none, none, none, none, none, none, none, none, none, none, none, none, none, none, none],
  [none, none, none, none, none, none, none, none, none, none, none, none, none, none, none, none],
  [none, none, none, none, none, none, none, none, none, none, none, none, some (.aload_n 1, 1), some (.aload_n 0, 1), some (.iload 4, 2), none]]
set_option maxRecDepth 100000 in
theorem zDL0 : zdrows cL_law 0 zJL0 = true := by decide +kernel
def zJL1 : List (List (Option (Instr × Nat))) := [[some (.iconst 1, 1), some (.iadd, 1), some (.iaload, 1), some (.invokevirtual 23, 3), none, none, some (.pop, 1), some (.aload_n 2, 1), some (.aload_n 0, 1), some (.iload 4, 2), none, some (.iconst 1, 1), some (.iadd, 1), some (.iaload, 1), some (.invokevirtual 27, 3), none],
  [none, some (.pop, 1), some (.goto 1162, 3), none, none, some (.aload_n 1, 1), some (.aload_n 0, 1), some (.iload 4, 2), none, some (.iconst 1, 1), some (.iadd, 1), some (.iaload, 1), some (.invokevirtual 28, 3), none, none, some (.pop, 1)],
  [some (.aload_n 2, 1), some (.aload_n 0, 1), some (.iload 4, 2), none, some (.iconst 1, 1), some (.iadd, 1), some (.iaload, 1), some (.invokevirtual 32, 3), none, none, some (.pop, 1), some (.goto 1137, 3), none, none, some (.aload_n 1, 1), some (.invokevirtual 33, 3)],
  [none, none, some (.pop, 1), some (.aload_n 2, 1), some (.invokevirtual 37, 3), none, none, some (.pop, 1), some (.goto 1124, 3), none, none, some (.aload_n 1, 1), some (.invokevirtual 38, 3), none, none, some (.pop, 1)],
  [some (.aload_n 2, 1), some (.invokevirtual 41, 3), none, none, some (.pop, 1), some (.goto 1111, 3), none, none, some (.aload_n 1, 1), some (.aload_n 0, 1), some (.iload 4, 2), none, some (.iconst 1, 1), some (.iadd, 1), some (.iaload, 1), some (.aload_n 0, 1)],
  [some (.iload 4, 2), none, some (.iconst 2, 1), some (.iadd, 1), some (.iaload, 1), some (.aload_n 3, 1), some (.invokestatic 42, 3), none, none, some (.istore 5, 2), none, some (.aload_n 2, 1), some (.aload_n 0, 1), some (.iload 4, 2), none, some (.iconst 1, 1)],
  [some (.iadd, 1), some (.iaload, 1), some (.aload_n 0, 1), some (.iload 4, 2), none, some (.iconst 2, 1), some (.iadd, 1), some (.iaload, 1), some (.invokevirtual 47, 3), none, none, some (.istore 6, 2), none, some (.goto 1071, 3), none, none],
  [some (.aload_n 1, 1), some (.aload_n 0, 1), some (.iload 4, 2), none, some (.iconst 1, 1), some (.iadd, 1), some (.iaload, 1), some (.aload_n 0, 1), some (.iload 4, 2), none, some (.iconst 2, 1), some (.iadd, 1), some (.iaload, 1), some (.invokevirtual 48, 3), none, none],
  [some (.pop, 1), some (.aload_n 2, 1), some (.aload_n 0, 1), some (.iload 4, 2), none, some (.iconst 1, 1), some (.iadd, 1), some (.iaload, 1), some (.aload_n 0, 1), some (.iload 4, 2), none, some (.iconst 2, 1), some (.iadd, 1), some (.iaload, 1), some (.invokevirtual 51, 3), none],
  [none, some (.pop, 1), some (.goto 1034, 3), none, none, some (.aload_n 1, 1), some (.aload_n 0, 1), some (.iload 4, 2), none, some (.iconst 1, 1), some (.iadd, 1), some (.iaload, 1), some (.aload_n 0, 1), some (.iload 4, 2), none, some (.iconst 2, 1)],
  [some (.iadd, 1), some (.iaload, 1), some (.invokevirtual 52, 3), none, none, some (.pop, 1), some (.aload_n 2, 1), some (.aload_n 0, 1), some (.iload 4, 2), none, some (.iconst 1, 1), some (.iadd, 1), some (.iaload, 1), some (.aload_n 0, 1), some (.iload 4, 2), none],
  [some (.iconst 2, 1), some (.iadd, 1), some (.iaload, 1), some (.invokevirtual 55, 3), none, none, some (.pop, 1), some (.goto 997, 3), none, none, some (.aload_n 1, 1), some (.aload_n 0, 1), some (.iload 4, 2), none, some (.iconst 1, 1), some (.iadd, 1)],
  [some (.iaload, 1), some (.aload_n 0, 1), some (.iload 4, 2), none, some (.iconst 2, 1), some (.iadd, 1), some (.iaload, 1), some (.aload_n 0, 1), some (.iload 4, 2), none, some (.iconst 3, 1), some (.iadd, 1), some (.iaload, 1), some (.aload_n 0, 1), some (.iload 4, 2), none],
  [some (.iconst 4, 1), some (.iadd, 1), some (.iaload, 1), some (.invokevirtual 56, 3), none, none, some (.pop, 1), some (.aload_n 2, 1), some (.aload_n 0, 1), some (.iload 4, 2), none, some (.iconst 1, 1), some (.iadd, 1), some (.iaload, 1), some (.aload_n 0, 1), some (.iload 4, 2)],
  [none, some (.iconst 2, 1), some (.iadd, 1), some (.iaload, 1), some (.aload_n 0, 1), some (.iload 4, 2), none, some (.iconst 3, 1), some (.iadd, 1), some (.iaload, 1), some (.aload_n 0, 1), some (.iload 4, 2), none, some (.iconst 4, 1), some (.iadd, 1), some (.iaload, 1)],
  [some (.invokevirtual 60, 3), none, none, some (.pop, 1), some (.goto 936, 3), none, none, some (.aload_n 1, 1), some (.invokevirtual 61, 3), none, none, some (.pop, 1), some (.aload_n 2, 1), some (.invokevirtual 64, 3), none, none]]
set_option maxRecDepth 100000 in
theorem zDL1 : zdrows cL_law 256 zJL1 = true := by decide +kernel
def zJL2 : List (List (Option (Instr × Nat))) := [[some (.pop, 1), some (.goto 923, 3), none, none, some (.aload_n 1, 1), some (.aload_n 0, 1), some (.iload 4, 2), none, some (.iconst 1, 1), some (.iadd, 1), some (.iaload, 1), some (.aload_n 0, 1), some (.iload 4, 2), none, some (.iconst 2, 1), some (.iadd, 1)],
  [some (.iaload, 1), some (.invokevirtual 65, 3), none, none, some (.pop, 1), some (.aload_n 2, 1), some (.aload_n 0, 1), some (.iload 4, 2), none, some (.iconst 1, 1), some (.iadd, 1), some (.iaload, 1), some (.aload_n 0, 1), some (.iload 4, 2), none, some (.iconst 2, 1)],
  [some (.iadd, 1), some (.iaload, 1), some (.invokevirtual 68, 3), none, none, some (.pop, 1), some (.goto 886, 3), none, none, some (.aload_n 1, 1), some (.aload_n 0, 1), some (.iload 4, 2), none, some (.iconst 1, 1), some (.iadd, 1), some (.iaload, 1)],
  [some (.invokevirtual 69, 3), none, none, some (.pop, 1), some (.aload_n 2, 1), some (.aload_n 0, 1), some (.iload 4, 2), none, some (.iconst 1, 1), some (.iadd, 1), some (.iaload, 1), some (.invokevirtual 72, 3), none, none, some (.pop, 1), some (.goto 861, 3)],
  [none, none, some (.aload_n 1, 1), some (.aload_n 0, 1), some (.iload 4, 2), none, some (.iconst 1, 1), some (.iadd, 1), some (.iaload, 1), some (.invokevirtual 73, 3), none, none, some (.pop, 1), some (.aload_n 2, 1), some (.aload_n 0, 1), some (.iload 4, 2)],
  [none, some (.iconst 1, 1), some (.iadd, 1), some (.iaload, 1), some (.invokevirtual 76, 3), none, none, some (.pop, 1), some (.goto 836, 3), none, none, some (.aload_n 1, 1), some (.invokevirtual 77, 3), none, none, some (.pop, 1)],
  [some (.aload_n 2, 1), some (.invokevirtual 80, 3), none, none, some (.pop, 1), some (.goto 823, 3), none, none, some (.aload_n 1, 1), some (.invokevirtual 81, 3), none, none, some (.pop, 1), some (.aload_n 2, 1), some (.invokevirtual 84, 3), none],
  [none, some (.pop, 1), some (.goto 810, 3), none, none, some (.aload_n 1, 1), some (.invokevirtual 85, 3), none, none, some (.aload_n 2, 1), some (.invokevirtual 88, 3), none, none, some (.if_icmp .eq 799, 3), none, none],
  [some (.iconst 0, 1), some (.ireturn, 1), some (.aload_n 1, 1), some (.aload_n 0, 1), some (.iload 4, 2), none, some (.iconst 1, 1), some (.iadd, 1), some (.iaload, 1), some (.invokevirtual 89, 3), none, none, some (.pop, 1), some (.aload_n 2, 1), some (.aload_n 0, 1), some (.iload 4, 2)],
  [none, some (.iconst 1, 1), some (.iadd, 1), some (.iaload, 1), some (.invokevirtual 92, 3), none, none, some (.pop, 1), some (.goto 772, 3), none, none, some (.aload_n 1, 1), some (.aload_n 0, 1), some (.iload 4, 2), none, some (.iconst 1, 1)],
  [some (.iadd, 1), some (.iaload, 1), some (.invokevirtual 93, 3), none, none, some (.pop, 1), some (.aload_n 2, 1), some (.aload_n 0, 1), some (.iload 4, 2), none, some (.iconst 1, 1), some (.iadd, 1), some (.iaload, 1), some (.invokevirtual 96, 3), none, none],
  [some (.pop, 1), some (.goto 747, 3), none, none, some (.aload_n 1, 1), some (.aload_n 0, 1), some (.iload 4, 2), none, some (.iconst 1, 1), some (.iadd, 1), some (.iaload, 1), some (.invokevirtual 97, 3), none, none, some (.pop, 1), some (.aload_n 2, 1)],
  [some (.aload_n 0, 1), some (.iload 4, 2), none, some (.iconst 1, 1), some (.iadd, 1), some (.iaload, 1), some (.invokevirtual 100, 3), none, none, some (.pop, 1), some (.goto 722, 3), none, none, some (.aload_n 1, 1), some (.invokevirtual 101, 3), none],
  [none, some (.pop, 1), some (.aload_n 2, 1), some (.invokevirtual 104, 3), none, none, some (.pop, 1), some (.goto 709, 3), none, none, some (.aload_n 1, 1), some (.invokevirtual 105, 3), none, none, some (.pop, 1), some (.aload_n 2, 1)],
  [some (.invokevirtual 108, 3), none, none, some (.pop, 1), some (.goto 696, 3), none, none, some (.aload_n 1, 1), some (.invokevirtual 109, 3), none, none, some (.pop, 1), some (.aload_n 2, 1), some (.invokevirtual 112, 3), none, none],
  [some (.pop, 1), some (.goto 683, 3), none, none, some (.aload_n 1, 1), some (.invokevirtual 113, 3), none, none, some (.pop, 1), some (.aload_n 2, 1), some (.invokevirtual 116, 3), none, none, some (.pop, 1), some (.goto 670, 3), none]]
set_option maxRecDepth 100000 in
theorem zDL2 : zdrows cL_law 512 zJL2 = true := by decide +kernel
def zJL3 : List (List (Option (Instr × Nat))) := [[none, some (.aload_n 1, 1), some (.invokevirtual 117, 3), none, none, some (.pop, 1), some (.aload_n 2, 1), some (.invokevirtual 120, 3), none, none, some (.pop, 1), some (.goto 657, 3), none, none, some (.aload_n 1, 1), some (.aload_n 0, 1)],
  [some (.iload 4, 2), none, some (.iconst 1, 1), some (.iadd, 1), some (.iaload, 1), some (.invokevirtual 121, 3), none, none, some (.pop, 1), some (.aload_n 2, 1), some (.aload_n 0, 1), some (.iload 4, 2), none, some (.iconst 1, 1), some (.iadd, 1), some (.iaload, 1)],
  [some (.invokevirtual 124, 3), none, none, some (.pop, 1), some (.goto 632, 3), none, none, some (.aload_n 1, 1), some (.invokevirtual 125, 3), none, none, some (.pop, 1), some (.aload_n 2, 1), some (.invokevirtual 128, 3), none, none],
  [some (.pop, 1), some (.goto 619, 3), none, none, some (.aload_n 1, 1), some (.aload_n 0, 1), some (.iload 4, 2), none, some (.iconst 1, 1), some (.iadd, 1), some (.iaload, 1), some (.invokevirtual 129, 3), none, none, some (.pop, 1), some (.aload_n 2, 1)],
  [some (.aload_n 0, 1), some (.iload 4, 2), none, some (.iconst 1, 1), some (.iadd, 1), some (.iaload, 1), some (.invokevirtual 132, 3), none, none, some (.pop, 1), some (.goto 594, 3), none, none, some (.aload_n 1, 1), some (.aload_n 0, 1), some (.iload 4, 2)],
  [none, some (.iconst 1, 1), some (.iadd, 1), some (.iaload, 1), some (.invokevirtual 133, 3), none, none, some (.pop, 1), some (.aload_n 2, 1), some (.aload_n 0, 1), some (.iload 4, 2), none, some (.iconst 1, 1), some (.iadd, 1), some (.iaload, 1), some (.invokevirtual 136, 3)],
  [none, none, some (.pop, 1), some (.goto 569, 3), none, none, some (.aload_n 1, 1), some (.invokevirtual 137, 3), none, none, some (.pop, 1), some (.aload_n 2, 1), some (.invokevirtual 140, 3), none, none, some (.pop, 1)],
  [some (.goto 556, 3), none, none, some (.aload_n 1, 1), some (.invokevirtual 141, 3), none, none, some (.pop, 1), some (.aload_n 2, 1), some (.invokevirtual 144, 3), none, none, some (.pop, 1), some (.goto 543, 3), none, none],
  [some (.aload_n 1, 1), some (.aload_n 0, 1), some (.iload 4, 2), none, some (.iconst 1, 1), some (.iadd, 1), some (.iaload, 1), some (.invokevirtual 145, 3), none, none, some (.pop, 1), some (.aload_n 2, 1), some (.aload_n 0, 1), some (.iload 4, 2), none, some (.iconst 1, 1)],
  [some (.iadd, 1), some (.iaload, 1), some (.invokevirtual 148, 3), none, none, some (.pop, 1), some (.goto 518, 3), none, none, some (.aload_n 1, 1), some (.aload_n 0, 1), some (.iload 4, 2), none, some (.iconst 1, 1), some (.iadd, 1), some (.iaload, 1)],
  [some (.invokevirtual 149, 3), none, none, some (.pop, 1), some (.aload_n 2, 1), some (.aload_n 0, 1), some (.iload 4, 2), none, some (.iconst 1, 1), some (.iadd, 1), some (.iaload, 1), some (.invokevirtual 152, 3), none, none, some (.pop, 1), some (.goto 493, 3)],
  [none, none, some (.aload_n 1, 1), some (.aload_n 0, 1), some (.iload 4, 2), none, some (.iconst 1, 1), some (.iadd, 1), some (.iaload, 1), some (.aload_n 0, 1), some (.iload 4, 2), none, some (.iconst 2, 1), some (.iadd, 1), some (.iaload, 1), some (.invokevirtual 153, 3)],
  [none, none, some (.pop, 1), some (.aload_n 2, 1), some (.aload_n 0, 1), some (.iload 4, 2), none, some (.iconst 1, 1), some (.iadd, 1), some (.iaload, 1), some (.aload_n 0, 1), some (.iload 4, 2), none, some (.iconst 2, 1), some (.iadd, 1), some (.iaload, 1)],
  [some (.invokevirtual 156, 3), none, none, some (.pop, 1), some (.goto 456, 3), none, none, some (.aload_n 1, 1), some (.invokevirtual 157, 3), none, none, some (.pop, 1), some (.aload_n 2, 1), some (.invokevirtual 160, 3), none, none],
  [some (.pop, 1), some (.goto 443, 3), none, none, some (.aload_n 1, 1), some (.invokevirtual 161, 3), none, none, some (.pop, 1), some (.aload_n 2, 1), some (.invokevirtual 164, 3), none, none, some (.pop, 1), some (.goto 430, 3), none],
  [none, some (.aload_n 1, 1), some (.invokevirtual 165, 3), none, none, some (.pop, 1), some (.aload_n 2, 1), some (.invokevirtual 168, 3), none, none, some (.pop, 1), some (.goto 417, 3), none, none, some (.aload_n 1, 1), some (.aload_n 0, 1)]]
set_option maxRecDepth 100000 in
theorem zDL3 : zdrows cL_law 768 zJL3 = true := by decide +kernel
def zJL4 : List (List (Option (Instr × Nat))) := [[some (.iload 4, 2), none, some (.iconst 1, 1), some (.iadd, 1), some (.iaload, 1), some (.aload_n 0, 1), some (.iload 4, 2), none, some (.iconst 2, 1), some (.iadd, 1), some (.iaload, 1), some (.aload_n 0, 1), some (.iload 4, 2), none, some (.iconst 3, 1), some (.iadd, 1)],
  [some (.iaload, 1), some (.invokevirtual 169, 3), none, none, some (.pop, 1), some (.aload_n 2, 1), some (.aload_n 0, 1), some (.iload 4, 2), none, some (.iconst 1, 1), some (.iadd, 1), some (.iaload, 1), some (.aload_n 0, 1), some (.iload 4, 2), none, some (.iconst 2, 1)],
  [some (.iadd, 1), some (.iaload, 1), some (.aload_n 0, 1), some (.iload 4, 2), none, some (.iconst 3, 1), some (.iadd, 1), some (.iaload, 1), some (.invokevirtual 173, 3), none, none, some (.pop, 1), some (.goto 368, 3), none, none, some (.aload_n 1, 1)],
  [some (.aload_n 0, 1), some (.iload 4, 2), none, some (.iconst 1, 1), some (.iadd, 1), some (.iaload, 1), some (.aload_n 0, 1), some (.iload 4, 2), none, some (.iconst 2, 1), some (.iadd, 1), some (.iaload, 1), some (.aload_n 0, 1), some (.iload 4, 2), none, some (.iconst 3, 1)],
  [some (.iadd, 1), some (.iaload, 1), some (.invokevirtual 174, 3), none, none, some (.pop, 1), some (.aload_n 2, 1), some (.aload_n 0, 1), some (.iload 4, 2), none, some (.iconst 1, 1), some (.iadd, 1), some (.iaload, 1), some (.aload_n 0, 1), some (.iload 4, 2), none],
  [some (.iconst 2, 1), some (.iadd, 1), some (.iaload, 1), some (.aload_n 0, 1), some (.iload 4, 2), none, some (.iconst 3, 1), some (.iadd, 1), some (.iaload, 1), some (.invokevirtual 177, 3), none, none, some (.pop, 1), some (.goto 319, 3), none, none],
  [some (.aload_n 1, 1), some (.invokevirtual 178, 3), none, none, some (.pop, 1), some (.aload_n 2, 1), some (.invokevirtual 181, 3), none, none, some (.pop, 1), some (.goto 306, 3), none, none, some (.aload_n 1, 1), some (.invokevirtual 182, 3), none],
  [none, some (.pop, 1), some (.aload_n 2, 1), some (.invokevirtual 185, 3), none, none, some (.pop, 1), some (.goto 293, 3), none, none, some (.aload_n 1, 1), some (.aload_n 0, 1), some (.iload 4, 2), none, some (.iconst 1, 1), some (.iadd, 1)],
  [some (.iaload, 1), some (.aload_n 0, 1), some (.iload 4, 2), none, some (.iconst 2, 1), some (.iadd, 1), some (.iaload, 1), some (.invokevirtual 186, 3), none, none, some (.pop, 1), some (.aload_n 2, 1), some (.aload_n 0, 1), some (.iload 4, 2), none, some (.iconst 1, 1)],
  [some (.iadd, 1), some (.iaload, 1), some (.aload_n 0, 1), some (.iload 4, 2), none, some (.iconst 2, 1), some (.iadd, 1), some (.iaload, 1), some (.invokevirtual 189, 3), none, none, some (.pop, 1), some (.goto 256, 3), none, none, some (.aload_n 1, 1)],
  [some (.invokevirtual 190, 3), none, none, some (.pop, 1), some (.aload_n 2, 1), some (.invokevirtual 193, 3), none, none, some (.pop, 1), some (.goto 243, 3), none, none, some (.aload_n 1, 1), some (.aload_n 0, 1), some (.iload 4, 2), none],
  [some (.iconst 1, 1), some (.iadd, 1), some (.iaload, 1), some (.invokevirtual 194, 3), none, none, some (.pop, 1), some (.aload_n 2, 1), some (.aload_n 0, 1), some (.iload 4, 2), none, some (.iconst 1, 1), some (.iadd, 1), some (.iaload, 1), some (.invokevirtual 197, 3), none],
  [none, some (.pop, 1), some (.goto 218, 3), none, none, some (.aload_n 1, 1), some (.aload_n 0, 1), some (.iload 4, 2), none, some (.iconst 1, 1), some (.iadd, 1), some (.iaload, 1), some (.invokevirtual 198, 3), none, none, some (.pop, 1)],
  [some (.aload_n 2, 1), some (.aload_n 0, 1), some (.iload 4, 2), none, some (.iconst 1, 1), some (.iadd, 1), some (.iaload, 1), some (.invokevirtual 201, 3), none, none, some (.pop, 1), some (.goto 193, 3), none, none, some (.aload_n 1, 1), some (.aload_n 0, 1)],
  [some (.iload 4, 2), none, some (.iconst 1, 1), some (.iadd, 1), some (.iaload, 1), some (.aload_n 0, 1), some (.iload 4, 2), none, some (.iconst 2, 1), some (.iadd, 1), some (.iaload, 1), some (.invokevirtual 202, 3), none, none, some (.pop, 1), some (.aload_n 2, 1)],
  [some (.aload_n 0, 1), some (.iload 4, 2), none, some (.iconst 1, 1), some (.iadd, 1), some (.iaload, 1), some (.aload_n 0, 1), some (.iload 4, 2), none, some (.iconst 2, 1), some (.iadd, 1), some (.iaload, 1), some (.invokevirtual 205, 3), none, none, some (.pop, 1)]]
set_option maxRecDepth 100000 in
theorem zDL4 : zdrows cL_law 1024 zJL4 = true := by decide +kernel
def zJL5 : List (List (Option (Instr × Nat))) := [[some (.goto 156, 3), none, none, some (.aload_n 1, 1), some (.invokevirtual 206, 3), none, none, some (.pop, 1), some (.aload_n 2, 1), some (.invokevirtual 209, 3), none, none, some (.pop, 1), some (.goto 143, 3), none, none],
  [some (.aload_n 1, 1), some (.aload_n 0, 1), some (.iload 4, 2), none, some (.iconst 1, 1), some (.iadd, 1), some (.iaload, 1), some (.aload_n 0, 1), some (.iload 4, 2), none, some (.iconst 2, 1), some (.iadd, 1), some (.iaload, 1), some (.invokevirtual 210, 3), none, none],
  [some (.pop, 1), some (.aload_n 2, 1), some (.aload_n 0, 1), some (.iload 4, 2), none, some (.iconst 1, 1), some (.iadd, 1), some (.iaload, 1), some (.aload_n 0, 1), some (.iload 4, 2), none, some (.iconst 2, 1), some (.iadd, 1), some (.iaload, 1), some (.invokevirtual 213, 3), none],
  [none, some (.pop, 1), some (.goto 106, 3), none, none, some (.aload_n 1, 1), some (.aload_n 0, 1), some (.iload 4, 2), none, some (.iconst 1, 1), some (.iadd, 1), some (.iaload, 1), some (.invokevirtual 214, 3), none, none, some (.pop, 1)],
  [some (.aload_n 2, 1), some (.aload_n 0, 1), some (.iload 4, 2), none, some (.iconst 1, 1), some (.iadd, 1), some (.iaload, 1), some (.invokevirtual 217, 3), none, none, some (.pop, 1), some (.goto 81, 3), none, none, some (.aload_n 1, 1), some (.aload_n 0, 1)],
  [some (.iload 4, 2), none, some (.iconst 1, 1), some (.iadd, 1), some (.iaload, 1), some (.invokevirtual 218, 3), none, none, some (.pop, 1), some (.aload_n 2, 1), some (.aload_n 0, 1), some (.iload 4, 2), none, some (.iconst 1, 1), some (.iadd, 1), some (.iaload, 1)],
  [some (.invokevirtual 221, 3), none, none, some (.pop, 1), some (.goto 56, 3), none, none, some (.aload_n 1, 1), some (.aload_n 0, 1), some (.iload 4, 2), none, some (.iconst 1, 1), some (.iadd, 1), some (.iaload, 1), some (.invokevirtual 222, 3), none],
  [none, some (.pop, 1), some (.aload_n 2, 1), some (.aload_n 0, 1), some (.iload 4, 2), none, some (.iconst 1, 1), some (.iadd, 1), some (.iaload, 1), some (.invokevirtual 225, 3), none, none, some (.pop, 1), some (.goto 31, 3), none, none],
  [some (.aload_n 1, 1), some (.aload_n 0, 1), some (.iload 4, 2), none, some (.iconst 1, 1), some (.iadd, 1), some (.iaload, 1), some (.aload_n 3, 1), some (.invokestatic 226, 3), none, none, some (.istore 5, 2), none, some (.aload_n 2, 1), some (.aload_n 0, 1), some (.iload 4, 2)],
  [none, some (.iconst 1, 1), some (.iadd, 1), some (.iaload, 1), some (.invokevirtual 229, 3), none, none, some (.lstore 6, 2), none, some (.goto 3, 3), none, none, some (.iinc 4 5, 3), none, none, some (.goto (-1416), 3)],
  [none, none, some (.iconst 1, 1), some (.ireturn, 1)]]
set_option maxRecDepth 100000 in
theorem zDL5 : zdrows cL_law 1280 zJL5 = true := by decide +kernel
