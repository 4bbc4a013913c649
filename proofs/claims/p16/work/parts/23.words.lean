theorem zw1 : (Jvm.Cond.initialized "RockingHorse") ∈ zTs := zTs_b1 1 rfl rfl
theorem zw2 : (Jvm.Cond.initialized "RockingHorse$Text") ∈ zTs := zTs_b1 2 rfl rfl
theorem zw3 : (Jvm.Cond.initialized "RockingHorse$House") ∈ zTs := zTs_b1 3 rfl rfl
theorem zw4 : (Jvm.Cond.initialized "RockingHorse$Rule") ∈ zTs := zTs_b1 4 rfl rfl
theorem zw5 : (Jvm.Cond.initialized "java/lang/String") ∈ zTs := zTs_b1 5 rfl rfl
theorem zw6 : (Jvm.Cond.initialized "java/lang/StringLatin1") ∈ zTs := zTs_b1 6 rfl rfl
theorem zw7 : (Jvm.Cond.initialized "jdk/internal/util/Preconditions") ∈ zTs := zTs_b1 7 rfl rfl
theorem zw9 : (Jvm.Cond.initialized "java/lang/Math") ∈ zTs := zTs_b1 9 rfl rfl
theorem zw11 : (Jvm.Cond.initialized "RockingHorse$State") ∈ zTs := zTs_b1 11 rfl rfl
theorem zw12 : (Jvm.Cond.initialized "java/util/Arrays") ∈ zTs := zTs_b1 12 rfl rfl
theorem zw13 : (Jvm.Cond.initialized "RockingHorse$Past") ∈ zTs := zTs_b1 13 rfl rfl
theorem zw14 : (Jvm.Cond.initialized "RockingHorse$Seats") ∈ zTs := zTs_b1 14 rfl rfl
theorem zw15 : (Jvm.Cond.initialized "RockingHorse$Numbers") ∈ zTs := zTs_b1 15 rfl rfl
theorem zw16 : (Jvm.Cond.initialized "RockingHorseModel") ∈ zTs := zTs_b1 16 rfl rfl
theorem zw21 : (Jvm.Cond.initialized "java/lang/Integer") ∈ zTs := zTs_b1 21 rfl rfl
theorem zw22 : (Jvm.Cond.initialized "java/lang/System") ∈ zTs := zTs_b1 22 rfl rfl
theorem zw28 : (Jvm.Cond.methodLink "RockingHorse" (1 : Nat) ({ cls := "java/lang/Object", name := "<init>", desc := "()V" } : Jvm.MethodName)) ∈ zTs := zTs_b1 28 rfl rfl
theorem zw29 : (Jvm.Cond.instanceMethod ({ cls := "java/lang/Object", name := "<init>", desc := "()V" } : Jvm.MethodName)) ∈ zTs := zTs_b1 29 rfl rfl
theorem zw30 : (Jvm.Cond.code ({ cls := "java/lang/Object", name := "<init>", desc := "()V" } : Jvm.MethodName) object_method_1_code (1 : Nat) (Option.none : Option Jvm.ClassFile.FieldType)) ∈ zTs := zTs_b1 30 rfl rfl
theorem zw31 : (Jvm.Cond.classLink "RockingHorse" (7 : Nat) "RockingHorse$Text") ∈ zTs := zTs_b1 31 rfl rfl
theorem zw32 : (Jvm.Cond.instantiable "RockingHorse$Text" (2 : Nat)) ∈ zTs := zTs_b1 32 rfl rfl
theorem zw34 : (Jvm.Cond.instanceMethod ({ cls := "RockingHorse$Text", name := "<init>", desc := "()V" } : Jvm.MethodName)) ∈ zTs := zTs_b1 34 rfl rfl
theorem zw35 : (Jvm.Cond.code ({ cls := "RockingHorse$Text", name := "<init>", desc := "()V" } : Jvm.MethodName) prog_8_method_1_code (1 : Nat) (Option.none : Option Jvm.ClassFile.FieldType)) ∈ zTs := zTs_b1 35 rfl rfl
theorem zw36 : (Jvm.Cond.methodLink "RockingHorse$Text" (3 : Nat) ({ cls := "java/lang/Object", name := "<init>", desc := "()V" } : Jvm.MethodName)) ∈ zTs := zTs_b1 36 rfl rfl
theorem zw37 : (Jvm.Cond.fieldLink "RockingHorse$Text" (11 : Nat) "RockingHorse$Text" "signs" "[I") ∈ zTs := zTs_b1 37 rfl rfl
theorem zw38 : (Jvm.Cond.fieldLink "RockingHorse$Text" (15 : Nat) "RockingHorse$Text" "length" "I") ∈ zTs := zTs_b1 38 rfl rfl
theorem zw47 : (Jvm.Cond.arrayClass Jvm.ClassFile.FieldType.int) ∈ zTs := zTs_b1 47 rfl rfl
theorem zw48 : (Jvm.Cond.classLink "RockingHorse" (16 : Nat) "RockingHorse$House") ∈ zTs := zTs_b1 48 rfl rfl
theorem zw49 : (Jvm.Cond.instantiable "RockingHorse$House" (12 : Nat)) ∈ zTs := zTs_b1 49 rfl rfl
theorem zw51 : (Jvm.Cond.instanceMethod ({ cls := "RockingHorse$House", name := "<init>", desc := "()V" } : Jvm.MethodName)) ∈ zTs := zTs_b1 51 rfl rfl
theorem zw52 : (Jvm.Cond.code ({ cls := "RockingHorse$House", name := "<init>", desc := "()V" } : Jvm.MethodName) prog_2_method_1_code (1 : Nat) (Option.none : Option Jvm.ClassFile.FieldType)) ∈ zTs := zTs_b1 52 rfl rfl
theorem zw53 : (Jvm.Cond.methodLink "RockingHorse$House" (3 : Nat) ({ cls := "java/lang/Object", name := "<init>", desc := "()V" } : Jvm.MethodName)) ∈ zTs := zTs_b1 53 rfl rfl
theorem zw54 : (Jvm.Cond.classLink "RockingHorse$House" (37 : Nat) "RockingHorse$Rule") ∈ zTs := zTs_b1 54 rfl rfl
theorem zw55 : (Jvm.Cond.instantiable "RockingHorse$Rule" (9 : Nat)) ∈ zTs := zTs_b1 55 rfl rfl
theorem zw57 : (Jvm.Cond.instanceMethod ({ cls := "RockingHorse$Rule", name := "<init>", desc := "()V" } : Jvm.MethodName)) ∈ zTs := zTs_b1 57 rfl rfl
theorem zw58 : (Jvm.Cond.code ({ cls := "RockingHorse$Rule", name := "<init>", desc := "()V" } : Jvm.MethodName) prog_5_method_1_code (1 : Nat) (Option.none : Option Jvm.ClassFile.FieldType)) ∈ zTs := zTs_b1 58 rfl rfl
theorem zw59 : (Jvm.Cond.methodLink "RockingHorse$Rule" (3 : Nat) ({ cls := "java/lang/Object", name := "<init>", desc := "()V" } : Jvm.MethodName)) ∈ zTs := zTs_b1 59 rfl rfl
theorem zw60 : (Jvm.Cond.methodLink "RockingHorse$Rule" (25 : Nat) ({ cls := "RockingHorse$Rule", name := "readFirst", desc := "()V" } : Jvm.MethodName)) ∈ zTs := zTs_b1 60 rfl rfl
theorem zw62 : (Jvm.Cond.instanceMethod ({ cls := "RockingHorse$Rule", name := "readFirst", desc := "()V" } : Jvm.MethodName)) ∈ zTs := zTs_b1 62 rfl rfl
theorem zw63 : (Jvm.Cond.code ({ cls := "RockingHorse$Rule", name := "readFirst", desc := "()V" } : Jvm.MethodName) prog_5_method_3_code (2 : Nat) (Option.none : Option Jvm.ClassFile.FieldType)) ∈ zTs := zTs_b1 63 rfl rfl
theorem zw64 : (Jvm.Cond.methodLink "RockingHorse$Rule" (45 : Nat) ({ cls := "RockingHorse$Rule", name := "begin", desc := "()V" } : Jvm.MethodName)) ∈ zTs := zTs_b1 64 rfl rfl
theorem zw66 : (Jvm.Cond.instanceMethod ({ cls := "RockingHorse$Rule", name := "begin", desc := "()V" } : Jvm.MethodName)) ∈ zTs := zTs_b1 66 rfl rfl
theorem zw67 : (Jvm.Cond.code ({ cls := "RockingHorse$Rule", name := "begin", desc := "()V" } : Jvm.MethodName) prog_5_method_2_code (1 : Nat) (Option.none : Option Jvm.ClassFile.FieldType)) ∈ zTs := zTs_b1 67 rfl rfl
theorem zw69 : (Jvm.Cond.methodLink "RockingHorse$Rule" (50 : Nat) ({ cls := "java/lang/String", name := "length", desc := "()I" } : Jvm.MethodName)) ∈ zTs := zTs_b1 69 rfl rfl
theorem zw70 : (Jvm.Cond.instanceMethod ({ cls := "java/lang/String", name := "length", desc := "()I" } : Jvm.MethodName)) ∈ zTs := zTs_b1 70 rfl rfl
theorem zw71 : (Jvm.Cond.selects "java/lang/String" ({ cls := "java/lang/String", name := "length", desc := "()I" } : Jvm.MethodName) ({ cls := "java/lang/String", name := "length", desc := "()I" } : Jvm.MethodName)) ∈ zTs := zTs_b1 71 rfl rfl
theorem zw72 : (Jvm.Cond.code ({ cls := "java/lang/String", name := "length", desc := "()I" } : Jvm.MethodName) prog_19_method_54_code (1 : Nat) (Option.some Jvm.ClassFile.FieldType.int)) ∈ zTs := zTs_b1 72 rfl rfl
theorem zw73 : (Jvm.Cond.methodLink "java/lang/String" (335 : Nat) ({ cls := "java/lang/String", name := "coder", desc := "()B" } : Jvm.MethodName)) ∈ zTs := zTs_b1 73 rfl rfl
theorem zw74 : (Jvm.Cond.instanceMethod ({ cls := "java/lang/String", name := "coder", desc := "()B" } : Jvm.MethodName)) ∈ zTs := zTs_b1 74 rfl rfl
theorem zw75 : (Jvm.Cond.selects "java/lang/String" ({ cls := "java/lang/String", name := "coder", desc := "()B" } : Jvm.MethodName) ({ cls := "java/lang/String", name := "coder", desc := "()B" } : Jvm.MethodName)) ∈ zTs := zTs_b1 75 rfl rfl
theorem zw76 : (Jvm.Cond.code ({ cls := "java/lang/String", name := "coder", desc := "()B" } : Jvm.MethodName) prog_19_method_152_code (1 : Nat) (Option.some Jvm.ClassFile.FieldType.byte)) ∈ zTs := zTs_b1 76 rfl rfl
theorem zw77 : (Jvm.Cond.fieldLink "java/lang/String" (38 : Nat) "java/lang/String" "COMPACT_STRINGS" "Z") ∈ zTs := zTs_b1 77 rfl rfl
theorem zw79 : (Jvm.Cond.methodLink "RockingHorse$Rule" (56 : Nat) ({ cls := "java/lang/String", name := "charAt", desc := "(I)C" } : Jvm.MethodName)) ∈ zTs := zTs_b1 79 rfl rfl
theorem zw80 : (Jvm.Cond.instanceMethod ({ cls := "java/lang/String", name := "charAt", desc := "(I)C" } : Jvm.MethodName)) ∈ zTs := zTs_b1 80 rfl rfl
theorem zw81 : (Jvm.Cond.selects "java/lang/String" ({ cls := "java/lang/String", name := "charAt", desc := "(I)C" } : Jvm.MethodName) ({ cls := "java/lang/String", name := "charAt", desc := "(I)C" } : Jvm.MethodName)) ∈ zTs := zTs_b1 81 rfl rfl
theorem zw82 : (Jvm.Cond.code ({ cls := "java/lang/String", name := "charAt", desc := "(I)C" } : Jvm.MethodName) prog_19_method_56_code (2 : Nat) (Option.some Jvm.ClassFile.FieldType.char)) ∈ zTs := zTs_b1 82 rfl rfl
theorem zw83 : (Jvm.Cond.methodLink "java/lang/String" (492 : Nat) ({ cls := "java/lang/String", name := "isLatin1", desc := "()Z" } : Jvm.MethodName)) ∈ zTs := zTs_b1 83 rfl rfl
theorem zw84 : (Jvm.Cond.instanceMethod ({ cls := "java/lang/String", name := "isLatin1", desc := "()Z" } : Jvm.MethodName)) ∈ zTs := zTs_b1 84 rfl rfl
theorem zw85 : (Jvm.Cond.selects "java/lang/String" ({ cls := "java/lang/String", name := "isLatin1", desc := "()Z" } : Jvm.MethodName) ({ cls := "java/lang/String", name := "isLatin1", desc := "()Z" } : Jvm.MethodName)) ∈ zTs := zTs_b1 85 rfl rfl
theorem zw86 : (Jvm.Cond.code ({ cls := "java/lang/String", name := "isLatin1", desc := "()Z" } : Jvm.MethodName) prog_19_method_154_code (1 : Nat) (Option.some Jvm.ClassFile.FieldType.boolean)) ∈ zTs := zTs_b1 86 rfl rfl
theorem zw87 : (Jvm.Cond.methodLink "java/lang/String" (495 : Nat) ({ cls := "java/lang/StringLatin1", name := "charAt", desc := "([BI)C" } : Jvm.MethodName)) ∈ zTs := zTs_b1 87 rfl rfl
theorem zw88 : (Jvm.Cond.static ({ cls := "java/lang/StringLatin1", name := "charAt", desc := "([BI)C" } : Jvm.MethodName)) ∈ zTs := zTs_b1 88 rfl rfl
theorem zw89 : (Jvm.Cond.code ({ cls := "java/lang/StringLatin1", name := "charAt", desc := "([BI)C" } : Jvm.MethodName) prog_20_method_2_code (2 : Nat) (Option.some Jvm.ClassFile.FieldType.char)) ∈ zTs := zTs_b1 89 rfl rfl
theorem zw90 : (Jvm.Cond.methodLink "java/lang/StringLatin1" (9 : Nat) ({ cls := "java/lang/String", name := "checkIndex", desc := "(II)V" } : Jvm.MethodName)) ∈ zTs := zTs_b1 90 rfl rfl
theorem zw91 : (Jvm.Cond.static ({ cls := "java/lang/String", name := "checkIndex", desc := "(II)V" } : Jvm.MethodName)) ∈ zTs := zTs_b1 91 rfl rfl
theorem zw92 : (Jvm.Cond.code ({ cls := "java/lang/String", name := "checkIndex", desc := "(II)V" } : Jvm.MethodName) prog_19_method_155_code (2 : Nat) (Option.none : Option Jvm.ClassFile.FieldType)) ∈ zTs := zTs_b1 92 rfl rfl
theorem zw93 : (Jvm.Cond.fieldLink "java/lang/String" (1053 : Nat) "jdk/internal/util/Preconditions" "SIOOBE_FORMATTER" "Ljava/util/function/BiFunction;") ∈ zTs := zTs_b1 93 rfl rfl
theorem zw95 : (Jvm.Cond.methodLink "java/lang/String" (1059 : Nat) ({ cls := "jdk/internal/util/Preconditions", name := "checkIndex", desc := "(IILjava/util/function/BiFunction;)I" } : Jvm.MethodName)) ∈ zTs := zTs_b1 95 rfl rfl
theorem zw96 : (Jvm.Cond.static ({ cls := "jdk/internal/util/Preconditions", name := "checkIndex", desc := "(IILjava/util/function/BiFunction;)I" } : Jvm.MethodName)) ∈ zTs := zTs_b1 96 rfl rfl
theorem zw97 : (Jvm.Cond.code ({ cls := "jdk/internal/util/Preconditions", name := "checkIndex", desc := "(IILjava/util/function/BiFunction;)I" } : Jvm.MethodName) prog_28_method_11_code (3 : Nat) (Option.some Jvm.ClassFile.FieldType.int)) ∈ zTs := zTs_b1 97 rfl rfl
theorem zw117 : (Jvm.Cond.methodLink "RockingHorse$Rule" (60 : Nat) ({ cls := "RockingHorse$Rule", name := "takeThing", desc := "(I)Z" } : Jvm.MethodName)) ∈ zTs := zTs_b1 117 rfl rfl
theorem zw119 : (Jvm.Cond.instanceMethod ({ cls := "RockingHorse$Rule", name := "takeThing", desc := "(I)Z" } : Jvm.MethodName)) ∈ zTs := zTs_b1 119 rfl rfl
theorem zw120 : (Jvm.Cond.code ({ cls := "RockingHorse$Rule", name := "takeThing", desc := "(I)Z" } : Jvm.MethodName) prog_5_method_5_code (3 : Nat) (Option.some Jvm.ClassFile.FieldType.boolean)) ∈ zTs := zTs_b1 120 rfl rfl
theorem zw121 : (Jvm.Cond.methodLink "RockingHorse$Rule" (85 : Nat) ({ cls := "RockingHorse$Rule", name := "await", desc := "(I)V" } : Jvm.MethodName)) ∈ zTs := zTs_b1 121 rfl rfl
theorem zw123 : (Jvm.Cond.instanceMethod ({ cls := "RockingHorse$Rule", name := "await", desc := "(I)V" } : Jvm.MethodName)) ∈ zTs := zTs_b1 123 rfl rfl
theorem zw124 : (Jvm.Cond.code ({ cls := "RockingHorse$Rule", name := "await", desc := "(I)V" } : Jvm.MethodName) prog_5_method_11_code (2 : Nat) (Option.none : Option Jvm.ClassFile.FieldType)) ∈ zTs := zTs_b1 124 rfl rfl
theorem zw125 : (Jvm.Cond.methodLink "RockingHorse$Rule" (88 : Nat) ({ cls := "RockingHorse$Rule", name := "openBracket", desc := "()Z" } : Jvm.MethodName)) ∈ zTs := zTs_b1 125 rfl rfl
theorem zw127 : (Jvm.Cond.instanceMethod ({ cls := "RockingHorse$Rule", name := "openBracket", desc := "()Z" } : Jvm.MethodName)) ∈ zTs := zTs_b1 127 rfl rfl
theorem zw128 : (Jvm.Cond.code ({ cls := "RockingHorse$Rule", name := "openBracket", desc := "()Z" } : Jvm.MethodName) prog_5_method_8_code (1 : Nat) (Option.some Jvm.ClassFile.FieldType.boolean)) ∈ zTs := zTs_b1 128 rfl rfl
theorem zw130 : (Jvm.Cond.methodLink "RockingHorse$Rule" (94 : Nat) ({ cls := "java/lang/String", name := "indexOf", desc := "(I)I" } : Jvm.MethodName)) ∈ zTs := zTs_b1 130 rfl rfl
theorem zw131 : (Jvm.Cond.instanceMethod ({ cls := "java/lang/String", name := "indexOf", desc := "(I)I" } : Jvm.MethodName)) ∈ zTs := zTs_b1 131 rfl rfl
theorem zw132 : (Jvm.Cond.selects "java/lang/String" ({ cls := "java/lang/String", name := "indexOf", desc := "(I)I" } : Jvm.MethodName) ({ cls := "java/lang/String", name := "indexOf", desc := "(I)I" } : Jvm.MethodName)) ∈ zTs := zTs_b1 132 rfl rfl
theorem zw133 : (Jvm.Cond.code ({ cls := "java/lang/String", name := "indexOf", desc := "(I)I" } : Jvm.MethodName) prog_19_method_79_code (2 : Nat) (Option.some Jvm.ClassFile.FieldType.int)) ∈ zTs := zTs_b1 133 rfl rfl
theorem zw134 : (Jvm.Cond.methodLink "java/lang/String" (633 : Nat) ({ cls := "java/lang/String", name := "indexOf", desc := "(II)I" } : Jvm.MethodName)) ∈ zTs := zTs_b1 134 rfl rfl
theorem zw135 : (Jvm.Cond.instanceMethod ({ cls := "java/lang/String", name := "indexOf", desc := "(II)I" } : Jvm.MethodName)) ∈ zTs := zTs_b1 135 rfl rfl
theorem zw136 : (Jvm.Cond.selects "java/lang/String" ({ cls := "java/lang/String", name := "indexOf", desc := "(II)I" } : Jvm.MethodName) ({ cls := "java/lang/String", name := "indexOf", desc := "(II)I" } : Jvm.MethodName)) ∈ zTs := zTs_b1 136 rfl rfl
theorem zw137 : (Jvm.Cond.code ({ cls := "java/lang/String", name := "indexOf", desc := "(II)I" } : Jvm.MethodName) prog_19_method_80_code (3 : Nat) (Option.some Jvm.ClassFile.FieldType.int)) ∈ zTs := zTs_b1 137 rfl rfl
theorem zw138 : (Jvm.Cond.methodLink "java/lang/String" (505 : Nat) ({ cls := "java/lang/String", name := "length", desc := "()I" } : Jvm.MethodName)) ∈ zTs := zTs_b1 138 rfl rfl
theorem zw139 : (Jvm.Cond.methodLink "java/lang/String" (637 : Nat) ({ cls := "java/lang/StringLatin1", name := "indexOf", desc := "([BIII)I" } : Jvm.MethodName)) ∈ zTs := zTs_b1 139 rfl rfl
theorem zw140 : (Jvm.Cond.static ({ cls := "java/lang/StringLatin1", name := "indexOf", desc := "([BIII)I" } : Jvm.MethodName)) ∈ zTs := zTs_b1 140 rfl rfl
theorem zw141 : (Jvm.Cond.code ({ cls := "java/lang/StringLatin1", name := "indexOf", desc := "([BIII)I" } : Jvm.MethodName) prog_20_method_22_code (4 : Nat) (Option.some Jvm.ClassFile.FieldType.int)) ∈ zTs := zTs_b1 141 rfl rfl
theorem zw142 : (Jvm.Cond.methodLink "java/lang/StringLatin1" (88 : Nat) ({ cls := "java/lang/StringLatin1", name := "canEncode", desc := "(I)Z" } : Jvm.MethodName)) ∈ zTs := zTs_b1 142 rfl rfl
theorem zw143 : (Jvm.Cond.static ({ cls := "java/lang/StringLatin1", name := "canEncode", desc := "(I)Z" } : Jvm.MethodName)) ∈ zTs := zTs_b1 143 rfl rfl
theorem zw144 : (Jvm.Cond.code ({ cls := "java/lang/StringLatin1", name := "canEncode", desc := "(I)Z" } : Jvm.MethodName) prog_20_method_4_code (1 : Nat) (Option.some Jvm.ClassFile.FieldType.boolean)) ∈ zTs := zTs_b1 144 rfl rfl
theorem zw145 : (Jvm.Cond.methodLink "java/lang/StringLatin1" (92 : Nat) ({ cls := "java/lang/Math", name := "max", desc := "(II)I" } : Jvm.MethodName)) ∈ zTs := zTs_b1 145 rfl rfl
theorem zw146 : (Jvm.Cond.static ({ cls := "java/lang/Math", name := "max", desc := "(II)I" } : Jvm.MethodName)) ∈ zTs := zTs_b1 146 rfl rfl
theorem zw147 : (Jvm.Cond.code ({ cls := "java/lang/Math", name := "max", desc := "(II)I" } : Jvm.MethodName) prog_17_method_65_code (2 : Nat) (Option.some Jvm.ClassFile.FieldType.int)) ∈ zTs := zTs_b1 147 rfl rfl
theorem zw148 : (Jvm.Cond.methodLink "java/lang/StringLatin1" (38 : Nat) ({ cls := "java/lang/Math", name := "min", desc := "(II)I" } : Jvm.MethodName)) ∈ zTs := zTs_b1 148 rfl rfl
theorem zw149 : (Jvm.Cond.static ({ cls := "java/lang/Math", name := "min", desc := "(II)I" } : Jvm.MethodName)) ∈ zTs := zTs_b1 149 rfl rfl
theorem zw150 : (Jvm.Cond.code ({ cls := "java/lang/Math", name := "min", desc := "(II)I" } : Jvm.MethodName) prog_17_method_69_code (2 : Nat) (Option.some Jvm.ClassFile.FieldType.int)) ∈ zTs := zTs_b1 150 rfl rfl
theorem zw151 : (Jvm.Cond.methodLink "java/lang/StringLatin1" (95 : Nat) ({ cls := "java/lang/StringLatin1", name := "indexOfChar", desc := "([BIII)I" } : Jvm.MethodName)) ∈ zTs := zTs_b1 151 rfl rfl
theorem zw152 : (Jvm.Cond.static ({ cls := "java/lang/StringLatin1", name := "indexOfChar", desc := "([BIII)I" } : Jvm.MethodName)) ∈ zTs := zTs_b1 152 rfl rfl
theorem zw153 : (Jvm.Cond.code ({ cls := "java/lang/StringLatin1", name := "indexOfChar", desc := "([BIII)I" } : Jvm.MethodName) prog_20_method_23_code (6 : Nat) (Option.some Jvm.ClassFile.FieldType.int)) ∈ zTs := zTs_b1 153 rfl rfl
theorem zw169 : (Jvm.Cond.methodLink "java/lang/String" (1062 : Nat) ({ cls := "jdk/internal/util/Preconditions", name := "checkFromToIndex", desc := "(IIILjava/util/function/BiFunction;)I" } : Jvm.MethodName)) ∈ zTs := zTs_b1 169 rfl rfl
theorem zw170 : (Jvm.Cond.static ({ cls := "jdk/internal/util/Preconditions", name := "checkFromToIndex", desc := "(IIILjava/util/function/BiFunction;)I" } : Jvm.MethodName)) ∈ zTs := zTs_b1 170 rfl rfl
theorem zw171 : (Jvm.Cond.code ({ cls := "jdk/internal/util/Preconditions", name := "checkFromToIndex", desc := "(IIILjava/util/function/BiFunction;)I" } : Jvm.MethodName) prog_28_method_12_code (4 : Nat) (Option.some Jvm.ClassFile.FieldType.int)) ∈ zTs := zTs_b1 171 rfl rfl
theorem zw190 : (Jvm.Cond.static ({ cls := "RockingHorse", name := "isDigit", desc := "(I)Z" } : Jvm.MethodName)) ∈ zTs := zTs_b1 190 rfl rfl
theorem zw191 : (Jvm.Cond.code ({ cls := "RockingHorse", name := "isDigit", desc := "(I)Z" } : Jvm.MethodName) prog_1_method_53_code (1 : Nat) (Option.some Jvm.ClassFile.FieldType.boolean)) ∈ zTs := zTs_b1 191 rfl rfl
theorem zw192 : (Jvm.Cond.methodLink "RockingHorse$Rule" (100 : Nat) ({ cls := "RockingHorse$Rule", name := "emit", desc := "(I)V" } : Jvm.MethodName)) ∈ zTs := zTs_b1 192 rfl rfl
theorem zw194 : (Jvm.Cond.instanceMethod ({ cls := "RockingHorse$Rule", name := "emit", desc := "(I)V" } : Jvm.MethodName)) ∈ zTs := zTs_b1 194 rfl rfl
theorem zw195 : (Jvm.Cond.code ({ cls := "RockingHorse$Rule", name := "emit", desc := "(I)V" } : Jvm.MethodName) prog_5_method_12_code (2 : Nat) (Option.none : Option Jvm.ClassFile.FieldType)) ∈ zTs := zTs_b1 195 rfl rfl
theorem zw196 : (Jvm.Cond.methodLink "RockingHorse$Rule" (64 : Nat) ({ cls := "RockingHorse$Rule", name := "takeBehindThing", desc := "(I)Z" } : Jvm.MethodName)) ∈ zTs := zTs_b1 196 rfl rfl
theorem zw198 : (Jvm.Cond.instanceMethod ({ cls := "RockingHorse$Rule", name := "takeBehindThing", desc := "(I)Z" } : Jvm.MethodName)) ∈ zTs := zTs_b1 198 rfl rfl
theorem zw199 : (Jvm.Cond.code ({ cls := "RockingHorse$Rule", name := "takeBehindThing", desc := "(I)Z" } : Jvm.MethodName) prog_5_method_6_code (3 : Nat) (Option.some Jvm.ClassFile.FieldType.boolean)) ∈ zTs := zTs_b1 199 rfl rfl
theorem zw200 : (Jvm.Cond.methodLink "RockingHorse$Rule" (103 : Nat) ({ cls := "RockingHorse$Rule", name := "takeDigitMore", desc := "(I)Z" } : Jvm.MethodName)) ∈ zTs := zTs_b1 200 rfl rfl
theorem zw202 : (Jvm.Cond.instanceMethod ({ cls := "RockingHorse$Rule", name := "takeDigitMore", desc := "(I)Z" } : Jvm.MethodName)) ∈ zTs := zTs_b1 202 rfl rfl
theorem zw203 : (Jvm.Cond.code ({ cls := "RockingHorse$Rule", name := "takeDigitMore", desc := "(I)Z" } : Jvm.MethodName) prog_5_method_7_code (2 : Nat) (Option.some Jvm.ClassFile.FieldType.boolean)) ∈ zTs := zTs_b1 203 rfl rfl
theorem zw204 : (Jvm.Cond.methodLink "RockingHorse$Rule" (106 : Nat) ({ cls := "RockingHorse$Rule", name := "closeBracket", desc := "()Z" } : Jvm.MethodName)) ∈ zTs := zTs_b1 204 rfl rfl
theorem zw206 : (Jvm.Cond.instanceMethod ({ cls := "RockingHorse$Rule", name := "closeBracket", desc := "()Z" } : Jvm.MethodName)) ∈ zTs := zTs_b1 206 rfl rfl
theorem zw207 : (Jvm.Cond.code ({ cls := "RockingHorse$Rule", name := "closeBracket", desc := "()Z" } : Jvm.MethodName) prog_5_method_9_code (1 : Nat) (Option.some Jvm.ClassFile.FieldType.boolean)) ∈ zTs := zTs_b1 207 rfl rfl
theorem zw208 : (Jvm.Cond.methodLink "RockingHorse$Rule" (67 : Nat) ({ cls := "RockingHorse$Rule", name := "reckonDownTo", desc := "(I)V" } : Jvm.MethodName)) ∈ zTs := zTs_b1 208 rfl rfl
theorem zw210 : (Jvm.Cond.instanceMethod ({ cls := "RockingHorse$Rule", name := "reckonDownTo", desc := "(I)V" } : Jvm.MethodName)) ∈ zTs := zTs_b1 210 rfl rfl
theorem zw211 : (Jvm.Cond.code ({ cls := "RockingHorse$Rule", name := "reckonDownTo", desc := "(I)V" } : Jvm.MethodName) prog_5_method_13_code (2 : Nat) (Option.none : Option Jvm.ClassFile.FieldType)) ∈ zTs := zTs_b1 211 rfl rfl
theorem zw212 : (Jvm.Cond.methodLink "RockingHorse$Rule" (109 : Nat) ({ cls := "RockingHorse$Rule", name := "binding", desc := "(I)I" } : Jvm.MethodName)) ∈ zTs := zTs_b1 212 rfl rfl
theorem zw213 : (Jvm.Cond.static ({ cls := "RockingHorse$Rule", name := "binding", desc := "(I)I" } : Jvm.MethodName)) ∈ zTs := zTs_b1 213 rfl rfl
theorem zw214 : (Jvm.Cond.code ({ cls := "RockingHorse$Rule", name := "binding", desc := "(I)I" } : Jvm.MethodName) prog_5_method_10_code (1 : Nat) (Option.some Jvm.ClassFile.FieldType.int)) ∈ zTs := zTs_b1 214 rfl rfl
theorem zw215 : (Jvm.Cond.methodLink "RockingHorse$Rule" (112 : Nat) ({ cls := "java/lang/Math", name := "max", desc := "(II)I" } : Jvm.MethodName)) ∈ zTs := zTs_b1 215 rfl rfl
theorem zw216 : (Jvm.Cond.fieldLink "RockingHorse$Rule" (11 : Nat) "RockingHorse$Rule" "code" "[I") ∈ zTs := zTs_b1 216 rfl rfl
theorem zw217 : (Jvm.Cond.fieldLink "RockingHorse$Rule" (15 : Nat) "RockingHorse$Rule" "waiting" "[I") ∈ zTs := zTs_b1 217 rfl rfl
theorem zw218 : (Jvm.Cond.fieldLink "RockingHorse$Rule" (18 : Nat) "RockingHorse$Rule" "stack" "[I") ∈ zTs := zTs_b1 218 rfl rfl
theorem zw219 : (Jvm.Cond.fieldLink "RockingHorse$Rule" (21 : Nat) "RockingHorse$Rule" "compared" "[Z") ∈ zTs := zTs_b1 219 rfl rfl
theorem zw220 : (Jvm.Cond.fieldLink "RockingHorse$Rule" (28 : Nat) "RockingHorse$Rule" "size" "I") ∈ zTs := zTs_b1 220 rfl rfl
theorem zw221 : (Jvm.Cond.fieldLink "RockingHorse$Rule" (32 : Nat) "RockingHorse$Rule" "waits" "I") ∈ zTs := zTs_b1 221 rfl rfl
theorem zw222 : (Jvm.Cond.fieldLink "RockingHorse$Rule" (35 : Nat) "RockingHorse$Rule" "depth" "I") ∈ zTs := zTs_b1 222 rfl rfl
theorem zw223 : (Jvm.Cond.fieldLink "RockingHorse$Rule" (38 : Nat) "RockingHorse$Rule" "digits" "I") ∈ zTs := zTs_b1 223 rfl rfl
theorem zw224 : (Jvm.Cond.fieldLink "RockingHorse$Rule" (41 : Nat) "RockingHorse$Rule" "thingDue" "Z") ∈ zTs := zTs_b1 224 rfl rfl
theorem zw244 : (Jvm.Cond.arrayClass Jvm.ClassFile.FieldType.boolean) ∈ zTs := zTs_b2 4 rfl rfl
theorem zw245 : (Jvm.Cond.arrayClass Jvm.ClassFile.FieldType.byte) ∈ zTs := zTs_b2 5 rfl rfl
theorem zw246 : (Jvm.Cond.fieldLink "RockingHorse$House" (9 : Nat) "RockingHorse$House" "can" "[I") ∈ zTs := zTs_b2 6 rfl rfl
theorem zw248 : (Jvm.Cond.fieldLink "RockingHorse$House" (15 : Nat) "RockingHorse$House" "most" "[I") ∈ zTs := zTs_b2 8 rfl rfl
theorem zw250 : (Jvm.Cond.fieldLink "RockingHorse$House" (18 : Nat) "RockingHorse$House" "width" "[I") ∈ zTs := zTs_b2 10 rfl rfl
theorem zw252 : (Jvm.Cond.fieldLink "RockingHorse$House" (21 : Nat) "RockingHorse$House" "things" "[I") ∈ zTs := zTs_b2 12 rfl rfl
theorem zw253 : (Jvm.Cond.fieldLink "RockingHorse$House" (24 : Nat) "RockingHorse$House" "rode" "[I") ∈ zTs := zTs_b2 13 rfl rfl
theorem zw254 : (Jvm.Cond.fieldLink "RockingHorse$House" (27 : Nat) "RockingHorse$House" "more" "[I") ∈ zTs := zTs_b2 14 rfl rfl
theorem zw255 : (Jvm.Cond.fieldLink "RockingHorse$House" (44 : Nat) "RockingHorse$House" "crew" "I") ∈ zTs := zTs_b2 15 rfl rfl
theorem zw257 : (Jvm.Cond.fieldLink "RockingHorse$House" (30 : Nat) "RockingHorse$House" "hours" "I") ∈ zTs := zTs_b2 17 rfl rfl
theorem zw259 : (Jvm.Cond.fieldLink "RockingHorse$House" (34 : Nat) "RockingHorse$House" "beats" "I") ∈ zTs := zTs_b2 19 rfl rfl
theorem zw261 : (Jvm.Cond.fieldLink "RockingHorse$House" (40 : Nat) "RockingHorse$House" "law" "LRockingHorse$Rule;") ∈ zTs := zTs_b2 21 rfl rfl
theorem zw263 : (Jvm.Cond.fieldLink "RockingHorse$House" (105 : Nat) "RockingHorse$House" "gapBits" "I") ∈ zTs := zTs_b2 23 rfl rfl
theorem zw265 : (Jvm.Cond.fieldLink "RockingHorse$House" (108 : Nat) "RockingHorse$House" "rodeBits" "I") ∈ zTs := zTs_b2 25 rfl rfl
theorem zw292 : (Jvm.Cond.classLink "RockingHorse" (23 : Nat) "RockingHorse$State") ∈ zTs := zTs_b2 52 rfl rfl
theorem zw293 : (Jvm.Cond.instantiable "RockingHorse$State" (6 : Nat)) ∈ zTs := zTs_b2 53 rfl rfl
theorem zw295 : (Jvm.Cond.instanceMethod ({ cls := "RockingHorse$State", name := "<init>", desc := "()V" } : Jvm.MethodName)) ∈ zTs := zTs_b2 55 rfl rfl
theorem zw296 : (Jvm.Cond.code ({ cls := "RockingHorse$State", name := "<init>", desc := "()V" } : Jvm.MethodName) prog_7_method_1_code (1 : Nat) (Option.none : Option Jvm.ClassFile.FieldType)) ∈ zTs := zTs_b2 56 rfl rfl
theorem zw297 : (Jvm.Cond.methodLink "RockingHorse$State" (3 : Nat) ({ cls := "java/lang/Object", name := "<init>", desc := "()V" } : Jvm.MethodName)) ∈ zTs := zTs_b2 57 rfl rfl
theorem zw298 : (Jvm.Cond.methodLink "RockingHorse$State" (18 : Nat) ({ cls := "java/util/Arrays", name := "fill", desc := "([II)V" } : Jvm.MethodName)) ∈ zTs := zTs_b2 58 rfl rfl
theorem zw299 : (Jvm.Cond.static ({ cls := "java/util/Arrays", name := "fill", desc := "([II)V" } : Jvm.MethodName)) ∈ zTs := zTs_b2 59 rfl rfl
theorem zw300 : (Jvm.Cond.code ({ cls := "java/util/Arrays", name := "fill", desc := "([II)V" } : Jvm.MethodName) prog_26_method_103_code (4 : Nat) (Option.none : Option Jvm.ClassFile.FieldType)) ∈ zTs := zTs_b2 60 rfl rfl
theorem zw301 : (Jvm.Cond.fieldLink "RockingHorse$State" (9 : Nat) "RockingHorse$State" "rota" "[I") ∈ zTs := zTs_b2 61 rfl rfl
theorem zw304 : (Jvm.Cond.fieldLink "RockingHorse$State" (15 : Nat) "RockingHorse$State" "tired" "[I") ∈ zTs := zTs_b2 64 rfl rfl
theorem zw307 : (Jvm.Cond.fieldLink "RockingHorse$State" (30 : Nat) "RockingHorse$State" "ill" "I") ∈ zTs := zTs_b2 67 rfl rfl
theorem zw309 : (Jvm.Cond.fieldLink "RockingHorse$State" (34 : Nat) "RockingHorse$State" "night" "I") ∈ zTs := zTs_b2 69 rfl rfl
theorem zw312 : (Jvm.Cond.fieldLink "RockingHorse$State" (37 : Nat) "RockingHorse$State" "gaps" "I") ∈ zTs := zTs_b2 72 rfl rfl
theorem zw315 : (Jvm.Cond.fieldLink "RockingHorse$State" (40 : Nat) "RockingHorse$State" "ridden" "I") ∈ zTs := zTs_b2 75 rfl rfl
theorem zw331 : (Jvm.Cond.classLink "RockingHorse" (36 : Nat) "RockingHorse$Past") ∈ zTs := zTs_b2 91 rfl rfl
theorem zw332 : (Jvm.Cond.instantiable "RockingHorse$Past" (3 : Nat)) ∈ zTs := zTs_b2 92 rfl rfl
theorem zw334 : (Jvm.Cond.instanceMethod ({ cls := "RockingHorse$Past", name := "<init>", desc := "()V" } : Jvm.MethodName)) ∈ zTs := zTs_b2 94 rfl rfl
theorem zw335 : (Jvm.Cond.code ({ cls := "RockingHorse$Past", name := "<init>", desc := "()V" } : Jvm.MethodName) prog_4_method_1_code (2 : Nat) (Option.none : Option Jvm.ClassFile.FieldType)) ∈ zTs := zTs_b2 95 rfl rfl
theorem zw336 : (Jvm.Cond.methodLink "RockingHorse$Past" (3 : Nat) ({ cls := "java/lang/Object", name := "<init>", desc := "()V" } : Jvm.MethodName)) ∈ zTs := zTs_b2 96 rfl rfl
theorem zw337 : (Jvm.Cond.classLink "RockingHorse$Past" (11 : Nat) "RockingHorse$State") ∈ zTs := zTs_b2 97 rfl rfl
theorem zw340 : (Jvm.Cond.fieldLink "RockingHorse$Past" (13 : Nat) "RockingHorse$Past" "states" "[LRockingHorse$State;") ∈ zTs := zTs_b2 100 rfl rfl
theorem zw341 : (Jvm.Cond.fieldLink "RockingHorse$Past" (22 : Nat) "RockingHorse$Past" "next" "I") ∈ zTs := zTs_b2 101 rfl rfl
theorem zw342 : (Jvm.Cond.fieldLink "RockingHorse$Past" (18 : Nat) "RockingHorse$Past" "size" "I") ∈ zTs := zTs_b2 102 rfl rfl
theorem zw351 : (Jvm.Cond.classLink "RockingHorse" (51 : Nat) "RockingHorse$Seats") ∈ zTs := zTs_b2 111 rfl rfl
theorem zw352 : (Jvm.Cond.instantiable "RockingHorse$Seats" (15 : Nat)) ∈ zTs := zTs_b2 112 rfl rfl
theorem zw354 : (Jvm.Cond.instanceMethod ({ cls := "RockingHorse$Seats", name := "<init>", desc := "()V" } : Jvm.MethodName)) ∈ zTs := zTs_b2 114 rfl rfl
theorem zw355 : (Jvm.Cond.code ({ cls := "RockingHorse$Seats", name := "<init>", desc := "()V" } : Jvm.MethodName) prog_6_method_1_code (1 : Nat) (Option.none : Option Jvm.ClassFile.FieldType)) ∈ zTs := zTs_b2 115 rfl rfl
theorem zw356 : (Jvm.Cond.methodLink "RockingHorse$Seats" (3 : Nat) ({ cls := "java/lang/Object", name := "<init>", desc := "()V" } : Jvm.MethodName)) ∈ zTs := zTs_b2 116 rfl rfl
theorem zw357 : (Jvm.Cond.fieldLink "RockingHorse$Seats" (9 : Nat) "RockingHorse$Seats" "may" "[I") ∈ zTs := zTs_b2 117 rfl rfl
theorem zw358 : (Jvm.Cond.fieldLink "RockingHorse$Seats" (15 : Nat) "RockingHorse$Seats" "most" "[I") ∈ zTs := zTs_b2 118 rfl rfl
theorem zw359 : (Jvm.Cond.fieldLink "RockingHorse$Seats" (18 : Nat) "RockingHorse$Seats" "order" "[I") ∈ zTs := zTs_b2 119 rfl rfl
theorem zw360 : (Jvm.Cond.fieldLink "RockingHorse$Seats" (21 : Nat) "RockingHorse$Seats" "step" "[I") ∈ zTs := zTs_b2 120 rfl rfl
theorem zw361 : (Jvm.Cond.fieldLink "RockingHorse$Seats" (24 : Nat) "RockingHorse$Seats" "cost" "[J") ∈ zTs := zTs_b2 121 rfl rfl
theorem zw362 : (Jvm.Cond.fieldLink "RockingHorse$Seats" (28 : Nat) "RockingHorse$Seats" "flat" "[J") ∈ zTs := zTs_b2 122 rfl rfl
theorem zw364 : (Jvm.Cond.fieldLink "RockingHorse$Seats" (31 : Nat) "RockingHorse$Seats" "weight" "[J") ∈ zTs := zTs_b2 124 rfl rfl
theorem zw365 : (Jvm.Cond.fieldLink "RockingHorse$Seats" (34 : Nat) "RockingHorse$Seats" "best" "[J") ∈ zTs := zTs_b2 125 rfl rfl
theorem zw366 : (Jvm.Cond.fieldLink "RockingHorse$Seats" (37 : Nat) "RockingHorse$Seats" "ahead" "[I") ∈ zTs := zTs_b2 126 rfl rfl
theorem zw367 : (Jvm.Cond.fieldLink "RockingHorse$Seats" (40 : Nat) "RockingHorse$Seats" "behind" "[I") ∈ zTs := zTs_b2 127 rfl rfl
theorem zw368 : (Jvm.Cond.fieldLink "RockingHorse$Seats" (43 : Nat) "RockingHorse$Seats" "tally" "[I") ∈ zTs := zTs_b2 128 rfl rfl
theorem zw369 : (Jvm.Cond.fieldLink "RockingHorse$Seats" (46 : Nat) "RockingHorse$Seats" "lack" "[Z") ∈ zTs := zTs_b2 129 rfl rfl
theorem zw370 : (Jvm.Cond.fieldLink "RockingHorse$Seats" (50 : Nat) "RockingHorse$Seats" "reach" "[I") ∈ zTs := zTs_b2 130 rfl rfl
theorem zw371 : (Jvm.Cond.fieldLink "RockingHorse$Seats" (53 : Nat) "RockingHorse$Seats" "full" "I") ∈ zTs := zTs_b2 131 rfl rfl
theorem zw373 : (Jvm.Cond.fieldLink "RockingHorse$Seats" (59 : Nat) "RockingHorse$Seats" "limit" "J") ∈ zTs := zTs_b2 133 rfl rfl
theorem zw406 : (Jvm.Cond.arrayClass Jvm.ClassFile.FieldType.long) ∈ zTs := zTs_b2 166 rfl rfl
theorem zw407 : (Jvm.Cond.classLink "RockingHorse" (58 : Nat) "RockingHorse$Numbers") ∈ zTs := zTs_b2 167 rfl rfl
theorem zw408 : (Jvm.Cond.instantiable "RockingHorse$Numbers" (2 : Nat)) ∈ zTs := zTs_b2 168 rfl rfl
theorem zw410 : (Jvm.Cond.instanceMethod ({ cls := "RockingHorse$Numbers", name := "<init>", desc := "()V" } : Jvm.MethodName)) ∈ zTs := zTs_b2 170 rfl rfl
theorem zw411 : (Jvm.Cond.code ({ cls := "RockingHorse$Numbers", name := "<init>", desc := "()V" } : Jvm.MethodName) prog_3_method_1_code (1 : Nat) (Option.none : Option Jvm.ClassFile.FieldType)) ∈ zTs := zTs_b2 171 rfl rfl
theorem zw412 : (Jvm.Cond.methodLink "RockingHorse$Numbers" (3 : Nat) ({ cls := "java/lang/Object", name := "<init>", desc := "()V" } : Jvm.MethodName)) ∈ zTs := zTs_b2 172 rfl rfl
theorem zw413 : (Jvm.Cond.fieldLink "RockingHorse$Numbers" (9 : Nat) "RockingHorse$Numbers" "told" "[J") ∈ zTs := zTs_b2 173 rfl rfl
theorem zw414 : (Jvm.Cond.fieldLink "RockingHorse$Numbers" (15 : Nat) "RockingHorse$Numbers" "size" "I") ∈ zTs := zTs_b2 174 rfl rfl
theorem zw421 : (Jvm.Cond.classLink "RockingHorse" (75 : Nat) "RockingHorse$Rule") ∈ zTs := zTs_b2 181 rfl rfl
theorem zw423 : (Jvm.Cond.fieldLink "RockingHorse" (10 : Nat) "RockingHorse" "text" "LRockingHorse$Text;") ∈ zTs := zTs_b2 183 rfl rfl
theorem zw424 : (Jvm.Cond.fieldLink "RockingHorse" (19 : Nat) "RockingHorse" "house" "LRockingHorse$House;") ∈ zTs := zTs_b2 184 rfl rfl
theorem zw425 : (Jvm.Cond.fieldLink "RockingHorse" (26 : Nat) "RockingHorse" "now" "LRockingHorse$State;") ∈ zTs := zTs_b2 185 rfl rfl
theorem zw426 : (Jvm.Cond.fieldLink "RockingHorse" (30 : Nat) "RockingHorse" "before" "LRockingHorse$State;") ∈ zTs := zTs_b2 186 rfl rfl
theorem zw427 : (Jvm.Cond.fieldLink "RockingHorse" (33 : Nat) "RockingHorse" "dream" "LRockingHorse$State;") ∈ zTs := zTs_b2 187 rfl rfl
theorem zw428 : (Jvm.Cond.fieldLink "RockingHorse" (39 : Nat) "RockingHorse" "past" "LRockingHorse$Past;") ∈ zTs := zTs_b2 188 rfl rfl
theorem zw429 : (Jvm.Cond.fieldLink "RockingHorse" (43 : Nat) "RockingHorse" "kept" "[LRockingHorse$State;") ∈ zTs := zTs_b2 189 rfl rfl
theorem zw430 : (Jvm.Cond.fieldLink "RockingHorse" (47 : Nat) "RockingHorse" "isKept" "[Z") ∈ zTs := zTs_b2 190 rfl rfl
theorem zw431 : (Jvm.Cond.fieldLink "RockingHorse" (54 : Nat) "RockingHorse" "seats" "LRockingHorse$Seats;") ∈ zTs := zTs_b2 191 rfl rfl
theorem zw432 : (Jvm.Cond.fieldLink "RockingHorse" (61 : Nat) "RockingHorse" "numbers" "LRockingHorse$Numbers;") ∈ zTs := zTs_b2 192 rfl rfl
theorem zw433 : (Jvm.Cond.fieldLink "RockingHorse" (65 : Nat) "RockingHorse" "foundHour" "[I") ∈ zTs := zTs_b2 193 rfl rfl
theorem zw434 : (Jvm.Cond.fieldLink "RockingHorse" (69 : Nat) "RockingHorse" "foundRider" "[I") ∈ zTs := zTs_b2 194 rfl rfl
theorem zw435 : (Jvm.Cond.fieldLink "RockingHorse" (72 : Nat) "RockingHorse" "foundIs" "[I") ∈ zTs := zTs_b2 195 rfl rfl
theorem zw436 : (Jvm.Cond.fieldLink "RockingHorse" (345 : Nat) "RockingHorse" "findings" "I") ∈ zTs := zTs_b2 196 rfl rfl
theorem zw437 : (Jvm.Cond.fieldLink "RockingHorse" (78 : Nat) "RockingHorse" "spare" "LRockingHorse$Rule;") ∈ zTs := zTs_b2 197 rfl rfl
theorem zw438 : (Jvm.Cond.fieldLink "RockingHorse" (385 : Nat) "RockingHorse" "drawn" "I") ∈ zTs := zTs_b2 198 rfl rfl
theorem zw478 : (Jvm.Cond.instanceMethod ({ cls := "RockingHorse$Text", name := "add", desc := "(I)I" } : Jvm.MethodName)) ∈ zTs := zTs_b2 238 rfl rfl
theorem zw479 : (Jvm.Cond.code ({ cls := "RockingHorse$Text", name := "add", desc := "(I)I" } : Jvm.MethodName) prog_8_method_2_code (3 : Nat) (Option.some Jvm.ClassFile.FieldType.int)) ∈ zTs := zTs_b2 239 rfl rfl
theorem zw486 : (Jvm.Cond.instanceMethod ({ cls := "RockingHorse$Text", name := "cut", desc := "(I)Z" } : Jvm.MethodName)) ∈ zTs := zTs_b3 6 rfl rfl
theorem zw487 : (Jvm.Cond.code ({ cls := "RockingHorse$Text", name := "cut", desc := "(I)Z" } : Jvm.MethodName) prog_8_method_3_code (2 : Nat) (Option.some Jvm.ClassFile.FieldType.boolean)) ∈ zTs := zTs_b3 7 rfl rfl
theorem zw494 : (Jvm.Cond.instanceMethod ({ cls := "RockingHorse$House", name := "readRiders", desc := "(LRockingHorse$Text;)I" } : Jvm.MethodName)) ∈ zTs := zTs_b3 14 rfl rfl
theorem zw495 : (Jvm.Cond.code ({ cls := "RockingHorse$House", name := "readRiders", desc := "(LRockingHorse$Text;)I" } : Jvm.MethodName) prog_2_method_6_code (7 : Nat) (Option.some Jvm.ClassFile.FieldType.int)) ∈ zTs := zTs_b3 15 rfl rfl
theorem zw496 : (Jvm.Cond.methodLink "RockingHorse$House" (62 : Nat) ({ cls := "java/lang/Math", name := "min", desc := "(II)I" } : Jvm.MethodName)) ∈ zTs := zTs_b3 16 rfl rfl
theorem zw499 : (Jvm.Cond.instanceMethod ({ cls := "RockingHorse$Text", name := "at", desc := "(I)I" } : Jvm.MethodName)) ∈ zTs := zTs_b3 19 rfl rfl
theorem zw500 : (Jvm.Cond.code ({ cls := "RockingHorse$Text", name := "at", desc := "(I)I" } : Jvm.MethodName) prog_8_method_5_code (2 : Nat) (Option.some Jvm.ClassFile.FieldType.int)) ∈ zTs := zTs_b3 20 rfl rfl
theorem zw501 : (Jvm.Cond.methodLink "RockingHorse$House" (69 : Nat) ({ cls := "RockingHorse$House", name := "takeSign", desc := "(III)I" } : Jvm.MethodName)) ∈ zTs := zTs_b3 21 rfl rfl
theorem zw503 : (Jvm.Cond.instanceMethod ({ cls := "RockingHorse$House", name := "takeSign", desc := "(III)I" } : Jvm.MethodName)) ∈ zTs := zTs_b3 23 rfl rfl
theorem zw504 : (Jvm.Cond.code ({ cls := "RockingHorse$House", name := "takeSign", desc := "(III)I" } : Jvm.MethodName) prog_2_method_7_code (4 : Nat) (Option.some Jvm.ClassFile.FieldType.int)) ∈ zTs := zTs_b3 24 rfl rfl
theorem zw505 : (Jvm.Cond.methodLink "RockingHorse$House" (73 : Nat) ({ cls := "RockingHorse$House", name := "takeMost", desc := "(II)I" } : Jvm.MethodName)) ∈ zTs := zTs_b3 25 rfl rfl
theorem zw507 : (Jvm.Cond.instanceMethod ({ cls := "RockingHorse$House", name := "takeMost", desc := "(II)I" } : Jvm.MethodName)) ∈ zTs := zTs_b3 27 rfl rfl
theorem zw508 : (Jvm.Cond.code ({ cls := "RockingHorse$House", name := "takeMost", desc := "(II)I" } : Jvm.MethodName) prog_2_method_8_code (3 : Nat) (Option.some Jvm.ClassFile.FieldType.int)) ∈ zTs := zTs_b3 28 rfl rfl
theorem zw509 : (Jvm.Cond.methodLink "RockingHorse$House" (76 : Nat) ({ cls := "RockingHorse$House", name := "takeWidth", desc := "(II)I" } : Jvm.MethodName)) ∈ zTs := zTs_b3 29 rfl rfl
theorem zw511 : (Jvm.Cond.instanceMethod ({ cls := "RockingHorse$House", name := "takeWidth", desc := "(II)I" } : Jvm.MethodName)) ∈ zTs := zTs_b3 31 rfl rfl
theorem zw512 : (Jvm.Cond.code ({ cls := "RockingHorse$House", name := "takeWidth", desc := "(II)I" } : Jvm.MethodName) prog_2_method_9_code (3 : Nat) (Option.some Jvm.ClassFile.FieldType.int)) ∈ zTs := zTs_b3 32 rfl rfl
theorem zw513 : (Jvm.Cond.methodLink "RockingHorse$House" (79 : Nat) ({ cls := "RockingHorse$House", name := "takeHour", desc := "(II)I" } : Jvm.MethodName)) ∈ zTs := zTs_b3 33 rfl rfl
theorem zw515 : (Jvm.Cond.instanceMethod ({ cls := "RockingHorse$House", name := "takeHour", desc := "(II)I" } : Jvm.MethodName)) ∈ zTs := zTs_b3 35 rfl rfl
theorem zw516 : (Jvm.Cond.code ({ cls := "RockingHorse$House", name := "takeHour", desc := "(II)I" } : Jvm.MethodName) prog_2_method_10_code (3 : Nat) (Option.some Jvm.ClassFile.FieldType.int)) ∈ zTs := zTs_b3 36 rfl rfl
theorem zw519 : (Jvm.Cond.instanceMethod ({ cls := "RockingHorse$Text", name := "empty", desc := "()V" } : Jvm.MethodName)) ∈ zTs := zTs_b3 39 rfl rfl
theorem zw520 : (Jvm.Cond.code ({ cls := "RockingHorse$Text", name := "empty", desc := "()V" } : Jvm.MethodName) prog_8_method_4_code (1 : Nat) (Option.none : Option Jvm.ClassFile.FieldType)) ∈ zTs := zTs_b3 40 rfl rfl
theorem zw523 : (Jvm.Cond.instanceMethod ({ cls := "RockingHorse$Past", name := "clear", desc := "()V" } : Jvm.MethodName)) ∈ zTs := zTs_b3 43 rfl rfl
theorem zw524 : (Jvm.Cond.code ({ cls := "RockingHorse$Past", name := "clear", desc := "()V" } : Jvm.MethodName) prog_4_method_2_code (1 : Nat) (Option.none : Option Jvm.ClassFile.FieldType)) ∈ zTs := zTs_b3 44 rfl rfl
theorem zw525 : (Jvm.Cond.methodLink "RockingHorse" (100 : Nat) ({ cls := "RockingHorse", name := "forgetKept", desc := "()V" } : Jvm.MethodName)) ∈ zTs := zTs_b3 45 rfl rfl
theorem zw527 : (Jvm.Cond.instanceMethod ({ cls := "RockingHorse", name := "forgetKept", desc := "()V" } : Jvm.MethodName)) ∈ zTs := zTs_b3 47 rfl rfl
theorem zw528 : (Jvm.Cond.code ({ cls := "RockingHorse", name := "forgetKept", desc := "()V" } : Jvm.MethodName) prog_1_method_60_code (2 : Nat) (Option.none : Option Jvm.ClassFile.FieldType)) ∈ zTs := zTs_b3 48 rfl rfl
theorem zw533 : (Jvm.Cond.methodLink "RockingHorse" (103 : Nat) ({ cls := "RockingHorse", name := "readSpare", desc := "()I" } : Jvm.MethodName)) ∈ zTs := zTs_b3 53 rfl rfl
theorem zw535 : (Jvm.Cond.instanceMethod ({ cls := "RockingHorse", name := "readSpare", desc := "()I" } : Jvm.MethodName)) ∈ zTs := zTs_b3 55 rfl rfl
theorem zw536 : (Jvm.Cond.code ({ cls := "RockingHorse", name := "readSpare", desc := "()I" } : Jvm.MethodName) prog_1_method_63_code (2 : Nat) (Option.some Jvm.ClassFile.FieldType.int)) ∈ zTs := zTs_b3 56 rfl rfl
theorem zw539 : (Jvm.Cond.instanceMethod ({ cls := "RockingHorse$Rule", name := "read", desc := "(LRockingHorse$Text;)I" } : Jvm.MethodName)) ∈ zTs := zTs_b3 59 rfl rfl
theorem zw540 : (Jvm.Cond.code ({ cls := "RockingHorse$Rule", name := "read", desc := "(LRockingHorse$Text;)I" } : Jvm.MethodName) prog_5_method_4_code (6 : Nat) (Option.some Jvm.ClassFile.FieldType.int)) ∈ zTs := zTs_b3 60 rfl rfl
theorem zw541 : (Jvm.Cond.methodLink "RockingHorse$Rule" (75 : Nat) ({ cls := "java/lang/Math", name := "min", desc := "(II)I" } : Jvm.MethodName)) ∈ zTs := zTs_b3 61 rfl rfl
theorem zw549 : (Jvm.Cond.instanceMethod ({ cls := "RockingHorse$House", name := "has", desc := "(I)Z" } : Jvm.MethodName)) ∈ zTs := zTs_b3 69 rfl rfl
theorem zw550 : (Jvm.Cond.code ({ cls := "RockingHorse$House", name := "has", desc := "(I)Z" } : Jvm.MethodName) prog_2_method_2_code (2 : Nat) (Option.some Jvm.ClassFile.FieldType.boolean)) ∈ zTs := zTs_b3 70 rfl rfl
theorem zw551 : (Jvm.Cond.methodLink "RockingHorse" (134 : Nat) ({ cls := "RockingHorse", name := "isHour", desc := "(I)Z" } : Jvm.MethodName)) ∈ zTs := zTs_b3 71 rfl rfl
theorem zw552 : (Jvm.Cond.static ({ cls := "RockingHorse", name := "isHour", desc := "(I)Z" } : Jvm.MethodName)) ∈ zTs := zTs_b3 72 rfl rfl
theorem zw553 : (Jvm.Cond.code ({ cls := "RockingHorse", name := "isHour", desc := "(I)Z" } : Jvm.MethodName) prog_1_method_52_code (1 : Nat) (Option.some Jvm.ClassFile.FieldType.boolean)) ∈ zTs := zTs_b3 73 rfl rfl
theorem zw554 : (Jvm.Cond.methodLink "RockingHorse" (137 : Nat) ({ cls := "RockingHorse", name := "hardNow", desc := "(II)I" } : Jvm.MethodName)) ∈ zTs := zTs_b3 74 rfl rfl
theorem zw556 : (Jvm.Cond.instanceMethod ({ cls := "RockingHorse", name := "hardNow", desc := "(II)I" } : Jvm.MethodName)) ∈ zTs := zTs_b3 76 rfl rfl
theorem zw557 : (Jvm.Cond.code ({ cls := "RockingHorse", name := "hardNow", desc := "(II)I" } : Jvm.MethodName) prog_1_method_61_code (3 : Nat) (Option.some Jvm.ClassFile.FieldType.int)) ∈ zTs := zTs_b3 77 rfl rfl
theorem zw560 : (Jvm.Cond.instanceMethod ({ cls := "RockingHorse$House", name := "hardBy", desc := "(LRockingHorse$Rule;LRockingHorse$State;II)I" } : Jvm.MethodName)) ∈ zTs := zTs_b3 80 rfl rfl
theorem zw561 : (Jvm.Cond.code ({ cls := "RockingHorse$House", name := "hardBy", desc := "(LRockingHorse$Rule;LRockingHorse$State;II)I" } : Jvm.MethodName) prog_2_method_11_code (5 : Nat) (Option.some Jvm.ClassFile.FieldType.int)) ∈ zTs := zTs_b3 81 rfl rfl
theorem zw562 : (Jvm.Cond.methodLink "RockingHorse$House" (90 : Nat) ({ cls := "java/lang/Integer", name := "bitCount", desc := "(I)I" } : Jvm.MethodName)) ∈ zTs := zTs_b3 82 rfl rfl
theorem zw563 : (Jvm.Cond.static ({ cls := "java/lang/Integer", name := "bitCount", desc := "(I)I" } : Jvm.MethodName)) ∈ zTs := zTs_b3 83 rfl rfl
theorem zw564 : (Jvm.Cond.code ({ cls := "java/lang/Integer", name := "bitCount", desc := "(I)I" } : Jvm.MethodName) prog_16_method_49_code (1 : Nat) (Option.some Jvm.ClassFile.FieldType.int)) ∈ zTs := zTs_b3 84 rfl rfl
theorem zw565 : (Jvm.Cond.constant "java/lang/Integer" (265 : Nat) (Int32.ofInt (.ofNat 1431655765))) ∈ zTs := zTs_b3 85 rfl rfl
theorem zw566 : (Jvm.Cond.constant "java/lang/Integer" (266 : Nat) (Int32.ofInt (.ofNat 858993459))) ∈ zTs := zTs_b3 86 rfl rfl
theorem zw567 : (Jvm.Cond.constant "java/lang/Integer" (267 : Nat) (Int32.ofInt (.ofNat 252645135))) ∈ zTs := zTs_b3 87 rfl rfl
theorem zw570 : (Jvm.Cond.instanceMethod ({ cls := "RockingHorse$Rule", name := "value", desc := "([I)I" } : Jvm.MethodName)) ∈ zTs := zTs_b3 90 rfl rfl
theorem zw571 : (Jvm.Cond.code ({ cls := "RockingHorse$Rule", name := "value", desc := "([I)I" } : Jvm.MethodName) prog_5_method_14_code (5 : Nat) (Option.some Jvm.ClassFile.FieldType.int)) ∈ zTs := zTs_b3 91 rfl rfl
theorem zw572 : (Jvm.Cond.methodLink "RockingHorse$Rule" (115 : Nat) ({ cls := "RockingHorse$Rule", name := "push", desc := "(II)I" } : Jvm.MethodName)) ∈ zTs := zTs_b3 92 rfl rfl
theorem zw574 : (Jvm.Cond.instanceMethod ({ cls := "RockingHorse$Rule", name := "push", desc := "(II)I" } : Jvm.MethodName)) ∈ zTs := zTs_b3 94 rfl rfl
theorem zw575 : (Jvm.Cond.code ({ cls := "RockingHorse$Rule", name := "push", desc := "(II)I" } : Jvm.MethodName) prog_5_method_15_code (3 : Nat) (Option.some Jvm.ClassFile.FieldType.int)) ∈ zTs := zTs_b3 95 rfl rfl
theorem zw576 : (Jvm.Cond.methodLink "RockingHorse$Rule" (118 : Nat) ({ cls := "RockingHorse$Rule", name := "reckon", desc := "(III)I" } : Jvm.MethodName)) ∈ zTs := zTs_b3 96 rfl rfl
theorem zw577 : (Jvm.Cond.static ({ cls := "RockingHorse$Rule", name := "reckon", desc := "(III)I" } : Jvm.MethodName)) ∈ zTs := zTs_b3 97 rfl rfl
theorem zw578 : (Jvm.Cond.code ({ cls := "RockingHorse$Rule", name := "reckon", desc := "(III)I" } : Jvm.MethodName) prog_5_method_16_code (3 : Nat) (Option.some Jvm.ClassFile.FieldType.int)) ∈ zTs := zTs_b3 98 rfl rfl
theorem zw580 : (Jvm.Cond.static ({ cls := "RockingHorse", name := "between", desc := "(III)I" } : Jvm.MethodName)) ∈ zTs := zTs_b3 100 rfl rfl
theorem zw581 : (Jvm.Cond.code ({ cls := "RockingHorse", name := "between", desc := "(III)I" } : Jvm.MethodName) prog_1_method_54_code (3 : Nat) (Option.some Jvm.ClassFile.FieldType.int)) ∈ zTs := zTs_b3 101 rfl rfl
theorem zw582 : (Jvm.Cond.methodLink "RockingHorse" (400 : Nat) ({ cls := "java/lang/Math", name := "min", desc := "(II)I" } : Jvm.MethodName)) ∈ zTs := zTs_b3 102 rfl rfl
theorem zw583 : (Jvm.Cond.methodLink "RockingHorse" (323 : Nat) ({ cls := "java/lang/Math", name := "max", desc := "(II)I" } : Jvm.MethodName)) ∈ zTs := zTs_b3 103 rfl rfl
theorem zw592 : (Jvm.Cond.methodLink "RockingHorse" (148 : Nat) ({ cls := "java/util/Arrays", name := "fill", desc := "([II)V" } : Jvm.MethodName)) ∈ zTs := zTs_b3 112 rfl rfl
theorem zw593 : (Jvm.Cond.methodLink "RockingHorse" (157 : Nat) ({ cls := "RockingHorse", name := "entry", desc := "(II)I" } : Jvm.MethodName)) ∈ zTs := zTs_b3 113 rfl rfl
theorem zw594 : (Jvm.Cond.static ({ cls := "RockingHorse", name := "entry", desc := "(II)I" } : Jvm.MethodName)) ∈ zTs := zTs_b3 114 rfl rfl
theorem zw595 : (Jvm.Cond.code ({ cls := "RockingHorse", name := "entry", desc := "(II)I" } : Jvm.MethodName) prog_1_method_56_code (2 : Nat) (Option.some Jvm.ClassFile.FieldType.int)) ∈ zTs := zTs_b3 115 rfl rfl
theorem zw596 : (Jvm.Cond.methodLink "RockingHorse" (160 : Nat) ({ cls := "RockingHorse", name := "between", desc := "(III)I" } : Jvm.MethodName)) ∈ zTs := zTs_b3 116 rfl rfl
theorem zw599 : (Jvm.Cond.instanceMethod ({ cls := "RockingHorse$State", name := "tiredOfAll", desc := "()I" } : Jvm.MethodName)) ∈ zTs := zTs_b3 119 rfl rfl
theorem zw600 : (Jvm.Cond.code ({ cls := "RockingHorse$State", name := "tiredOfAll", desc := "()I" } : Jvm.MethodName) prog_7_method_6_code (3 : Nat) (Option.some Jvm.ClassFile.FieldType.int)) ∈ zTs := zTs_b3 120 rfl rfl
theorem zw605 : (Jvm.Cond.methodLink "RockingHorse" (167 : Nat) ({ cls := "RockingHorse", name := "rotaFault", desc := "()I" } : Jvm.MethodName)) ∈ zTs := zTs_b3 125 rfl rfl
theorem zw607 : (Jvm.Cond.instanceMethod ({ cls := "RockingHorse", name := "rotaFault", desc := "()I" } : Jvm.MethodName)) ∈ zTs := zTs_b3 127 rfl rfl
theorem zw608 : (Jvm.Cond.code ({ cls := "RockingHorse", name := "rotaFault", desc := "()I" } : Jvm.MethodName) prog_1_method_64_code (4 : Nat) (Option.some Jvm.ClassFile.FieldType.int)) ∈ zTs := zTs_b3 128 rfl rfl
theorem zw610 : (Jvm.Cond.methodLink "RockingHorse" (414 : Nat) ({ cls := "RockingHorse", name := "isDigit", desc := "(I)Z" } : Jvm.MethodName)) ∈ zTs := zTs_b3 130 rfl rfl
theorem zw613 : (Jvm.Cond.instanceMethod ({ cls := "RockingHorse$State", name := "copy", desc := "(LRockingHorse$State;)V" } : Jvm.MethodName)) ∈ zTs := zTs_b3 133 rfl rfl
theorem zw614 : (Jvm.Cond.code ({ cls := "RockingHorse$State", name := "copy", desc := "(LRockingHorse$State;)V" } : Jvm.MethodName) prog_7_method_2_code (2 : Nat) (Option.none : Option Jvm.ClassFile.FieldType)) ∈ zTs := zTs_b3 134 rfl rfl
theorem zw615 : (Jvm.Cond.methodLink "RockingHorse$State" (24 : Nat) ({ cls := "java/lang/System", name := "arraycopy", desc := "(Ljava/lang/Object;ILjava/lang/Object;II)V" } : Jvm.MethodName)) ∈ zTs := zTs_b3 135 rfl rfl
theorem zw616 : (Jvm.Cond.static ({ cls := "java/lang/System", name := "arraycopy", desc := "(Ljava/lang/Object;ILjava/lang/Object;II)V" } : Jvm.MethodName)) ∈ zTs := zTs_b3 136 rfl rfl
theorem zw617 : (Jvm.Cond.native ({ cls := "java/lang/System", name := "arraycopy", desc := "(Ljava/lang/Object;ILjava/lang/Object;II)V" } : Jvm.MethodName)) ∈ zTs := zTs_b3 137 rfl rfl
theorem zw618 : (Jvm.Cond.methodLink "RockingHorse" (174 : Nat) ({ cls := "RockingHorse", name := "takeRota", desc := "()I" } : Jvm.MethodName)) ∈ zTs := zTs_b3 138 rfl rfl
theorem zw620 : (Jvm.Cond.instanceMethod ({ cls := "RockingHorse", name := "takeRota", desc := "()I" } : Jvm.MethodName)) ∈ zTs := zTs_b3 140 rfl rfl
theorem zw621 : (Jvm.Cond.code ({ cls := "RockingHorse", name := "takeRota", desc := "()I" } : Jvm.MethodName) prog_1_method_65_code (4 : Nat) (Option.some Jvm.ClassFile.FieldType.int)) ∈ zTs := zTs_b3 141 rfl rfl
theorem zw624 : (Jvm.Cond.instanceMethod ({ cls := "RockingHorse$Past", name := "push", desc := "(LRockingHorse$State;)V" } : Jvm.MethodName)) ∈ zTs := zTs_b3 144 rfl rfl
theorem zw625 : (Jvm.Cond.code ({ cls := "RockingHorse$Past", name := "push", desc := "(LRockingHorse$State;)V" } : Jvm.MethodName) prog_4_method_3_code (2 : Nat) (Option.none : Option Jvm.ClassFile.FieldType)) ∈ zTs := zTs_b3 145 rfl rfl
theorem zw627 : (Jvm.Cond.methodLink "RockingHorse$Past" (29 : Nat) ({ cls := "java/lang/Math", name := "min", desc := "(II)I" } : Jvm.MethodName)) ∈ zTs := zTs_b3 147 rfl rfl
theorem zw634 : (Jvm.Cond.instanceMethod ({ cls := "RockingHorse$House", name := "isSomebodyOrNobody", desc := "(I)Z" } : Jvm.MethodName)) ∈ zTs := zTs_b3 154 rfl rfl
theorem zw635 : (Jvm.Cond.code ({ cls := "RockingHorse$House", name := "isSomebodyOrNobody", desc := "(I)Z" } : Jvm.MethodName) prog_2_method_3_code (2 : Nat) (Option.some Jvm.ClassFile.FieldType.boolean)) ∈ zTs := zTs_b3 155 rfl rfl
theorem zw636 : (Jvm.Cond.methodLink "RockingHorse$House" (47 : Nat) ({ cls := "RockingHorse$House", name := "has", desc := "(I)Z" } : Jvm.MethodName)) ∈ zTs := zTs_b3 156 rfl rfl
theorem zw643 : (Jvm.Cond.instanceMethod ({ cls := "RockingHorse$State", name := "turnIll", desc := "(I)V" } : Jvm.MethodName)) ∈ zTs := zTs_b3 163 rfl rfl
theorem zw644 : (Jvm.Cond.code ({ cls := "RockingHorse$State", name := "turnIll", desc := "(I)V" } : Jvm.MethodName) prog_7_method_4_code (2 : Nat) (Option.none : Option Jvm.ClassFile.FieldType)) ∈ zTs := zTs_b3 164 rfl rfl
theorem zw645 : (Jvm.Cond.methodLink "RockingHorse" (193 : Nat) ({ cls := "java/lang/Integer", name := "bitCount", desc := "(I)I" } : Jvm.MethodName)) ∈ zTs := zTs_b3 165 rfl rfl
theorem zw652 : (Jvm.Cond.instanceMethod ({ cls := "RockingHorse$House", name := "passAll", desc := "(LRockingHorse$State;I)V" } : Jvm.MethodName)) ∈ zTs := zTs_b3 172 rfl rfl
theorem zw653 : (Jvm.Cond.code ({ cls := "RockingHorse$House", name := "passAll", desc := "(LRockingHorse$State;I)V" } : Jvm.MethodName) prog_2_method_15_code (4 : Nat) (Option.none : Option Jvm.ClassFile.FieldType)) ∈ zTs := zTs_b3 173 rfl rfl
theorem zw654 : (Jvm.Cond.methodLink "RockingHorse$House" (145 : Nat) ({ cls := "RockingHorse$House", name := "pass", desc := "(LRockingHorse$State;)V" } : Jvm.MethodName)) ∈ zTs := zTs_b3 174 rfl rfl
theorem zw656 : (Jvm.Cond.instanceMethod ({ cls := "RockingHorse$House", name := "pass", desc := "(LRockingHorse$State;)V" } : Jvm.MethodName)) ∈ zTs := zTs_b3 176 rfl rfl
theorem zw657 : (Jvm.Cond.code ({ cls := "RockingHorse$House", name := "pass", desc := "(LRockingHorse$State;)V" } : Jvm.MethodName) prog_2_method_14_code (4 : Nat) (Option.none : Option Jvm.ClassFile.FieldType)) ∈ zTs := zTs_b3 177 rfl rfl
theorem zw658 : (Jvm.Cond.methodLink "RockingHorse$House" (131 : Nat) ({ cls := "RockingHorse$House", name := "watch", desc := "(LRockingHorse$State;)V" } : Jvm.MethodName)) ∈ zTs := zTs_b3 178 rfl rfl
theorem zw660 : (Jvm.Cond.instanceMethod ({ cls := "RockingHorse$House", name := "watch", desc := "(LRockingHorse$State;)V" } : Jvm.MethodName)) ∈ zTs := zTs_b3 180 rfl rfl
theorem zw661 : (Jvm.Cond.code ({ cls := "RockingHorse$House", name := "watch", desc := "(LRockingHorse$State;)V" } : Jvm.MethodName) prog_2_method_13_code (5 : Nat) (Option.none : Option Jvm.ClassFile.FieldType)) ∈ zTs := zTs_b3 181 rfl rfl
theorem zw662 : (Jvm.Cond.methodLink "RockingHorse$House" (111 : Nat) ({ cls := "java/util/Arrays", name := "fill", desc := "([II)V" } : Jvm.MethodName)) ∈ zTs := zTs_b3 182 rfl rfl
theorem zw663 : (Jvm.Cond.methodLink "RockingHorse$House" (120 : Nat) ({ cls := "RockingHorse$House", name := "isAble", desc := "(LRockingHorse$State;II)Z" } : Jvm.MethodName)) ∈ zTs := zTs_b3 183 rfl rfl
theorem zw665 : (Jvm.Cond.instanceMethod ({ cls := "RockingHorse$House", name := "isAble", desc := "(LRockingHorse$State;II)Z" } : Jvm.MethodName)) ∈ zTs := zTs_b3 185 rfl rfl
theorem zw666 : (Jvm.Cond.code ({ cls := "RockingHorse$House", name := "isAble", desc := "(LRockingHorse$State;II)Z" } : Jvm.MethodName) prog_2_method_12_code (4 : Nat) (Option.some Jvm.ClassFile.FieldType.boolean)) ∈ zTs := zTs_b3 186 rfl rfl
theorem zw669 : (Jvm.Cond.instanceMethod ({ cls := "RockingHorse$State", name := "isIll", desc := "(I)Z" } : Jvm.MethodName)) ∈ zTs := zTs_b3 189 rfl rfl
theorem zw670 : (Jvm.Cond.code ({ cls := "RockingHorse$State", name := "isIll", desc := "(I)Z" } : Jvm.MethodName) prog_7_method_3_code (2 : Nat) (Option.some Jvm.ClassFile.FieldType.boolean)) ∈ zTs := zTs_b3 190 rfl rfl
theorem zw671 : (Jvm.Cond.methodLink "RockingHorse$House" (124 : Nat) ({ cls := "RockingHorse$House", name := "areTwo", desc := "(II)Z" } : Jvm.MethodName)) ∈ zTs := zTs_b3 191 rfl rfl
theorem zw673 : (Jvm.Cond.instanceMethod ({ cls := "RockingHorse$House", name := "areTwo", desc := "(II)Z" } : Jvm.MethodName)) ∈ zTs := zTs_b3 193 rfl rfl
theorem zw674 : (Jvm.Cond.code ({ cls := "RockingHorse$House", name := "areTwo", desc := "(II)Z" } : Jvm.MethodName) prog_2_method_4_code (3 : Nat) (Option.some Jvm.ClassFile.FieldType.boolean)) ∈ zTs := zTs_b3 194 rfl rfl
theorem zw675 : (Jvm.Cond.methodLink "RockingHorse$House" (128 : Nat) ({ cls := "RockingHorse$House", name := "differ", desc := "(II)I" } : Jvm.MethodName)) ∈ zTs := zTs_b3 195 rfl rfl
theorem zw677 : (Jvm.Cond.instanceMethod ({ cls := "RockingHorse$House", name := "differ", desc := "(II)I" } : Jvm.MethodName)) ∈ zTs := zTs_b3 197 rfl rfl
theorem zw678 : (Jvm.Cond.code ({ cls := "RockingHorse$House", name := "differ", desc := "(II)I" } : Jvm.MethodName) prog_2_method_5_code (3 : Nat) (Option.some Jvm.ClassFile.FieldType.int)) ∈ zTs := zTs_b3 198 rfl rfl
theorem zw679 : (Jvm.Cond.methodLink "RockingHorse$House" (51 : Nat) ({ cls := "java/lang/Math", name := "abs", desc := "(I)I" } : Jvm.MethodName)) ∈ zTs := zTs_b3 199 rfl rfl
theorem zw680 : (Jvm.Cond.static ({ cls := "java/lang/Math", name := "abs", desc := "(I)I" } : Jvm.MethodName)) ∈ zTs := zTs_b3 200 rfl rfl
theorem zw681 : (Jvm.Cond.code ({ cls := "java/lang/Math", name := "abs", desc := "(I)I" } : Jvm.MethodName) prog_17_method_59_code (1 : Nat) (Option.some Jvm.ClassFile.FieldType.int)) ∈ zTs := zTs_b3 201 rfl rfl
theorem zw682 : (Jvm.Cond.methodLink "RockingHorse$House" (135 : Nat) ({ cls := "RockingHorse$House", name := "hardBy", desc := "(LRockingHorse$Rule;LRockingHorse$State;II)I" } : Jvm.MethodName)) ∈ zTs := zTs_b3 202 rfl rfl
theorem zw685 : (Jvm.Cond.instanceMethod ({ cls := "RockingHorse$Numbers", name := "tell", desc := "(JJ)V" } : Jvm.MethodName)) ∈ zTs := zTs_b3 205 rfl rfl
theorem zw686 : (Jvm.Cond.code ({ cls := "RockingHorse$Numbers", name := "tell", desc := "(JJ)V" } : Jvm.MethodName) prog_3_method_5_code (5 : Nat) (Option.none : Option Jvm.ClassFile.FieldType)) ∈ zTs := zTs_b3 206 rfl rfl
theorem zw687 : (Jvm.Cond.methodLink "RockingHorse$Numbers" (19 : Nat) ({ cls := "RockingHorse$Numbers", name := "clear", desc := "()V" } : Jvm.MethodName)) ∈ zTs := zTs_b3 207 rfl rfl
theorem zw689 : (Jvm.Cond.instanceMethod ({ cls := "RockingHorse$Numbers", name := "clear", desc := "()V" } : Jvm.MethodName)) ∈ zTs := zTs_b3 209 rfl rfl
theorem zw690 : (Jvm.Cond.code ({ cls := "RockingHorse$Numbers", name := "clear", desc := "()V" } : Jvm.MethodName) prog_3_method_2_code (1 : Nat) (Option.none : Option Jvm.ClassFile.FieldType)) ∈ zTs := zTs_b3 210 rfl rfl
theorem zw691 : (Jvm.Cond.methodLink "RockingHorse$Numbers" (22 : Nat) ({ cls := "RockingHorse$Numbers", name := "add", desc := "(J)V" } : Jvm.MethodName)) ∈ zTs := zTs_b3 211 rfl rfl
theorem zw693 : (Jvm.Cond.instanceMethod ({ cls := "RockingHorse$Numbers", name := "add", desc := "(J)V" } : Jvm.MethodName)) ∈ zTs := zTs_b3 213 rfl rfl
theorem zw694 : (Jvm.Cond.code ({ cls := "RockingHorse$Numbers", name := "add", desc := "(J)V" } : Jvm.MethodName) prog_3_method_3_code (3 : Nat) (Option.none : Option Jvm.ClassFile.FieldType)) ∈ zTs := zTs_b3 214 rfl rfl
theorem zw699 : (Jvm.Cond.methodLink "RockingHorse" (212 : Nat) ({ cls := "RockingHorse", name := "yearFault", desc := "()I" } : Jvm.MethodName)) ∈ zTs := zTs_b3 219 rfl rfl
theorem zw701 : (Jvm.Cond.instanceMethod ({ cls := "RockingHorse", name := "yearFault", desc := "()I" } : Jvm.MethodName)) ∈ zTs := zTs_b3 221 rfl rfl
theorem zw702 : (Jvm.Cond.code ({ cls := "RockingHorse", name := "yearFault", desc := "()I" } : Jvm.MethodName) prog_1_method_67_code (7 : Nat) (Option.some Jvm.ClassFile.FieldType.int)) ∈ zTs := zTs_b3 222 rfl rfl
theorem zw703 : (Jvm.Cond.methodLink "RockingHorse" (225 : Nat) ({ cls := "RockingHorse", name := "actSigns", desc := "(I)I" } : Jvm.MethodName)) ∈ zTs := zTs_b3 223 rfl rfl
theorem zw704 : (Jvm.Cond.static ({ cls := "RockingHorse", name := "actSigns", desc := "(I)I" } : Jvm.MethodName)) ∈ zTs := zTs_b3 224 rfl rfl
theorem zw705 : (Jvm.Cond.code ({ cls := "RockingHorse", name := "actSigns", desc := "(I)I" } : Jvm.MethodName) prog_1_method_68_code (1 : Nat) (Option.some Jvm.ClassFile.FieldType.int)) ∈ zTs := zTs_b3 225 rfl rfl
theorem zw706 : (Jvm.Cond.methodLink "RockingHorse" (221 : Nat) ({ cls := "RockingHorse", name := "act", desc := "(III)Z" } : Jvm.MethodName)) ∈ zTs := zTs_b3 226 rfl rfl
theorem zw708 : (Jvm.Cond.instanceMethod ({ cls := "RockingHorse", name := "act", desc := "(III)Z" } : Jvm.MethodName)) ∈ zTs := zTs_b3 228 rfl rfl
theorem zw709 : (Jvm.Cond.code ({ cls := "RockingHorse", name := "act", desc := "(III)Z" } : Jvm.MethodName) prog_1_method_69_code (6 : Nat) (Option.some Jvm.ClassFile.FieldType.boolean)) ∈ zTs := zTs_b3 229 rfl rfl
theorem zw710 : (Jvm.Cond.methodLink "RockingHorse" (417 : Nat) ({ cls := "RockingHorse", name := "actIll", desc := "(I)Z" } : Jvm.MethodName)) ∈ zTs := zTs_b3 230 rfl rfl
theorem zw712 : (Jvm.Cond.instanceMethod ({ cls := "RockingHorse", name := "actIll", desc := "(I)Z" } : Jvm.MethodName)) ∈ zTs := zTs_b3 232 rfl rfl
theorem zw713 : (Jvm.Cond.code ({ cls := "RockingHorse", name := "actIll", desc := "(I)Z" } : Jvm.MethodName) prog_1_method_70_code (2 : Nat) (Option.some Jvm.ClassFile.FieldType.boolean)) ∈ zTs := zTs_b3 233 rfl rfl
theorem zw714 : (Jvm.Cond.methodLink "RockingHorse" (420 : Nat) ({ cls := "RockingHorse", name := "actGive", desc := "(II)Z" } : Jvm.MethodName)) ∈ zTs := zTs_b3 234 rfl rfl
theorem zw716 : (Jvm.Cond.instanceMethod ({ cls := "RockingHorse", name := "actGive", desc := "(II)Z" } : Jvm.MethodName)) ∈ zTs := zTs_b3 236 rfl rfl
theorem zw717 : (Jvm.Cond.code ({ cls := "RockingHorse", name := "actGive", desc := "(II)Z" } : Jvm.MethodName) prog_1_method_71_code (3 : Nat) (Option.some Jvm.ClassFile.FieldType.boolean)) ∈ zTs := zTs_b3 237 rfl rfl
theorem zw718 : (Jvm.Cond.methodLink "RockingHorse" (423 : Nat) ({ cls := "RockingHorse", name := "actExchange", desc := "(II)Z" } : Jvm.MethodName)) ∈ zTs := zTs_b3 238 rfl rfl
theorem zw720 : (Jvm.Cond.instanceMethod ({ cls := "RockingHorse", name := "actExchange", desc := "(II)Z" } : Jvm.MethodName)) ∈ zTs := zTs_b4 0 rfl rfl
theorem zw721 : (Jvm.Cond.code ({ cls := "RockingHorse", name := "actExchange", desc := "(II)Z" } : Jvm.MethodName) prog_1_method_72_code (4 : Nat) (Option.some Jvm.ClassFile.FieldType.boolean)) ∈ zTs := zTs_b4 1 rfl rfl
theorem zw729 : (Jvm.Cond.instanceMethod ({ cls := "RockingHorse$Past", name := "pop", desc := "(LRockingHorse$State;)I" } : Jvm.MethodName)) ∈ zTs := zTs_b4 9 rfl rfl
theorem zw730 : (Jvm.Cond.code ({ cls := "RockingHorse$Past", name := "pop", desc := "(LRockingHorse$State;)I" } : Jvm.MethodName) prog_4_method_4_code (2 : Nat) (Option.some Jvm.ClassFile.FieldType.int)) ∈ zTs := zTs_b4 10 rfl rfl
theorem zw741 : (Jvm.Cond.methodLink "RockingHorse" (244 : Nat) ({ cls := "RockingHorse", name := "lowest", desc := "(I)I" } : Jvm.MethodName)) ∈ zTs := zTs_b4 21 rfl rfl
theorem zw742 : (Jvm.Cond.static ({ cls := "RockingHorse", name := "lowest", desc := "(I)I" } : Jvm.MethodName)) ∈ zTs := zTs_b4 22 rfl rfl
theorem zw743 : (Jvm.Cond.code ({ cls := "RockingHorse", name := "lowest", desc := "(I)I" } : Jvm.MethodName) prog_1_method_55_code (1 : Nat) (Option.some Jvm.ClassFile.FieldType.int)) ∈ zTs := zTs_b4 23 rfl rfl
theorem zw746 : (Jvm.Cond.instanceMethod ({ cls := "RockingHorse$Numbers", name := "tell", desc := "(J)V" } : Jvm.MethodName)) ∈ zTs := zTs_b4 26 rfl rfl
theorem zw747 : (Jvm.Cond.code ({ cls := "RockingHorse$Numbers", name := "tell", desc := "(J)V" } : Jvm.MethodName) prog_3_method_4_code (3 : Nat) (Option.none : Option Jvm.ClassFile.FieldType)) ∈ zTs := zTs_b4 27 rfl rfl
theorem zw754 : (Jvm.Cond.instanceMethod ({ cls := "RockingHorse$State", name := "mostTired", desc := "()I" } : Jvm.MethodName)) ∈ zTs := zTs_b4 34 rfl rfl
theorem zw755 : (Jvm.Cond.code ({ cls := "RockingHorse$State", name := "mostTired", desc := "()I" } : Jvm.MethodName) prog_7_method_7_code (3 : Nat) (Option.some Jvm.ClassFile.FieldType.int)) ∈ zTs := zTs_b4 35 rfl rfl
theorem zw756 : (Jvm.Cond.methodLink "RockingHorse$State" (43 : Nat) ({ cls := "java/lang/Math", name := "max", desc := "(II)I" } : Jvm.MethodName)) ∈ zTs := zTs_b4 36 rfl rfl
theorem zw765 : (Jvm.Cond.methodLink "RockingHorse" (253 : Nat) ({ cls := "RockingHorse", name := "gapsByTrade", desc := "(II)I" } : Jvm.MethodName)) ∈ zTs := zTs_b4 45 rfl rfl
theorem zw767 : (Jvm.Cond.instanceMethod ({ cls := "RockingHorse", name := "gapsByTrade", desc := "(II)I" } : Jvm.MethodName)) ∈ zTs := zTs_b4 47 rfl rfl
theorem zw768 : (Jvm.Cond.code ({ cls := "RockingHorse", name := "gapsByTrade", desc := "(II)I" } : Jvm.MethodName) prog_1_method_66_code (5 : Nat) (Option.some Jvm.ClassFile.FieldType.int)) ∈ zTs := zTs_b4 48 rfl rfl
theorem zw774 : (Jvm.Cond.methodLink "RockingHorse" (258 : Nat) ({ cls := "RockingHorse", name := "easiestWithout", desc := "(I)J" } : Jvm.MethodName)) ∈ zTs := zTs_b4 54 rfl rfl
theorem zw776 : (Jvm.Cond.instanceMethod ({ cls := "RockingHorse", name := "easiestWithout", desc := "(I)J" } : Jvm.MethodName)) ∈ zTs := zTs_b4 56 rfl rfl
theorem zw777 : (Jvm.Cond.code ({ cls := "RockingHorse", name := "easiestWithout", desc := "(I)J" } : Jvm.MethodName) prog_1_method_80_code (2 : Nat) (Option.some Jvm.ClassFile.FieldType.long)) ∈ zTs := zTs_b4 57 rfl rfl
theorem zw778 : (Jvm.Cond.methodLink "RockingHorse" (268 : Nat) ({ cls := "RockingHorse", name := "openSeats", desc := "(I)V" } : Jvm.MethodName)) ∈ zTs := zTs_b4 58 rfl rfl
theorem zw780 : (Jvm.Cond.instanceMethod ({ cls := "RockingHorse", name := "openSeats", desc := "(I)V" } : Jvm.MethodName)) ∈ zTs := zTs_b4 60 rfl rfl
theorem zw781 : (Jvm.Cond.code ({ cls := "RockingHorse", name := "openSeats", desc := "(I)V" } : Jvm.MethodName) prog_1_method_75_code (4 : Nat) (Option.none : Option Jvm.ClassFile.FieldType)) ∈ zTs := zTs_b4 61 rfl rfl
theorem zw784 : (Jvm.Cond.instanceMethod ({ cls := "RockingHorse$Seats", name := "open", desc := "(I)V" } : Jvm.MethodName)) ∈ zTs := zTs_b4 64 rfl rfl
theorem zw785 : (Jvm.Cond.code ({ cls := "RockingHorse$Seats", name := "open", desc := "(I)V" } : Jvm.MethodName) prog_6_method_4_code (3 : Nat) (Option.none : Option Jvm.ClassFile.FieldType)) ∈ zTs := zTs_b4 65 rfl rfl
theorem zw786 : (Jvm.Cond.constantLong "RockingHorse$Seats" (57 : Nat) (Int64.ofInt (.ofNat 1152921504606846975))) ∈ zTs := zTs_b4 66 rfl rfl
theorem zw787 : (Jvm.Cond.methodLink "RockingHorse$Seats" (63 : Nat) ({ cls := "java/util/Arrays", name := "fill", desc := "([II)V" } : Jvm.MethodName)) ∈ zTs := zTs_b4 67 rfl rfl
theorem zw788 : (Jvm.Cond.methodLink "RockingHorse$Seats" (69 : Nat) ({ cls := "java/util/Arrays", name := "fill", desc := "([JJ)V" } : Jvm.MethodName)) ∈ zTs := zTs_b4 68 rfl rfl
theorem zw789 : (Jvm.Cond.static ({ cls := "java/util/Arrays", name := "fill", desc := "([JJ)V" } : Jvm.MethodName)) ∈ zTs := zTs_b4 69 rfl rfl
theorem zw790 : (Jvm.Cond.code ({ cls := "java/util/Arrays", name := "fill", desc := "([JJ)V" } : Jvm.MethodName) prog_26_method_101_code (5 : Nat) (Option.none : Option Jvm.ClassFile.FieldType)) ∈ zTs := zTs_b4 70 rfl rfl
theorem zw794 : (Jvm.Cond.instanceMethod ({ cls := "RockingHorse$Seats", name := "seat", desc := "(III)V" } : Jvm.MethodName)) ∈ zTs := zTs_b4 74 rfl rfl
theorem zw795 : (Jvm.Cond.code ({ cls := "RockingHorse$Seats", name := "seat", desc := "(III)V" } : Jvm.MethodName) prog_6_method_5_code (4 : Nat) (Option.none : Option Jvm.ClassFile.FieldType)) ∈ zTs := zTs_b4 75 rfl rfl
theorem zw796 : (Jvm.Cond.methodLink "RockingHorse" (443 : Nat) ({ cls := "RockingHorse", name := "priceByHard", desc := "()V" } : Jvm.MethodName)) ∈ zTs := zTs_b4 76 rfl rfl
theorem zw798 : (Jvm.Cond.instanceMethod ({ cls := "RockingHorse", name := "priceByHard", desc := "()V" } : Jvm.MethodName)) ∈ zTs := zTs_b4 78 rfl rfl
theorem zw799 : (Jvm.Cond.code ({ cls := "RockingHorse", name := "priceByHard", desc := "()V" } : Jvm.MethodName) prog_1_method_77_code (3 : Nat) (Option.none : Option Jvm.ClassFile.FieldType)) ∈ zTs := zTs_b4 79 rfl rfl
theorem zw802 : (Jvm.Cond.instanceMethod ({ cls := "RockingHorse$Seats", name := "price", desc := "(III)V" } : Jvm.MethodName)) ∈ zTs := zTs_b4 82 rfl rfl
theorem zw803 : (Jvm.Cond.code ({ cls := "RockingHorse$Seats", name := "price", desc := "(III)V" } : Jvm.MethodName) prog_6_method_7_code (4 : Nat) (Option.none : Option Jvm.ClassFile.FieldType)) ∈ zTs := zTs_b4 83 rfl rfl
theorem zw804 : (Jvm.Cond.methodLink "RockingHorse$Seats" (72 : Nat) ({ cls := "RockingHorse$Seats", name := "charge", desc := "(IIJ)V" } : Jvm.MethodName)) ∈ zTs := zTs_b4 84 rfl rfl
theorem zw806 : (Jvm.Cond.instanceMethod ({ cls := "RockingHorse$Seats", name := "charge", desc := "(IIJ)V" } : Jvm.MethodName)) ∈ zTs := zTs_b4 86 rfl rfl
theorem zw807 : (Jvm.Cond.code ({ cls := "RockingHorse$Seats", name := "charge", desc := "(IIJ)V" } : Jvm.MethodName) prog_6_method_6_code (5 : Nat) (Option.none : Option Jvm.ClassFile.FieldType)) ∈ zTs := zTs_b4 87 rfl rfl
theorem zw810 : (Jvm.Cond.instanceMethod ({ cls := "RockingHorse$Seats", name := "least", desc := "()J" } : Jvm.MethodName)) ∈ zTs := zTs_b4 90 rfl rfl
theorem zw811 : (Jvm.Cond.code ({ cls := "RockingHorse$Seats", name := "least", desc := "()J" } : Jvm.MethodName) prog_6_method_11_code (2 : Nat) (Option.some Jvm.ClassFile.FieldType.long)) ∈ zTs := zTs_b4 91 rfl rfl
theorem zw812 : (Jvm.Cond.constantLong "RockingHorse$Seats" (80 : Nat) (Int64.ofInt (.ofNat 1152921504606846976))) ∈ zTs := zTs_b4 92 rfl rfl
theorem zw813 : (Jvm.Cond.methodLink "RockingHorse$Seats" (82 : Nat) ({ cls := "RockingHorse$Seats", name := "weigh", desc := "(I)V" } : Jvm.MethodName)) ∈ zTs := zTs_b4 93 rfl rfl
theorem zw815 : (Jvm.Cond.instanceMethod ({ cls := "RockingHorse$Seats", name := "weigh", desc := "(I)V" } : Jvm.MethodName)) ∈ zTs := zTs_b4 95 rfl rfl
theorem zw816 : (Jvm.Cond.code ({ cls := "RockingHorse$Seats", name := "weigh", desc := "(I)V" } : Jvm.MethodName) prog_6_method_14_code (6 : Nat) (Option.none : Option Jvm.ClassFile.FieldType)) ∈ zTs := zTs_b4 96 rfl rfl
theorem zw818 : (Jvm.Cond.methodLink "RockingHorse$Seats" (99 : Nat) ({ cls := "java/lang/Integer", name := "bitCount", desc := "(I)I" } : Jvm.MethodName)) ∈ zTs := zTs_b4 98 rfl rfl
theorem zw819 : (Jvm.Cond.methodLink "RockingHorse$Seats" (86 : Nat) ({ cls := "RockingHorse$Seats", name := "addLeast", desc := "(I)V" } : Jvm.MethodName)) ∈ zTs := zTs_b4 99 rfl rfl
theorem zw821 : (Jvm.Cond.instanceMethod ({ cls := "RockingHorse$Seats", name := "addLeast", desc := "(I)V" } : Jvm.MethodName)) ∈ zTs := zTs_b4 101 rfl rfl
theorem zw822 : (Jvm.Cond.code ({ cls := "RockingHorse$Seats", name := "addLeast", desc := "(I)V" } : Jvm.MethodName) prog_6_method_15_code (9 : Nat) (Option.none : Option Jvm.ClassFile.FieldType)) ∈ zTs := zTs_b4 102 rfl rfl
theorem zw823 : (Jvm.Cond.methodLink "RockingHorse$Seats" (89 : Nat) ({ cls := "RockingHorse$Seats", name := "addStep", desc := "(I)V" } : Jvm.MethodName)) ∈ zTs := zTs_b4 103 rfl rfl
theorem zw825 : (Jvm.Cond.instanceMethod ({ cls := "RockingHorse$Seats", name := "addStep", desc := "(I)V" } : Jvm.MethodName)) ∈ zTs := zTs_b4 105 rfl rfl
theorem zw826 : (Jvm.Cond.code ({ cls := "RockingHorse$Seats", name := "addStep", desc := "(I)V" } : Jvm.MethodName) prog_6_method_17_code (4 : Nat) (Option.none : Option Jvm.ClassFile.FieldType)) ∈ zTs := zTs_b4 106 rfl rfl
theorem zw827 : (Jvm.Cond.constantLong "RockingHorse" (262 : Nat) (Int64.ofInt (.ofNat 1152921504606846976))) ∈ zTs := zTs_b4 107 rfl rfl
theorem zw828 : (Jvm.Cond.methodLink "RockingHorse" (264 : Nat) ({ cls := "RockingHorse", name := "tellRota", desc := "(J)I" } : Jvm.MethodName)) ∈ zTs := zTs_b4 108 rfl rfl
theorem zw830 : (Jvm.Cond.instanceMethod ({ cls := "RockingHorse", name := "tellRota", desc := "(J)I" } : Jvm.MethodName)) ∈ zTs := zTs_b4 110 rfl rfl
theorem zw831 : (Jvm.Cond.code ({ cls := "RockingHorse", name := "tellRota", desc := "(J)I" } : Jvm.MethodName) prog_1_method_81_code (4 : Nat) (Option.some Jvm.ClassFile.FieldType.int)) ∈ zTs := zTs_b4 111 rfl rfl
theorem zw834 : (Jvm.Cond.static ({ cls := "RockingHorse$Seats", name := "riderIn", desc := "(JI)I" } : Jvm.MethodName)) ∈ zTs := zTs_b4 114 rfl rfl
theorem zw835 : (Jvm.Cond.code ({ cls := "RockingHorse$Seats", name := "riderIn", desc := "(JI)I" } : Jvm.MethodName) prog_6_method_2_code (3 : Nat) (Option.some Jvm.ClassFile.FieldType.int)) ∈ zTs := zTs_b4 115 rfl rfl
theorem zw837 : (Jvm.Cond.static ({ cls := "RockingHorse$Seats", name := "priceOf", desc := "(J)I" } : Jvm.MethodName)) ∈ zTs := zTs_b4 117 rfl rfl
theorem zw838 : (Jvm.Cond.code ({ cls := "RockingHorse$Seats", name := "priceOf", desc := "(J)I" } : Jvm.MethodName) prog_6_method_3_code (2 : Nat) (Option.some Jvm.ClassFile.FieldType.int)) ∈ zTs := zTs_b4 118 rfl rfl
theorem zw843 : (Jvm.Cond.constantLong "RockingHorse" (279 : Nat) (Int64.ofInt (.ofNat 255))) ∈ zTs := zTs_b4 123 rfl rfl
theorem zw850 : (Jvm.Cond.instanceMethod ({ cls := "RockingHorse$Seats", name := "canHold", desc := "(I)Z" } : Jvm.MethodName)) ∈ zTs := zTs_b4 130 rfl rfl
theorem zw851 : (Jvm.Cond.code ({ cls := "RockingHorse$Seats", name := "canHold", desc := "(I)Z" } : Jvm.MethodName) prog_6_method_13_code (2 : Nat) (Option.some Jvm.ClassFile.FieldType.boolean)) ∈ zTs := zTs_b4 131 rfl rfl
theorem zw856 : (Jvm.Cond.methodLink "RockingHorse" (287 : Nat) ({ cls := "RockingHorse", name := "tellWays", desc := "()I" } : Jvm.MethodName)) ∈ zTs := zTs_b4 136 rfl rfl
theorem zw858 : (Jvm.Cond.instanceMethod ({ cls := "RockingHorse", name := "tellWays", desc := "()I" } : Jvm.MethodName)) ∈ zTs := zTs_b4 138 rfl rfl
theorem zw859 : (Jvm.Cond.code ({ cls := "RockingHorse", name := "tellWays", desc := "()I" } : Jvm.MethodName) prog_1_method_82_code (2 : Nat) (Option.some Jvm.ClassFile.FieldType.int)) ∈ zTs := zTs_b4 139 rfl rfl
theorem zw862 : (Jvm.Cond.instanceMethod ({ cls := "RockingHorse$Seats", name := "ways", desc := "()I" } : Jvm.MethodName)) ∈ zTs := zTs_b4 142 rfl rfl
theorem zw863 : (Jvm.Cond.code ({ cls := "RockingHorse$Seats", name := "ways", desc := "()I" } : Jvm.MethodName) prog_6_method_18_code (2 : Nat) (Option.some Jvm.ClassFile.FieldType.int)) ∈ zTs := zTs_b4 143 rfl rfl
theorem zw864 : (Jvm.Cond.methodLink "RockingHorse$Seats" (104 : Nat) ({ cls := "RockingHorse$Seats", name := "addWays", desc := "([IIII)V" } : Jvm.MethodName)) ∈ zTs := zTs_b4 144 rfl rfl
theorem zw866 : (Jvm.Cond.instanceMethod ({ cls := "RockingHorse$Seats", name := "addWays", desc := "([IIII)V" } : Jvm.MethodName)) ∈ zTs := zTs_b4 146 rfl rfl
theorem zw867 : (Jvm.Cond.code ({ cls := "RockingHorse$Seats", name := "addWays", desc := "([IIII)V" } : Jvm.MethodName) prog_6_method_19_code (9 : Nat) (Option.none : Option Jvm.ClassFile.FieldType)) ∈ zTs := zTs_b4 147 rfl rfl
theorem zw868 : (Jvm.Cond.methodLink "RockingHorse" (339 : Nat) ({ cls := "RockingHorse", name := "priceByName", desc := "()V" } : Jvm.MethodName)) ∈ zTs := zTs_b4 148 rfl rfl
theorem zw870 : (Jvm.Cond.instanceMethod ({ cls := "RockingHorse", name := "priceByName", desc := "()V" } : Jvm.MethodName)) ∈ zTs := zTs_b4 150 rfl rfl
theorem zw871 : (Jvm.Cond.code ({ cls := "RockingHorse", name := "priceByName", desc := "()V" } : Jvm.MethodName) prog_1_method_79_code (3 : Nat) (Option.none : Option Jvm.ClassFile.FieldType)) ∈ zTs := zTs_b4 151 rfl rfl
theorem zw876 : (Jvm.Cond.methodLink "RockingHorse" (290 : Nat) ({ cls := "RockingHorse", name := "priceByDifference", desc := "()V" } : Jvm.MethodName)) ∈ zTs := zTs_b4 156 rfl rfl
theorem zw878 : (Jvm.Cond.instanceMethod ({ cls := "RockingHorse", name := "priceByDifference", desc := "()V" } : Jvm.MethodName)) ∈ zTs := zTs_b4 158 rfl rfl
theorem zw879 : (Jvm.Cond.code ({ cls := "RockingHorse", name := "priceByDifference", desc := "()V" } : Jvm.MethodName) prog_1_method_78_code (3 : Nat) (Option.none : Option Jvm.ClassFile.FieldType)) ∈ zTs := zTs_b4 159 rfl rfl
theorem zw899 : (Jvm.Cond.instanceMethod ({ cls := "RockingHorse$Seats", name := "leastMost", desc := "()J" } : Jvm.MethodName)) ∈ zTs := zTs_b4 179 rfl rfl
theorem zw900 : (Jvm.Cond.code ({ cls := "RockingHorse$Seats", name := "leastMost", desc := "()J" } : Jvm.MethodName) prog_6_method_12_code (2 : Nat) (Option.some Jvm.ClassFile.FieldType.long)) ∈ zTs := zTs_b4 180 rfl rfl
theorem zw901 : (Jvm.Cond.methodLink "RockingHorse$Seats" (92 : Nat) ({ cls := "RockingHorse$Seats", name := "addLeastMost", desc := "(I)V" } : Jvm.MethodName)) ∈ zTs := zTs_b4 181 rfl rfl
theorem zw903 : (Jvm.Cond.instanceMethod ({ cls := "RockingHorse$Seats", name := "addLeastMost", desc := "(I)V" } : Jvm.MethodName)) ∈ zTs := zTs_b4 183 rfl rfl
theorem zw904 : (Jvm.Cond.code ({ cls := "RockingHorse$Seats", name := "addLeastMost", desc := "(I)V" } : Jvm.MethodName) prog_6_method_16_code (9 : Nat) (Option.none : Option Jvm.ClassFile.FieldType)) ∈ zTs := zTs_b4 184 rfl rfl
theorem zw909 : (Jvm.Cond.constantLong "RockingHorse" (311 : Nat) (Int64.ofInt (.ofNat 511))) ∈ zTs := zTs_b4 189 rfl rfl
theorem zw910 : (Jvm.Cond.methodLink "RockingHorse" (313 : Nat) ({ cls := "RockingHorse", name := "wellOnes", desc := "()I" } : Jvm.MethodName)) ∈ zTs := zTs_b4 190 rfl rfl
theorem zw912 : (Jvm.Cond.instanceMethod ({ cls := "RockingHorse", name := "wellOnes", desc := "()I" } : Jvm.MethodName)) ∈ zTs := zTs_b4 192 rfl rfl
theorem zw913 : (Jvm.Cond.code ({ cls := "RockingHorse", name := "wellOnes", desc := "()I" } : Jvm.MethodName) prog_1_method_62_code (1 : Nat) (Option.some Jvm.ClassFile.FieldType.int)) ∈ zTs := zTs_b4 193 rfl rfl
theorem zw918 : (Jvm.Cond.methodLink "RockingHorse" (317 : Nat) ({ cls := "RockingHorse", name := "leastHard", desc := "(II)I" } : Jvm.MethodName)) ∈ zTs := zTs_b4 198 rfl rfl
theorem zw920 : (Jvm.Cond.instanceMethod ({ cls := "RockingHorse", name := "leastHard", desc := "(II)I" } : Jvm.MethodName)) ∈ zTs := zTs_b4 200 rfl rfl
theorem zw921 : (Jvm.Cond.code ({ cls := "RockingHorse", name := "leastHard", desc := "(II)I" } : Jvm.MethodName) prog_1_method_83_code (6 : Nat) (Option.some Jvm.ClassFile.FieldType.int)) ∈ zTs := zTs_b4 201 rfl rfl
theorem zw927 : (Jvm.Cond.methodLink "RockingHorse" (320 : Nat) ({ cls := "RockingHorse", name := "hardestOf", desc := "(I)I" } : Jvm.MethodName)) ∈ zTs := zTs_b4 207 rfl rfl
theorem zw929 : (Jvm.Cond.instanceMethod ({ cls := "RockingHorse", name := "hardestOf", desc := "(I)I" } : Jvm.MethodName)) ∈ zTs := zTs_b4 209 rfl rfl
theorem zw930 : (Jvm.Cond.code ({ cls := "RockingHorse", name := "hardestOf", desc := "(I)I" } : Jvm.MethodName) prog_1_method_84_code (4 : Nat) (Option.some Jvm.ClassFile.FieldType.int)) ∈ zTs := zTs_b4 210 rfl rfl
theorem zw950 : (Jvm.Cond.instanceMethod ({ cls := "RockingHorse$Seats", name := "orderByWidth", desc := "([II)V" } : Jvm.MethodName)) ∈ zTs := zTs_b4 230 rfl rfl
theorem zw951 : (Jvm.Cond.code ({ cls := "RockingHorse$Seats", name := "orderByWidth", desc := "([II)V" } : Jvm.MethodName) prog_6_method_10_code (6 : Nat) (Option.none : Option Jvm.ClassFile.FieldType)) ∈ zTs := zTs_b4 231 rfl rfl
theorem zw968 : (Jvm.Cond.methodLink "RockingHorse" (348 : Nat) ({ cls := "RockingHorse", name := "openFitting", desc := "()V" } : Jvm.MethodName)) ∈ zTs := zTs_b5 8 rfl rfl
theorem zw970 : (Jvm.Cond.instanceMethod ({ cls := "RockingHorse", name := "openFitting", desc := "()V" } : Jvm.MethodName)) ∈ zTs := zTs_b5 10 rfl rfl
theorem zw971 : (Jvm.Cond.code ({ cls := "RockingHorse", name := "openFitting", desc := "()V" } : Jvm.MethodName) prog_1_method_76_code (2 : Nat) (Option.none : Option Jvm.ClassFile.FieldType)) ∈ zTs := zTs_b5 11 rfl rfl
theorem zw974 : (Jvm.Cond.instanceMethod ({ cls := "RockingHorse$Seats", name := "holdTo", desc := "(II)V" } : Jvm.MethodName)) ∈ zTs := zTs_b5 14 rfl rfl
theorem zw975 : (Jvm.Cond.code ({ cls := "RockingHorse$Seats", name := "holdTo", desc := "(II)V" } : Jvm.MethodName) prog_6_method_9_code (4 : Nat) (Option.none : Option Jvm.ClassFile.FieldType)) ∈ zTs := zTs_b5 15 rfl rfl
theorem zw976 : (Jvm.Cond.methodLink "RockingHorse$Seats" (76 : Nat) ({ cls := "RockingHorse$Seats", name := "bar", desc := "(II)V" } : Jvm.MethodName)) ∈ zTs := zTs_b5 16 rfl rfl
theorem zw978 : (Jvm.Cond.instanceMethod ({ cls := "RockingHorse$Seats", name := "bar", desc := "(II)V" } : Jvm.MethodName)) ∈ zTs := zTs_b5 18 rfl rfl
theorem zw979 : (Jvm.Cond.code ({ cls := "RockingHorse$Seats", name := "bar", desc := "(II)V" } : Jvm.MethodName) prog_6_method_8_code (3 : Nat) (Option.none : Option Jvm.ClassFile.FieldType)) ∈ zTs := zTs_b5 19 rfl rfl
theorem zw985 : (Jvm.Cond.methodLink "RockingHorse" (358 : Nat) ({ cls := "RockingHorse", name := "tellFraction", desc := "(JJ)V" } : Jvm.MethodName)) ∈ zTs := zTs_b5 25 rfl rfl
theorem zw987 : (Jvm.Cond.instanceMethod ({ cls := "RockingHorse", name := "tellFraction", desc := "(JJ)V" } : Jvm.MethodName)) ∈ zTs := zTs_b5 27 rfl rfl
theorem zw988 : (Jvm.Cond.code ({ cls := "RockingHorse", name := "tellFraction", desc := "(JJ)V" } : Jvm.MethodName) prog_1_method_59_code (7 : Nat) (Option.none : Option Jvm.ClassFile.FieldType)) ∈ zTs := zTs_b5 28 rfl rfl
theorem zw989 : (Jvm.Cond.methodLink "RockingHorse" (403 : Nat) ({ cls := "RockingHorse", name := "greatestShared", desc := "(JJ)J" } : Jvm.MethodName)) ∈ zTs := zTs_b5 29 rfl rfl
theorem zw990 : (Jvm.Cond.static ({ cls := "RockingHorse", name := "greatestShared", desc := "(JJ)J" } : Jvm.MethodName)) ∈ zTs := zTs_b5 30 rfl rfl
theorem zw991 : (Jvm.Cond.code ({ cls := "RockingHorse", name := "greatestShared", desc := "(JJ)J" } : Jvm.MethodName) prog_1_method_58_code (7 : Nat) (Option.some Jvm.ClassFile.FieldType.long)) ∈ zTs := zTs_b5 31 rfl rfl
theorem zw998 : (Jvm.Cond.instanceMethod ({ cls := "RockingHorse$Seats", name := "tallyAll", desc := "()V" } : Jvm.MethodName)) ∈ zTs := zTs_b5 38 rfl rfl
theorem zw999 : (Jvm.Cond.code ({ cls := "RockingHorse$Seats", name := "tallyAll", desc := "()V" } : Jvm.MethodName) prog_6_method_20_code (2 : Nat) (Option.none : Option Jvm.ClassFile.FieldType)) ∈ zTs := zTs_b5 39 rfl rfl
theorem zw1000 : (Jvm.Cond.methodLink "RockingHorse$Seats" (108 : Nat) ({ cls := "RockingHorse$Seats", name := "tallyRider", desc := "(I)V" } : Jvm.MethodName)) ∈ zTs := zTs_b5 40 rfl rfl
theorem zw1002 : (Jvm.Cond.instanceMethod ({ cls := "RockingHorse$Seats", name := "tallyRider", desc := "(I)V" } : Jvm.MethodName)) ∈ zTs := zTs_b5 42 rfl rfl
theorem zw1003 : (Jvm.Cond.code ({ cls := "RockingHorse$Seats", name := "tallyRider", desc := "(I)V" } : Jvm.MethodName) prog_6_method_21_code (5 : Nat) (Option.none : Option Jvm.ClassFile.FieldType)) ∈ zTs := zTs_b5 43 rfl rfl
theorem zw1004 : (Jvm.Cond.methodLink "RockingHorse$Seats" (111 : Nat) ({ cls := "RockingHorse$Seats", name := "waysRound", desc := "(II)I" } : Jvm.MethodName)) ∈ zTs := zTs_b5 44 rfl rfl
theorem zw1006 : (Jvm.Cond.instanceMethod ({ cls := "RockingHorse$Seats", name := "waysRound", desc := "(II)I" } : Jvm.MethodName)) ∈ zTs := zTs_b5 46 rfl rfl
theorem zw1007 : (Jvm.Cond.code ({ cls := "RockingHorse$Seats", name := "waysRound", desc := "(II)I" } : Jvm.MethodName) prog_6_method_22_code (5 : Nat) (Option.some Jvm.ClassFile.FieldType.int)) ∈ zTs := zTs_b5 47 rfl rfl
theorem zw1010 : (Jvm.Cond.instanceMethod ({ cls := "RockingHorse$Seats", name := "mostIn", desc := "(I)I" } : Jvm.MethodName)) ∈ zTs := zTs_b5 50 rfl rfl
theorem zw1011 : (Jvm.Cond.code ({ cls := "RockingHorse$Seats", name := "mostIn", desc := "(I)I" } : Jvm.MethodName) prog_6_method_23_code (4 : Nat) (Option.some Jvm.ClassFile.FieldType.int)) ∈ zTs := zTs_b5 51 rfl rfl
theorem zw1012 : (Jvm.Cond.methodLink "RockingHorse$Seats" (115 : Nat) ({ cls := "java/lang/Math", name := "max", desc := "(II)I" } : Jvm.MethodName)) ∈ zTs := zTs_b5 52 rfl rfl
theorem zw1019 : (Jvm.Cond.instanceMethod ({ cls := "RockingHorse$Seats", name := "findLacks", desc := "()V" } : Jvm.MethodName)) ∈ zTs := zTs_b5 59 rfl rfl
theorem zw1020 : (Jvm.Cond.code ({ cls := "RockingHorse$Seats", name := "findLacks", desc := "()V" } : Jvm.MethodName) prog_6_method_24_code (2 : Nat) (Option.none : Option Jvm.ClassFile.FieldType)) ∈ zTs := zTs_b5 60 rfl rfl
theorem zw1021 : (Jvm.Cond.methodLink "RockingHorse$Seats" (120 : Nat) ({ cls := "RockingHorse$Seats", name := "findLacksIn", desc := "(I)V" } : Jvm.MethodName)) ∈ zTs := zTs_b5 61 rfl rfl
theorem zw1023 : (Jvm.Cond.instanceMethod ({ cls := "RockingHorse$Seats", name := "findLacksIn", desc := "(I)V" } : Jvm.MethodName)) ∈ zTs := zTs_b5 63 rfl rfl
theorem zw1024 : (Jvm.Cond.code ({ cls := "RockingHorse$Seats", name := "findLacksIn", desc := "(I)V" } : Jvm.MethodName) prog_6_method_25_code (8 : Nat) (Option.none : Option Jvm.ClassFile.FieldType)) ∈ zTs := zTs_b5 64 rfl rfl
theorem zw1025 : (Jvm.Cond.methodLink "RockingHorse$Seats" (123 : Nat) ({ cls := "java/lang/Math", name := "min", desc := "(II)I" } : Jvm.MethodName)) ∈ zTs := zTs_b5 65 rfl rfl
theorem zw1026 : (Jvm.Cond.methodLink "RockingHorse" (370 : Nat) ({ cls := "RockingHorse", name := "chance", desc := "(II)J" } : Jvm.MethodName)) ∈ zTs := zTs_b5 66 rfl rfl
theorem zw1028 : (Jvm.Cond.instanceMethod ({ cls := "RockingHorse", name := "chance", desc := "(II)J" } : Jvm.MethodName)) ∈ zTs := zTs_b5 68 rfl rfl
theorem zw1029 : (Jvm.Cond.code ({ cls := "RockingHorse", name := "chance", desc := "(II)J" } : Jvm.MethodName) prog_1_method_86_code (8 : Nat) (Option.some Jvm.ClassFile.FieldType.long)) ∈ zTs := zTs_b5 69 rfl rfl
theorem zw1032 : (Jvm.Cond.instanceMethod ({ cls := "RockingHorse$Seats", name := "lacks", desc := "(I)Z" } : Jvm.MethodName)) ∈ zTs := zTs_b5 72 rfl rfl
theorem zw1033 : (Jvm.Cond.code ({ cls := "RockingHorse$Seats", name := "lacks", desc := "(I)Z" } : Jvm.MethodName) prog_6_method_26_code (2 : Nat) (Option.some Jvm.ClassFile.FieldType.boolean)) ∈ zTs := zTs_b5 73 rfl rfl
theorem zw1034 : (Jvm.Cond.methodLink "RockingHorse" (374 : Nat) ({ cls := "RockingHorse", name := "power", desc := "(II)J" } : Jvm.MethodName)) ∈ zTs := zTs_b5 74 rfl rfl
theorem zw1035 : (Jvm.Cond.static ({ cls := "RockingHorse", name := "power", desc := "(II)J" } : Jvm.MethodName)) ∈ zTs := zTs_b5 75 rfl rfl
theorem zw1036 : (Jvm.Cond.code ({ cls := "RockingHorse", name := "power", desc := "(II)J" } : Jvm.MethodName) prog_1_method_57_code (5 : Nat) (Option.some Jvm.ClassFile.FieldType.long)) ∈ zTs := zTs_b5 76 rfl rfl
theorem zw1045 : (Jvm.Cond.methodLink "RockingHorse" (377 : Nat) ({ cls := "RockingHorse", name := "isAtRest", desc := "(IIII)Z" } : Jvm.MethodName)) ∈ zTs := zTs_b5 85 rfl rfl
theorem zw1046 : (Jvm.Cond.static ({ cls := "RockingHorse", name := "isAtRest", desc := "(IIII)Z" } : Jvm.MethodName)) ∈ zTs := zTs_b5 86 rfl rfl
theorem zw1047 : (Jvm.Cond.code ({ cls := "RockingHorse", name := "isAtRest", desc := "(IIII)Z" } : Jvm.MethodName) prog_1_method_87_code (7 : Nat) (Option.some Jvm.ClassFile.FieldType.boolean)) ∈ zTs := zTs_b5 87 rfl rfl
theorem zw1052 : (Jvm.Cond.methodLink "RockingHorse" (381 : Nat) ({ cls := "RockingHorse", name := "hardOfRota", desc := "(LRockingHorse$Rule;)I" } : Jvm.MethodName)) ∈ zTs := zTs_b5 92 rfl rfl
theorem zw1054 : (Jvm.Cond.instanceMethod ({ cls := "RockingHorse", name := "hardOfRota", desc := "(LRockingHorse$Rule;)I" } : Jvm.MethodName)) ∈ zTs := zTs_b5 94 rfl rfl
theorem zw1055 : (Jvm.Cond.code ({ cls := "RockingHorse", name := "hardOfRota", desc := "(LRockingHorse$Rule;)I" } : Jvm.MethodName) prog_1_method_85_code (5 : Nat) (Option.some Jvm.ClassFile.FieldType.int)) ∈ zTs := zTs_b5 95 rfl rfl
theorem zw1060 : (Jvm.Cond.methodLink "RockingHorse" (388 : Nat) ({ cls := "RockingHorse", name := "drawAct", desc := "()V" } : Jvm.MethodName)) ∈ zTs := zTs_b5 100 rfl rfl
theorem zw1062 : (Jvm.Cond.instanceMethod ({ cls := "RockingHorse", name := "drawAct", desc := "()V" } : Jvm.MethodName)) ∈ zTs := zTs_b5 102 rfl rfl
theorem zw1063 : (Jvm.Cond.code ({ cls := "RockingHorse", name := "drawAct", desc := "()V" } : Jvm.MethodName) prog_1_method_74_code (3 : Nat) (Option.none : Option Jvm.ClassFile.FieldType)) ∈ zTs := zTs_b5 103 rfl rfl
theorem zw1064 : (Jvm.Cond.methodLink "RockingHorse" (427 : Nat) ({ cls := "RockingHorse", name := "draw", desc := "(I)I" } : Jvm.MethodName)) ∈ zTs := zTs_b5 104 rfl rfl
theorem zw1066 : (Jvm.Cond.instanceMethod ({ cls := "RockingHorse", name := "draw", desc := "(I)I" } : Jvm.MethodName)) ∈ zTs := zTs_b5 106 rfl rfl
theorem zw1067 : (Jvm.Cond.code ({ cls := "RockingHorse", name := "draw", desc := "(I)I" } : Jvm.MethodName) prog_1_method_73_code (2 : Nat) (Option.some Jvm.ClassFile.FieldType.int)) ∈ zTs := zTs_b5 107 rfl rfl
theorem zw1068 : (Jvm.Cond.constant "RockingHorse" (426 : Nat) (Int32.ofInt (.ofNat 1103515245))) ∈ zTs := zTs_b5 108 rfl rfl
theorem zw1152 : (Jvm.Cond.instanceMethod ({ cls := "RockingHorse$State", name := "hoursOf", desc := "(I)I" } : Jvm.MethodName)) ∈ zTs := zTs_b5 192 rfl rfl
theorem zw1153 : (Jvm.Cond.code ({ cls := "RockingHorse$State", name := "hoursOf", desc := "(I)I" } : Jvm.MethodName) prog_7_method_5_code (4 : Nat) (Option.some Jvm.ClassFile.FieldType.int)) ∈ zTs := zTs_b5 193 rfl rfl
theorem zw1163 : (Jvm.Cond.instanceMethod ({ cls := "RockingHorse$Numbers", name := "at", desc := "(I)J" } : Jvm.MethodName)) ∈ zTs := zTs_b5 203 rfl rfl
theorem zw1164 : (Jvm.Cond.code ({ cls := "RockingHorse$Numbers", name := "at", desc := "(I)J" } : Jvm.MethodName) prog_3_method_6_code (2 : Nat) (Option.some Jvm.ClassFile.FieldType.long)) ∈ zTs := zTs_b5 204 rfl rfl
theorem zw1170 : (Jvm.Cond.methodLink "RockingHorseModel" (3 : Nat) ({ cls := "java/lang/Object", name := "<init>", desc := "()V" } : Jvm.MethodName)) ∈ zTs := zTs_b5 210 rfl rfl
theorem zw1171 : (Jvm.Cond.constant "RockingHorseModel" (88 : Nat) (Int32.ofInt (.ofNat 1000000000))) ∈ zTs := zTs_b5 211 rfl rfl
theorem zw1172 : (Jvm.Cond.fieldLink "RockingHorseModel" (9 : Nat) "RockingHorseModel" "now" "[I") ∈ zTs := zTs_b5 212 rfl rfl
theorem zw1173 : (Jvm.Cond.fieldLink "RockingHorseModel" (13 : Nat) "RockingHorseModel" "hours" "I") ∈ zTs := zTs_b5 213 rfl rfl
theorem zw1174 : (Jvm.Cond.fieldLink "RockingHorseModel" (17 : Nat) "RockingHorseModel" "beats" "I") ∈ zTs := zTs_b5 214 rfl rfl
theorem zw1175 : (Jvm.Cond.fieldLink "RockingHorseModel" (120 : Nat) "RockingHorseModel" "men" "I") ∈ zTs := zTs_b5 215 rfl rfl
theorem zw1176 : (Jvm.Cond.fieldLink "RockingHorseModel" (20 : Nat) "RockingHorseModel" "most" "[I") ∈ zTs := zTs_b5 216 rfl rfl
theorem zw1177 : (Jvm.Cond.fieldLink "RockingHorseModel" (23 : Nat) "RockingHorseModel" "width" "[I") ∈ zTs := zTs_b5 217 rfl rfl
theorem zw1178 : (Jvm.Cond.fieldLink "RockingHorseModel" (26 : Nat) "RockingHorseModel" "can" "[I") ∈ zTs := zTs_b5 218 rfl rfl
theorem zw1179 : (Jvm.Cond.fieldLink "RockingHorseModel" (29 : Nat) "RockingHorseModel" "text" "[B") ∈ zTs := zTs_b5 219 rfl rfl
theorem zw1180 : (Jvm.Cond.fieldLink "RockingHorseModel" (131 : Nat) "RockingHorseModel" "typed" "I") ∈ zTs := zTs_b5 220 rfl rfl
theorem zw1181 : (Jvm.Cond.fieldLink "RockingHorseModel" (33 : Nat) "RockingHorseModel" "row" "[J") ∈ zTs := zTs_b5 221 rfl rfl
theorem zw1182 : (Jvm.Cond.fieldLink "RockingHorseModel" (117 : Nat) "RockingHorseModel" "rowMany" "I") ∈ zTs := zTs_b5 222 rfl rfl
theorem zw1183 : (Jvm.Cond.fieldLink "RockingHorseModel" (114 : Nat) "RockingHorseModel" "thrown" "I") ∈ zTs := zTs_b5 223 rfl rfl
theorem zw1184 : (Jvm.Cond.fieldLink "RockingHorseModel" (134 : Nat) "RockingHorseModel" "read" "[B") ∈ zTs := zTs_b5 224 rfl rfl
theorem zw1185 : (Jvm.Cond.fieldLink "RockingHorseModel" (137 : Nat) "RockingHorseModel" "length" "I") ∈ zTs := zTs_b5 225 rfl rfl
theorem zw1186 : (Jvm.Cond.fieldLink "RockingHorseModel" (140 : Nat) "RockingHorseModel" "top" "I") ∈ zTs := zTs_b5 226 rfl rfl
theorem zw1187 : (Jvm.Cond.fieldLink "RockingHorseModel" (143 : Nat) "RockingHorseModel" "at" "I") ∈ zTs := zTs_b5 227 rfl rfl
theorem zw1188 : (Jvm.Cond.fieldLink "RockingHorseModel" (146 : Nat) "RockingHorseModel" "wrong" "I") ∈ zTs := zTs_b5 228 rfl rfl
theorem zw1189 : (Jvm.Cond.fieldLink "RockingHorseModel" (37 : Nat) "RockingHorseModel" "comes" "[I") ∈ zTs := zTs_b5 229 rfl rfl
theorem zw1190 : (Jvm.Cond.fieldLink "RockingHorseModel" (40 : Nat) "RockingHorseModel" "rule" "[B") ∈ zTs := zTs_b5 230 rfl rfl
theorem zw1191 : (Jvm.Cond.fieldLink "RockingHorseModel" (43 : Nat) "RockingHorseModel" "otherRule" "[B") ∈ zTs := zTs_b5 231 rfl rfl
theorem zw1192 : (Jvm.Cond.fieldLink "RockingHorseModel" (218 : Nat) "RockingHorseModel" "ruleSize" "I") ∈ zTs := zTs_b5 232 rfl rfl
theorem zw1193 : (Jvm.Cond.fieldLink "RockingHorseModel" (211 : Nat) "RockingHorseModel" "isAsked" "Z") ∈ zTs := zTs_b5 233 rfl rfl
theorem zw1194 : (Jvm.Cond.fieldLink "RockingHorseModel" (46 : Nat) "RockingHorseModel" "asked" "[I") ∈ zTs := zTs_b5 234 rfl rfl
theorem zw1195 : (Jvm.Cond.fieldLink "RockingHorseModel" (49 : Nat) "RockingHorseModel" "undos" "[I") ∈ zTs := zTs_b5 235 rfl rfl
theorem zw1196 : (Jvm.Cond.fieldLink "RockingHorseModel" (182 : Nat) "RockingHorseModel" "undoMany" "I") ∈ zTs := zTs_b5 236 rfl rfl
theorem zw1197 : (Jvm.Cond.fieldLink "RockingHorseModel" (52 : Nat) "RockingHorseModel" "aside" "[I") ∈ zTs := zTs_b5 237 rfl rfl
theorem zw1198 : (Jvm.Cond.fieldLink "RockingHorseModel" (55 : Nat) "RockingHorseModel" "then" "[I") ∈ zTs := zTs_b5 238 rfl rfl
theorem zw1199 : (Jvm.Cond.fieldLink "RockingHorseModel" (265 : Nat) "RockingHorseModel" "gapBits" "I") ∈ zTs := zTs_b5 239 rfl rfl
theorem zw1200 : (Jvm.Cond.fieldLink "RockingHorseModel" (268 : Nat) "RockingHorseModel" "rideBits" "I") ∈ zTs := zTs_b6 0 rfl rfl
theorem zw1201 : (Jvm.Cond.fieldLink "RockingHorseModel" (58 : Nat) "RockingHorseModel" "rode" "[I") ∈ zTs := zTs_b6 1 rfl rfl
theorem zw1202 : (Jvm.Cond.fieldLink "RockingHorseModel" (61 : Nat) "RockingHorseModel" "sore" "[I") ∈ zTs := zTs_b6 2 rfl rfl
theorem zw1203 : (Jvm.Cond.fieldLink "RockingHorseModel" (64 : Nat) "RockingHorseModel" "acts" "[I") ∈ zTs := zTs_b6 3 rfl rfl
theorem zw1204 : (Jvm.Cond.fieldLink "RockingHorseModel" (67 : Nat) "RockingHorseModel" "may" "[I") ∈ zTs := zTs_b6 4 rfl rfl
theorem zw1205 : (Jvm.Cond.fieldLink "RockingHorseModel" (70 : Nat) "RockingHorseModel" "must" "[I") ∈ zTs := zTs_b6 5 rfl rfl
theorem zw1206 : (Jvm.Cond.fieldLink "RockingHorseModel" (73 : Nat) "RockingHorseModel" "wasMay" "[I") ∈ zTs := zTs_b6 6 rfl rfl
theorem zw1207 : (Jvm.Cond.fieldLink "RockingHorseModel" (76 : Nat) "RockingHorseModel" "wasMust" "[I") ∈ zTs := zTs_b6 7 rfl rfl
theorem zw1208 : (Jvm.Cond.fieldLink "RockingHorseModel" (79 : Nat) "RockingHorseModel" "hardness" "[I") ∈ zTs := zTs_b6 8 rfl rfl
theorem zw1209 : (Jvm.Cond.fieldLink "RockingHorseModel" (82 : Nat) "RockingHorseModel" "least" "[I") ∈ zTs := zTs_b6 9 rfl rfl
theorem zw1210 : (Jvm.Cond.fieldLink "RockingHorseModel" (85 : Nat) "RockingHorseModel" "ways" "[I") ∈ zTs := zTs_b6 10 rfl rfl
theorem zw1211 : (Jvm.Cond.fieldLink "RockingHorseModel" (89 : Nat) "RockingHorseModel" "bound" "I") ∈ zTs := zTs_b6 11 rfl rfl
theorem zw1212 : (Jvm.Cond.fieldLink "RockingHorseModel" (92 : Nat) "RockingHorseModel" "line" "[I") ∈ zTs := zTs_b6 12 rfl rfl
theorem zw1213 : (Jvm.Cond.fieldLink "RockingHorseModel" (95 : Nat) "RockingHorseModel" "canBe" "[Z") ∈ zTs := zTs_b6 13 rfl rfl
theorem zw1214 : (Jvm.Cond.fieldLink "RockingHorseModel" (99 : Nat) "RockingHorseModel" "foundAt" "[I") ∈ zTs := zTs_b6 14 rfl rfl
theorem zw1215 : (Jvm.Cond.fieldLink "RockingHorseModel" (102 : Nat) "RockingHorseModel" "foundWho" "[I") ∈ zTs := zTs_b6 15 rfl rfl
theorem zw1216 : (Jvm.Cond.fieldLink "RockingHorseModel" (365 : Nat) "RockingHorseModel" "foundBits" "I") ∈ zTs := zTs_b6 16 rfl rfl
theorem zw1217 : (Jvm.Cond.fieldLink "RockingHorseModel" (362 : Nat) "RockingHorseModel" "findings" "I") ∈ zTs := zTs_b6 17 rfl rfl
theorem zw1218 : (Jvm.Cond.fieldLink "RockingHorseModel" (408 : Nat) "RockingHorseModel" "drawn" "I") ∈ zTs := zTs_b6 18 rfl rfl
theorem zw1219 : (Jvm.Cond.fieldLink "RockingHorseModel" (185 : Nat) "RockingHorseModel" "came" "I") ∈ zTs := zTs_b6 19 rfl rfl
theorem zw1220 : (Jvm.Cond.fieldLink "RockingHorseModel" (105 : Nat) "RockingHorseModel" "kept" "[I") ∈ zTs := zTs_b6 20 rfl rfl
theorem zw1221 : (Jvm.Cond.fieldLink "RockingHorseModel" (108 : Nat) "RockingHorseModel" "isKept" "[Z") ∈ zTs := zTs_b6 21 rfl rfl
theorem zw1222 : (Jvm.Cond.fieldLink "RockingHorseModel" (111 : Nat) "RockingHorseModel" "keptCame" "[I") ∈ zTs := zTs_b6 22 rfl rfl
theorem zw1334 : (Jvm.Cond.methodLink "RockingHorseModel" (123 : Nat) ({ cls := "RockingHorseModel", name := "in", desc := "(III)Z" } : Jvm.MethodName)) ∈ zTs := zTs_b6 134 rfl rfl
theorem zw1335 : (Jvm.Cond.static ({ cls := "RockingHorseModel", name := "in", desc := "(III)Z" } : Jvm.MethodName)) ∈ zTs := zTs_b6 135 rfl rfl
theorem zw1336 : (Jvm.Cond.code ({ cls := "RockingHorseModel", name := "in", desc := "(III)Z" } : Jvm.MethodName) prog_10_method_3_code (3 : Nat) (Option.some Jvm.ClassFile.FieldType.boolean)) ∈ zTs := zTs_b6 136 rfl rfl
theorem zw1341 : (Jvm.Cond.methodLink "RockingHorseModel" (173 : Nat) ({ cls := "RockingHorseModel", name := "beginText", desc := "(I)V" } : Jvm.MethodName)) ∈ zTs := zTs_b6 141 rfl rfl
theorem zw1343 : (Jvm.Cond.instanceMethod ({ cls := "RockingHorseModel", name := "beginText", desc := "(I)V" } : Jvm.MethodName)) ∈ zTs := zTs_b6 143 rfl rfl
theorem zw1344 : (Jvm.Cond.code ({ cls := "RockingHorseModel", name := "beginText", desc := "(I)V" } : Jvm.MethodName) prog_10_method_14_code (2 : Nat) (Option.none : Option Jvm.ClassFile.FieldType)) ∈ zTs := zTs_b6 144 rfl rfl
theorem zw1345 : (Jvm.Cond.methodLink "RockingHorseModel" (149 : Nat) ({ cls := "RockingHorseModel", name := "begin", desc := "([BII)V" } : Jvm.MethodName)) ∈ zTs := zTs_b6 145 rfl rfl
theorem zw1347 : (Jvm.Cond.instanceMethod ({ cls := "RockingHorseModel", name := "begin", desc := "([BII)V" } : Jvm.MethodName)) ∈ zTs := zTs_b6 147 rfl rfl
theorem zw1348 : (Jvm.Cond.code ({ cls := "RockingHorseModel", name := "begin", desc := "([BII)V" } : Jvm.MethodName) prog_10_method_13_code (4 : Nat) (Option.none : Option Jvm.ClassFile.FieldType)) ∈ zTs := zTs_b6 148 rfl rfl
theorem zw1349 : (Jvm.Cond.methodLink "RockingHorseModel" (153 : Nat) ({ cls := "RockingHorseModel", name := "fine", desc := "()Z" } : Jvm.MethodName)) ∈ zTs := zTs_b6 149 rfl rfl
theorem zw1351 : (Jvm.Cond.instanceMethod ({ cls := "RockingHorseModel", name := "fine", desc := "()Z" } : Jvm.MethodName)) ∈ zTs := zTs_b6 151 rfl rfl
theorem zw1352 : (Jvm.Cond.code ({ cls := "RockingHorseModel", name := "fine", desc := "()Z" } : Jvm.MethodName) prog_10_method_16_code (1 : Nat) (Option.some Jvm.ClassFile.FieldType.boolean)) ∈ zTs := zTs_b6 152 rfl rfl
theorem zw1353 : (Jvm.Cond.methodLink "RockingHorseModel" (165 : Nat) ({ cls := "RockingHorseModel", name := "fault", desc := "(I)V" } : Jvm.MethodName)) ∈ zTs := zTs_b6 153 rfl rfl
theorem zw1355 : (Jvm.Cond.instanceMethod ({ cls := "RockingHorseModel", name := "fault", desc := "(I)V" } : Jvm.MethodName)) ∈ zTs := zTs_b6 155 rfl rfl
theorem zw1356 : (Jvm.Cond.code ({ cls := "RockingHorseModel", name := "fault", desc := "(I)V" } : Jvm.MethodName) prog_10_method_17_code (2 : Nat) (Option.none : Option Jvm.ClassFile.FieldType)) ∈ zTs := zTs_b6 156 rfl rfl
theorem zw1357 : (Jvm.Cond.methodLink "RockingHorseModel" (176 : Nat) ({ cls := "RockingHorseModel", name := "readMan", desc := "(I)V" } : Jvm.MethodName)) ∈ zTs := zTs_b6 157 rfl rfl
theorem zw1359 : (Jvm.Cond.instanceMethod ({ cls := "RockingHorseModel", name := "readMan", desc := "(I)V" } : Jvm.MethodName)) ∈ zTs := zTs_b6 159 rfl rfl
theorem zw1360 : (Jvm.Cond.code ({ cls := "RockingHorseModel", name := "readMan", desc := "(I)V" } : Jvm.MethodName) prog_10_method_23_code (4 : Nat) (Option.none : Option Jvm.ClassFile.FieldType)) ∈ zTs := zTs_b6 160 rfl rfl
theorem zw1361 : (Jvm.Cond.methodLink "RockingHorseModel" (169 : Nat) ({ cls := "RockingHorseModel", name := "oneOf", desc := "(CI)I" } : Jvm.MethodName)) ∈ zTs := zTs_b6 161 rfl rfl
theorem zw1363 : (Jvm.Cond.instanceMethod ({ cls := "RockingHorseModel", name := "oneOf", desc := "(CI)I" } : Jvm.MethodName)) ∈ zTs := zTs_b6 163 rfl rfl
theorem zw1364 : (Jvm.Cond.code ({ cls := "RockingHorseModel", name := "oneOf", desc := "(CI)I" } : Jvm.MethodName) prog_10_method_20_code (3 : Nat) (Option.some Jvm.ClassFile.FieldType.int)) ∈ zTs := zTs_b6 164 rfl rfl
theorem zw1365 : (Jvm.Cond.methodLink "RockingHorseModel" (157 : Nat) ({ cls := "RockingHorseModel", name := "here", desc := "()I" } : Jvm.MethodName)) ∈ zTs := zTs_b6 165 rfl rfl
theorem zw1367 : (Jvm.Cond.instanceMethod ({ cls := "RockingHorseModel", name := "here", desc := "()I" } : Jvm.MethodName)) ∈ zTs := zTs_b6 167 rfl rfl
theorem zw1368 : (Jvm.Cond.code ({ cls := "RockingHorseModel", name := "here", desc := "()I" } : Jvm.MethodName) prog_10_method_15_code (1 : Nat) (Option.some Jvm.ClassFile.FieldType.int)) ∈ zTs := zTs_b6 168 rfl rfl
theorem zw1369 : (Jvm.Cond.methodLink "RockingHorseModel" (161 : Nat) ({ cls := "RockingHorseModel", name := "passes", desc := "(C)Z" } : Jvm.MethodName)) ∈ zTs := zTs_b6 169 rfl rfl
theorem zw1371 : (Jvm.Cond.instanceMethod ({ cls := "RockingHorseModel", name := "passes", desc := "(C)Z" } : Jvm.MethodName)) ∈ zTs := zTs_b6 171 rfl rfl
theorem zw1372 : (Jvm.Cond.code ({ cls := "RockingHorseModel", name := "passes", desc := "(C)Z" } : Jvm.MethodName) prog_10_method_18_code (2 : Nat) (Option.some Jvm.ClassFile.FieldType.boolean)) ∈ zTs := zTs_b6 172 rfl rfl
theorem zw1373 : (Jvm.Cond.methodLink "RockingHorseModel" (179 : Nat) ({ cls := "RockingHorseModel", name := "wasRight", desc := "()Z" } : Jvm.MethodName)) ∈ zTs := zTs_b6 173 rfl rfl
theorem zw1375 : (Jvm.Cond.instanceMethod ({ cls := "RockingHorseModel", name := "wasRight", desc := "()Z" } : Jvm.MethodName)) ∈ zTs := zTs_b6 175 rfl rfl
theorem zw1376 : (Jvm.Cond.code ({ cls := "RockingHorseModel", name := "wasRight", desc := "()Z" } : Jvm.MethodName) prog_10_method_22_code (1 : Nat) (Option.some Jvm.ClassFile.FieldType.boolean)) ∈ zTs := zTs_b6 176 rfl rfl
theorem zw1381 : (Jvm.Cond.methodLink "RockingHorseModel" (215 : Nat) ({ cls := "RockingHorseModel", name := "readRule", desc := "()Z" } : Jvm.MethodName)) ∈ zTs := zTs_b6 181 rfl rfl
theorem zw1383 : (Jvm.Cond.instanceMethod ({ cls := "RockingHorseModel", name := "readRule", desc := "()Z" } : Jvm.MethodName)) ∈ zTs := zTs_b6 183 rfl rfl
theorem zw1384 : (Jvm.Cond.code ({ cls := "RockingHorseModel", name := "readRule", desc := "()Z" } : Jvm.MethodName) prog_10_method_30_code (1 : Nat) (Option.some Jvm.ClassFile.FieldType.boolean)) ∈ zTs := zTs_b6 184 rfl rfl
theorem zw1385 : (Jvm.Cond.methodLink "RockingHorseModel" (198 : Nat) ({ cls := "RockingHorseModel", name := "heldBy", desc := "(I)I" } : Jvm.MethodName)) ∈ zTs := zTs_b6 185 rfl rfl
theorem zw1387 : (Jvm.Cond.instanceMethod ({ cls := "RockingHorseModel", name := "heldBy", desc := "(I)I" } : Jvm.MethodName)) ∈ zTs := zTs_b6 187 rfl rfl
theorem zw1388 : (Jvm.Cond.code ({ cls := "RockingHorseModel", name := "heldBy", desc := "(I)I" } : Jvm.MethodName) prog_10_method_25_code (3 : Nat) (Option.some Jvm.ClassFile.FieldType.int)) ∈ zTs := zTs_b6 188 rfl rfl
theorem zw1389 : (Jvm.Cond.methodLink "RockingHorseModel" (188 : Nat) ({ cls := "RockingHorseModel", name := "sum", desc := "(I)I" } : Jvm.MethodName)) ∈ zTs := zTs_b6 189 rfl rfl
theorem zw1391 : (Jvm.Cond.instanceMethod ({ cls := "RockingHorseModel", name := "sum", desc := "(I)I" } : Jvm.MethodName)) ∈ zTs := zTs_b6 191 rfl rfl
theorem zw1392 : (Jvm.Cond.code ({ cls := "RockingHorseModel", name := "sum", desc := "(I)I" } : Jvm.MethodName) prog_10_method_26_code (5 : Nat) (Option.some Jvm.ClassFile.FieldType.int)) ∈ zTs := zTs_b6 192 rfl rfl
theorem zw1393 : (Jvm.Cond.methodLink "RockingHorseModel" (192 : Nat) ({ cls := "RockingHorseModel", name := "product", desc := "(I)I" } : Jvm.MethodName)) ∈ zTs := zTs_b6 193 rfl rfl
theorem zw1395 : (Jvm.Cond.instanceMethod ({ cls := "RockingHorseModel", name := "product", desc := "(I)I" } : Jvm.MethodName)) ∈ zTs := zTs_b6 195 rfl rfl
theorem zw1396 : (Jvm.Cond.code ({ cls := "RockingHorseModel", name := "product", desc := "(I)I" } : Jvm.MethodName) prog_10_method_27_code (5 : Nat) (Option.some Jvm.ClassFile.FieldType.int)) ∈ zTs := zTs_b6 196 rfl rfl
theorem zw1397 : (Jvm.Cond.methodLink "RockingHorseModel" (195 : Nat) ({ cls := "RockingHorseModel", name := "thing", desc := "(I)I" } : Jvm.MethodName)) ∈ zTs := zTs_b6 197 rfl rfl
theorem zw1399 : (Jvm.Cond.instanceMethod ({ cls := "RockingHorseModel", name := "thing", desc := "(I)I" } : Jvm.MethodName)) ∈ zTs := zTs_b6 199 rfl rfl
theorem zw1400 : (Jvm.Cond.code ({ cls := "RockingHorseModel", name := "thing", desc := "(I)I" } : Jvm.MethodName) prog_10_method_29_code (4 : Nat) (Option.some Jvm.ClassFile.FieldType.int)) ∈ zTs := zTs_b6 200 rfl rfl
theorem zw1401 : (Jvm.Cond.methodLink "RockingHorseModel" (201 : Nat) ({ cls := "RockingHorseModel", name := "need", desc := "(C)V" } : Jvm.MethodName)) ∈ zTs := zTs_b6 201 rfl rfl
theorem zw1403 : (Jvm.Cond.instanceMethod ({ cls := "RockingHorseModel", name := "need", desc := "(C)V" } : Jvm.MethodName)) ∈ zTs := zTs_b6 203 rfl rfl
theorem zw1404 : (Jvm.Cond.code ({ cls := "RockingHorseModel", name := "need", desc := "(C)V" } : Jvm.MethodName) prog_10_method_19_code (2 : Nat) (Option.none : Option Jvm.ClassFile.FieldType)) ∈ zTs := zTs_b6 204 rfl rfl
theorem zw1405 : (Jvm.Cond.methodLink "RockingHorseModel" (205 : Nat) ({ cls := "RockingHorseModel", name := "number", desc := "(I)I" } : Jvm.MethodName)) ∈ zTs := zTs_b6 205 rfl rfl
theorem zw1407 : (Jvm.Cond.instanceMethod ({ cls := "RockingHorseModel", name := "number", desc := "(I)I" } : Jvm.MethodName)) ∈ zTs := zTs_b6 207 rfl rfl
theorem zw1408 : (Jvm.Cond.code ({ cls := "RockingHorseModel", name := "number", desc := "(I)I" } : Jvm.MethodName) prog_10_method_21_code (4 : Nat) (Option.some Jvm.ClassFile.FieldType.int)) ∈ zTs := zTs_b6 208 rfl rfl
theorem zw1409 : (Jvm.Cond.methodLink "RockingHorseModel" (208 : Nat) ({ cls := "RockingHorseModel", name := "letterOf", desc := "(I)I" } : Jvm.MethodName)) ∈ zTs := zTs_b6 209 rfl rfl
theorem zw1410 : (Jvm.Cond.static ({ cls := "RockingHorseModel", name := "letterOf", desc := "(I)I" } : Jvm.MethodName)) ∈ zTs := zTs_b6 210 rfl rfl
theorem zw1411 : (Jvm.Cond.code ({ cls := "RockingHorseModel", name := "letterOf", desc := "(I)I" } : Jvm.MethodName) prog_10_method_28_code (1 : Nat) (Option.some Jvm.ClassFile.FieldType.int)) ∈ zTs := zTs_b6 211 rfl rfl
theorem zw1416 : (Jvm.Cond.methodLink "RockingHorseModel" (127 : Nat) ({ cls := "RockingHorseModel", name := "isMan", desc := "(I)Z" } : Jvm.MethodName)) ∈ zTs := zTs_b6 216 rfl rfl
theorem zw1418 : (Jvm.Cond.instanceMethod ({ cls := "RockingHorseModel", name := "isMan", desc := "(I)Z" } : Jvm.MethodName)) ∈ zTs := zTs_b6 218 rfl rfl
theorem zw1419 : (Jvm.Cond.code ({ cls := "RockingHorseModel", name := "isMan", desc := "(I)Z" } : Jvm.MethodName) prog_10_method_7_code (2 : Nat) (Option.some Jvm.ClassFile.FieldType.boolean)) ∈ zTs := zTs_b6 219 rfl rfl
theorem zw1420 : (Jvm.Cond.methodLink "RockingHorseModel" (235 : Nat) ({ cls := "RockingHorseModel", name := "lost", desc := "()I" } : Jvm.MethodName)) ∈ zTs := zTs_b6 220 rfl rfl
theorem zw1422 : (Jvm.Cond.instanceMethod ({ cls := "RockingHorseModel", name := "lost", desc := "()I" } : Jvm.MethodName)) ∈ zTs := zTs_b6 222 rfl rfl
theorem zw1423 : (Jvm.Cond.code ({ cls := "RockingHorseModel", name := "lost", desc := "()I" } : Jvm.MethodName) prog_10_method_5_code (1 : Nat) (Option.some Jvm.ClassFile.FieldType.int)) ∈ zTs := zTs_b6 223 rfl rfl
theorem zw1424 : (Jvm.Cond.methodLink "RockingHorseModel" (238 : Nat) ({ cls := "RockingHorseModel", name := "hoursOf", desc := "([II)I" } : Jvm.MethodName)) ∈ zTs := zTs_b6 224 rfl rfl
theorem zw1426 : (Jvm.Cond.instanceMethod ({ cls := "RockingHorseModel", name := "hoursOf", desc := "([II)I" } : Jvm.MethodName)) ∈ zTs := zTs_b6 226 rfl rfl
theorem zw1427 : (Jvm.Cond.code ({ cls := "RockingHorseModel", name := "hoursOf", desc := "([II)I" } : Jvm.MethodName) prog_10_method_33_code (5 : Nat) (Option.some Jvm.ClassFile.FieldType.int)) ∈ zTs := zTs_b6 227 rfl rfl
theorem zw1432 : (Jvm.Cond.methodLink "RockingHorseModel" (242 : Nat) ({ cls := "RockingHorseModel", name := "isHour", desc := "(I)Z" } : Jvm.MethodName)) ∈ zTs := zTs_b6 232 rfl rfl
theorem zw1433 : (Jvm.Cond.static ({ cls := "RockingHorseModel", name := "isHour", desc := "(I)Z" } : Jvm.MethodName)) ∈ zTs := zTs_b6 233 rfl rfl
theorem zw1434 : (Jvm.Cond.code ({ cls := "RockingHorseModel", name := "isHour", desc := "(I)Z" } : Jvm.MethodName) prog_10_method_8_code (1 : Nat) (Option.some Jvm.ClassFile.FieldType.boolean)) ∈ zTs := zTs_b6 234 rfl rfl
theorem zw1435 : (Jvm.Cond.methodLink "RockingHorseModel" (245 : Nat) ({ cls := "RockingHorseModel", name := "hardOf", desc := "([III)I" } : Jvm.MethodName)) ∈ zTs := zTs_b6 235 rfl rfl
theorem zw1437 : (Jvm.Cond.instanceMethod ({ cls := "RockingHorseModel", name := "hardOf", desc := "([III)I" } : Jvm.MethodName)) ∈ zTs := zTs_b6 237 rfl rfl
theorem zw1438 : (Jvm.Cond.code ({ cls := "RockingHorseModel", name := "hardOf", desc := "([III)I" } : Jvm.MethodName) prog_10_method_32_code (5 : Nat) (Option.some Jvm.ClassFile.FieldType.int)) ∈ zTs := zTs_b6 238 rfl rfl
theorem zw1439 : (Jvm.Cond.methodLink "RockingHorseModel" (221 : Nat) ({ cls := "java/lang/Integer", name := "bitCount", desc := "(I)I" } : Jvm.MethodName)) ∈ zTs := zTs_b6 239 rfl rfl
theorem zw1440 : (Jvm.Cond.methodLink "RockingHorseModel" (226 : Nat) ({ cls := "java/lang/Math", name := "min", desc := "(II)I" } : Jvm.MethodName)) ∈ zTs := zTs_b7 0 rfl rfl
theorem zw1441 : (Jvm.Cond.methodLink "RockingHorseModel" (232 : Nat) ({ cls := "java/lang/Math", name := "max", desc := "(II)I" } : Jvm.MethodName)) ∈ zTs := zTs_b7 1 rfl rfl
theorem zw1454 : (Jvm.Cond.methodLink "RockingHorseModel" (253 : Nat) ({ cls := "RockingHorseModel", name := "remember", desc := "([I)V" } : Jvm.MethodName)) ∈ zTs := zTs_b7 14 rfl rfl
theorem zw1456 : (Jvm.Cond.instanceMethod ({ cls := "RockingHorseModel", name := "remember", desc := "([I)V" } : Jvm.MethodName)) ∈ zTs := zTs_b7 16 rfl rfl
theorem zw1457 : (Jvm.Cond.code ({ cls := "RockingHorseModel", name := "remember", desc := "([I)V" } : Jvm.MethodName) prog_10_method_39_code (3 : Nat) (Option.none : Option Jvm.ClassFile.FieldType)) ∈ zTs := zTs_b7 17 rfl rfl
theorem zw1458 : (Jvm.Cond.methodLink "RockingHorseModel" (249 : Nat) ({ cls := "RockingHorseModel", name := "lay", desc := "([I[II)V" } : Jvm.MethodName)) ∈ zTs := zTs_b7 18 rfl rfl
theorem zw1459 : (Jvm.Cond.static ({ cls := "RockingHorseModel", name := "lay", desc := "([I[II)V" } : Jvm.MethodName)) ∈ zTs := zTs_b7 19 rfl rfl
theorem zw1460 : (Jvm.Cond.code ({ cls := "RockingHorseModel", name := "lay", desc := "([I[II)V" } : Jvm.MethodName) prog_10_method_38_code (4 : Nat) (Option.none : Option Jvm.ClassFile.FieldType)) ∈ zTs := zTs_b7 20 rfl rfl
theorem zw1465 : (Jvm.Cond.methodLink "RockingHorseModel" (257 : Nat) ({ cls := "RockingHorseModel", name := "isGift", desc := "(II)Z" } : Jvm.MethodName)) ∈ zTs := zTs_b7 25 rfl rfl
theorem zw1467 : (Jvm.Cond.instanceMethod ({ cls := "RockingHorseModel", name := "isGift", desc := "(II)Z" } : Jvm.MethodName)) ∈ zTs := zTs_b7 27 rfl rfl
theorem zw1468 : (Jvm.Cond.code ({ cls := "RockingHorseModel", name := "isGift", desc := "(II)Z" } : Jvm.MethodName) prog_10_method_41_code (3 : Nat) (Option.some Jvm.ClassFile.FieldType.boolean)) ∈ zTs := zTs_b7 28 rfl rfl
theorem zw1473 : (Jvm.Cond.methodLink "RockingHorseModel" (261 : Nat) ({ cls := "RockingHorseModel", name := "illBits", desc := "([I)I" } : Jvm.MethodName)) ∈ zTs := zTs_b7 33 rfl rfl
theorem zw1475 : (Jvm.Cond.instanceMethod ({ cls := "RockingHorseModel", name := "illBits", desc := "([I)I" } : Jvm.MethodName)) ∈ zTs := zTs_b7 35 rfl rfl
theorem zw1476 : (Jvm.Cond.code ({ cls := "RockingHorseModel", name := "illBits", desc := "([I)I" } : Jvm.MethodName) prog_10_method_43_code (4 : Nat) (Option.some Jvm.ClassFile.FieldType.int)) ∈ zTs := zTs_b7 36 rfl rfl
theorem zw1481 : (Jvm.Cond.methodLink "RockingHorseModel" (280 : Nat) ({ cls := "RockingHorseModel", name := "goNights", desc := "([II)V" } : Jvm.MethodName)) ∈ zTs := zTs_b7 41 rfl rfl
theorem zw1483 : (Jvm.Cond.instanceMethod ({ cls := "RockingHorseModel", name := "goNights", desc := "([II)V" } : Jvm.MethodName)) ∈ zTs := zTs_b7 43 rfl rfl
theorem zw1484 : (Jvm.Cond.code ({ cls := "RockingHorseModel", name := "goNights", desc := "([II)V" } : Jvm.MethodName) prog_10_method_46_code (4 : Nat) (Option.none : Option Jvm.ClassFile.FieldType)) ∈ zTs := zTs_b7 44 rfl rfl
theorem zw1485 : (Jvm.Cond.methodLink "RockingHorseModel" (277 : Nat) ({ cls := "RockingHorseModel", name := "goNight", desc := "([I)V" } : Jvm.MethodName)) ∈ zTs := zTs_b7 45 rfl rfl
theorem zw1487 : (Jvm.Cond.instanceMethod ({ cls := "RockingHorseModel", name := "goNight", desc := "([I)V" } : Jvm.MethodName)) ∈ zTs := zTs_b7 47 rfl rfl
theorem zw1488 : (Jvm.Cond.code ({ cls := "RockingHorseModel", name := "goNight", desc := "([I)V" } : Jvm.MethodName) prog_10_method_45_code (6 : Nat) (Option.none : Option Jvm.ClassFile.FieldType)) ∈ zTs := zTs_b7 48 rfl rfl
theorem zw1489 : (Jvm.Cond.methodLink "RockingHorseModel" (271 : Nat) ({ cls := "RockingHorseModel", name := "has", desc := "(II)Z" } : Jvm.MethodName)) ∈ zTs := zTs_b7 49 rfl rfl
theorem zw1490 : (Jvm.Cond.static ({ cls := "RockingHorseModel", name := "has", desc := "(II)Z" } : Jvm.MethodName)) ∈ zTs := zTs_b7 50 rfl rfl
theorem zw1491 : (Jvm.Cond.code ({ cls := "RockingHorseModel", name := "has", desc := "(II)Z" } : Jvm.MethodName) prog_10_method_4_code (2 : Nat) (Option.some Jvm.ClassFile.FieldType.boolean)) ∈ zTs := zTs_b7 51 rfl rfl
theorem zw1492 : (Jvm.Cond.methodLink "RockingHorseModel" (274 : Nat) ({ cls := "java/lang/Math", name := "abs", desc := "(I)I" } : Jvm.MethodName)) ∈ zTs := zTs_b7 52 rfl rfl
theorem zw1493 : (Jvm.Cond.methodLink "RockingHorseModel" (284 : Nat) ({ cls := "RockingHorseModel", name := "tell", desc := "(J)V" } : Jvm.MethodName)) ∈ zTs := zTs_b7 53 rfl rfl
theorem zw1495 : (Jvm.Cond.instanceMethod ({ cls := "RockingHorseModel", name := "tell", desc := "(J)V" } : Jvm.MethodName)) ∈ zTs := zTs_b7 55 rfl rfl
theorem zw1496 : (Jvm.Cond.code ({ cls := "RockingHorseModel", name := "tell", desc := "(J)V" } : Jvm.MethodName) prog_10_method_6_code (3 : Nat) (Option.none : Option Jvm.ClassFile.FieldType)) ∈ zTs := zTs_b7 56 rfl rfl
theorem zw1497 : (Jvm.Cond.methodLink "RockingHorseModel" (288 : Nat) ({ cls := "RockingHorseModel", name := "tired", desc := "([I)I" } : Jvm.MethodName)) ∈ zTs := zTs_b7 57 rfl rfl
theorem zw1499 : (Jvm.Cond.instanceMethod ({ cls := "RockingHorseModel", name := "tired", desc := "([I)I" } : Jvm.MethodName)) ∈ zTs := zTs_b7 59 rfl rfl
theorem zw1500 : (Jvm.Cond.code ({ cls := "RockingHorseModel", name := "tired", desc := "([I)I" } : Jvm.MethodName) prog_10_method_47_code (4 : Nat) (Option.some Jvm.ClassFile.FieldType.int)) ∈ zTs := zTs_b7 60 rfl rfl
theorem zw1505 : (Jvm.Cond.methodLink "RockingHorseModel" (291 : Nat) ({ cls := "RockingHorseModel", name := "readAct", desc := "(I)V" } : Jvm.MethodName)) ∈ zTs := zTs_b7 65 rfl rfl
theorem zw1507 : (Jvm.Cond.instanceMethod ({ cls := "RockingHorseModel", name := "readAct", desc := "(I)V" } : Jvm.MethodName)) ∈ zTs := zTs_b7 67 rfl rfl
theorem zw1508 : (Jvm.Cond.code ({ cls := "RockingHorseModel", name := "readAct", desc := "(I)V" } : Jvm.MethodName) prog_10_method_51_code (3 : Nat) (Option.none : Option Jvm.ClassFile.FieldType)) ∈ zTs := zTs_b7 68 rfl rfl
theorem zw1509 : (Jvm.Cond.methodLink "RockingHorseModel" (294 : Nat) ({ cls := "RockingHorseModel", name := "act", desc := "(III)Z" } : Jvm.MethodName)) ∈ zTs := zTs_b7 69 rfl rfl
theorem zw1511 : (Jvm.Cond.instanceMethod ({ cls := "RockingHorseModel", name := "act", desc := "(III)Z" } : Jvm.MethodName)) ∈ zTs := zTs_b7 71 rfl rfl
theorem zw1512 : (Jvm.Cond.code ({ cls := "RockingHorseModel", name := "act", desc := "(III)Z" } : Jvm.MethodName) prog_10_method_52_code (4 : Nat) (Option.some Jvm.ClassFile.FieldType.boolean)) ∈ zTs := zTs_b7 72 rfl rfl
theorem zw1513 : (Jvm.Cond.methodLink "RockingHorseModel" (297 : Nat) ({ cls := "RockingHorseModel", name := "areTwo", desc := "(II)Z" } : Jvm.MethodName)) ∈ zTs := zTs_b7 73 rfl rfl
theorem zw1515 : (Jvm.Cond.instanceMethod ({ cls := "RockingHorseModel", name := "areTwo", desc := "(II)Z" } : Jvm.MethodName)) ∈ zTs := zTs_b7 75 rfl rfl
theorem zw1516 : (Jvm.Cond.code ({ cls := "RockingHorseModel", name := "areTwo", desc := "(II)Z" } : Jvm.MethodName) prog_10_method_9_code (3 : Nat) (Option.some Jvm.ClassFile.FieldType.boolean)) ∈ zTs := zTs_b7 76 rfl rfl
theorem zw1517 : (Jvm.Cond.methodLink "RockingHorseModel" (300 : Nat) ({ cls := "RockingHorseModel", name := "goExchange", desc := "(II)V" } : Jvm.MethodName)) ∈ zTs := zTs_b7 77 rfl rfl
theorem zw1519 : (Jvm.Cond.instanceMethod ({ cls := "RockingHorseModel", name := "goExchange", desc := "(II)V" } : Jvm.MethodName)) ∈ zTs := zTs_b7 79 rfl rfl
theorem zw1520 : (Jvm.Cond.code ({ cls := "RockingHorseModel", name := "goExchange", desc := "(II)V" } : Jvm.MethodName) prog_10_method_49_code (4 : Nat) (Option.none : Option Jvm.ClassFile.FieldType)) ∈ zTs := zTs_b7 80 rfl rfl
theorem zw1533 : (Jvm.Cond.methodLink "RockingHorseModel" (304 : Nat) ({ cls := "java/lang/Integer", name := "numberOfTrailingZeros", desc := "(I)I" } : Jvm.MethodName)) ∈ zTs := zTs_b7 93 rfl rfl
theorem zw1534 : (Jvm.Cond.static ({ cls := "java/lang/Integer", name := "numberOfTrailingZeros", desc := "(I)I" } : Jvm.MethodName)) ∈ zTs := zTs_b7 94 rfl rfl
theorem zw1535 : (Jvm.Cond.code ({ cls := "java/lang/Integer", name := "numberOfTrailingZeros", desc := "(I)I" } : Jvm.MethodName) prog_16_method_48_code (2 : Nat) (Option.some Jvm.ClassFile.FieldType.int)) ∈ zTs := zTs_b7 95 rfl rfl
theorem zw1536 : (Jvm.Cond.constant "java/lang/Integer" (264 : Nat) (Int32.ofInt (.ofNat 65536))) ∈ zTs := zTs_b7 96 rfl rfl
theorem zw1553 : (Jvm.Cond.methodLink "RockingHorseModel" (338 : Nat) ({ cls := "RockingHorseModel", name := "easiestBut", desc := "(I)I" } : Jvm.MethodName)) ∈ zTs := zTs_b7 113 rfl rfl
theorem zw1555 : (Jvm.Cond.instanceMethod ({ cls := "RockingHorseModel", name := "easiestBut", desc := "(I)I" } : Jvm.MethodName)) ∈ zTs := zTs_b7 115 rfl rfl
theorem zw1556 : (Jvm.Cond.code ({ cls := "RockingHorseModel", name := "easiestBut", desc := "(I)I" } : Jvm.MethodName) prog_10_method_71_code (2 : Nat) (Option.some Jvm.ClassFile.FieldType.int)) ∈ zTs := zTs_b7 116 rfl rfl
theorem zw1557 : (Jvm.Cond.methodLink "RockingHorseModel" (335 : Nat) ({ cls := "RockingHorseModel", name := "layMay", desc := "(I)V" } : Jvm.MethodName)) ∈ zTs := zTs_b7 117 rfl rfl
theorem zw1559 : (Jvm.Cond.instanceMethod ({ cls := "RockingHorseModel", name := "layMay", desc := "(I)V" } : Jvm.MethodName)) ∈ zTs := zTs_b7 119 rfl rfl
theorem zw1560 : (Jvm.Cond.code ({ cls := "RockingHorseModel", name := "layMay", desc := "(I)V" } : Jvm.MethodName) prog_10_method_59_code (4 : Nat) (Option.none : Option Jvm.ClassFile.FieldType)) ∈ zTs := zTs_b7 120 rfl rfl
theorem zw1561 : (Jvm.Cond.methodLink "RockingHorseModel" (307 : Nat) ({ cls := "RockingHorseModel", name := "night", desc := "()I" } : Jvm.MethodName)) ∈ zTs := zTs_b7 121 rfl rfl
theorem zw1563 : (Jvm.Cond.instanceMethod ({ cls := "RockingHorseModel", name := "night", desc := "()I" } : Jvm.MethodName)) ∈ zTs := zTs_b7 123 rfl rfl
theorem zw1564 : (Jvm.Cond.code ({ cls := "RockingHorseModel", name := "night", desc := "()I" } : Jvm.MethodName) prog_10_method_10_code (1 : Nat) (Option.some Jvm.ClassFile.FieldType.int)) ∈ zTs := zTs_b7 124 rfl rfl
theorem zw1565 : (Jvm.Cond.methodLink "RockingHorseModel" (329 : Nat) ({ cls := "RockingHorseModel", name := "solve", desc := "(I)I" } : Jvm.MethodName)) ∈ zTs := zTs_b7 125 rfl rfl
theorem zw1567 : (Jvm.Cond.instanceMethod ({ cls := "RockingHorseModel", name := "solve", desc := "(I)I" } : Jvm.MethodName)) ∈ zTs := zTs_b7 127 rfl rfl
theorem zw1568 : (Jvm.Cond.code ({ cls := "RockingHorseModel", name := "solve", desc := "(I)I" } : Jvm.MethodName) prog_10_method_63_code (8 : Nat) (Option.some Jvm.ClassFile.FieldType.int)) ∈ zTs := zTs_b7 128 rfl rfl
theorem zw1569 : (Jvm.Cond.methodLink "RockingHorseModel" (313 : Nat) ({ cls := "RockingHorseModel", name := "canTake", desc := "(II)Z" } : Jvm.MethodName)) ∈ zTs := zTs_b7 129 rfl rfl
theorem zw1571 : (Jvm.Cond.instanceMethod ({ cls := "RockingHorseModel", name := "canTake", desc := "(II)Z" } : Jvm.MethodName)) ∈ zTs := zTs_b7 131 rfl rfl
theorem zw1572 : (Jvm.Cond.code ({ cls := "RockingHorseModel", name := "canTake", desc := "(II)Z" } : Jvm.MethodName) prog_10_method_62_code (3 : Nat) (Option.some Jvm.ClassFile.FieldType.boolean)) ∈ zTs := zTs_b7 132 rfl rfl
theorem zw1573 : (Jvm.Cond.methodLink "RockingHorseModel" (310 : Nat) ({ cls := "RockingHorseModel", name := "hardBy", desc := "(II)I" } : Jvm.MethodName)) ∈ zTs := zTs_b7 133 rfl rfl
theorem zw1575 : (Jvm.Cond.instanceMethod ({ cls := "RockingHorseModel", name := "hardBy", desc := "(II)I" } : Jvm.MethodName)) ∈ zTs := zTs_b7 135 rfl rfl
theorem zw1576 : (Jvm.Cond.code ({ cls := "RockingHorseModel", name := "hardBy", desc := "(II)I" } : Jvm.MethodName) prog_10_method_60_code (5 : Nat) (Option.some Jvm.ClassFile.FieldType.int)) ∈ zTs := zTs_b7 136 rfl rfl
theorem zw1577 : (Jvm.Cond.methodLink "RockingHorseModel" (316 : Nat) ({ cls := "RockingHorseModel", name := "costOf", desc := "(III)I" } : Jvm.MethodName)) ∈ zTs := zTs_b7 137 rfl rfl
theorem zw1579 : (Jvm.Cond.instanceMethod ({ cls := "RockingHorseModel", name := "costOf", desc := "(III)I" } : Jvm.MethodName)) ∈ zTs := zTs_b7 139 rfl rfl
theorem zw1580 : (Jvm.Cond.code ({ cls := "RockingHorseModel", name := "costOf", desc := "(III)I" } : Jvm.MethodName) prog_10_method_61_code (4 : Nat) (Option.some Jvm.ClassFile.FieldType.int)) ∈ zTs := zTs_b7 140 rfl rfl
theorem zw1581 : (Jvm.Cond.methodLink "RockingHorseModel" (341 : Nat) ({ cls := "RockingHorseModel", name := "layLine", desc := "(II)V" } : Jvm.MethodName)) ∈ zTs := zTs_b7 141 rfl rfl
theorem zw1583 : (Jvm.Cond.instanceMethod ({ cls := "RockingHorseModel", name := "layLine", desc := "(II)V" } : Jvm.MethodName)) ∈ zTs := zTs_b7 143 rfl rfl
theorem zw1584 : (Jvm.Cond.code ({ cls := "RockingHorseModel", name := "layLine", desc := "(II)V" } : Jvm.MethodName) prog_10_method_69_code (6 : Nat) (Option.none : Option Jvm.ClassFile.FieldType)) ∈ zTs := zTs_b7 144 rfl rfl
theorem zw1585 : (Jvm.Cond.methodLink "RockingHorseModel" (320 : Nat) ({ cls := "RockingHorseModel", name := "keepMay", desc := "()V" } : Jvm.MethodName)) ∈ zTs := zTs_b7 145 rfl rfl
theorem zw1587 : (Jvm.Cond.instanceMethod ({ cls := "RockingHorseModel", name := "keepMay", desc := "()V" } : Jvm.MethodName)) ∈ zTs := zTs_b7 147 rfl rfl
theorem zw1588 : (Jvm.Cond.code ({ cls := "RockingHorseModel", name := "keepMay", desc := "()V" } : Jvm.MethodName) prog_10_method_66_code (2 : Nat) (Option.none : Option Jvm.ClassFile.FieldType)) ∈ zTs := zTs_b7 148 rfl rfl
theorem zw1589 : (Jvm.Cond.methodLink "RockingHorseModel" (323 : Nat) ({ cls := "RockingHorseModel", name := "fix", desc := "(II)V" } : Jvm.MethodName)) ∈ zTs := zTs_b7 149 rfl rfl
theorem zw1591 : (Jvm.Cond.instanceMethod ({ cls := "RockingHorseModel", name := "fix", desc := "(II)V" } : Jvm.MethodName)) ∈ zTs := zTs_b7 151 rfl rfl
theorem zw1592 : (Jvm.Cond.code ({ cls := "RockingHorseModel", name := "fix", desc := "(II)V" } : Jvm.MethodName) prog_10_method_65_code (4 : Nat) (Option.none : Option Jvm.ClassFile.FieldType)) ∈ zTs := zTs_b7 152 rfl rfl
theorem zw1593 : (Jvm.Cond.methodLink "RockingHorseModel" (326 : Nat) ({ cls := "RockingHorseModel", name := "areRight", desc := "(I)Z" } : Jvm.MethodName)) ∈ zTs := zTs_b7 153 rfl rfl
theorem zw1595 : (Jvm.Cond.instanceMethod ({ cls := "RockingHorseModel", name := "areRight", desc := "(I)Z" } : Jvm.MethodName)) ∈ zTs := zTs_b7 155 rfl rfl
theorem zw1596 : (Jvm.Cond.code ({ cls := "RockingHorseModel", name := "areRight", desc := "(I)Z" } : Jvm.MethodName) prog_10_method_68_code (2 : Nat) (Option.some Jvm.ClassFile.FieldType.boolean)) ∈ zTs := zTs_b7 156 rfl rfl
theorem zw1597 : (Jvm.Cond.methodLink "RockingHorseModel" (332 : Nat) ({ cls := "RockingHorseModel", name := "bringMay", desc := "()V" } : Jvm.MethodName)) ∈ zTs := zTs_b7 157 rfl rfl
theorem zw1599 : (Jvm.Cond.instanceMethod ({ cls := "RockingHorseModel", name := "bringMay", desc := "()V" } : Jvm.MethodName)) ∈ zTs := zTs_b7 159 rfl rfl
theorem zw1600 : (Jvm.Cond.code ({ cls := "RockingHorseModel", name := "bringMay", desc := "()V" } : Jvm.MethodName) prog_10_method_67_code (2 : Nat) (Option.none : Option Jvm.ClassFile.FieldType)) ∈ zTs := zTs_b7 160 rfl rfl
theorem zw1601 : (Jvm.Cond.methodLink "RockingHorseModel" (344 : Nat) ({ cls := "RockingHorseModel", name := "tellLine", desc := "()V" } : Jvm.MethodName)) ∈ zTs := zTs_b7 161 rfl rfl
theorem zw1603 : (Jvm.Cond.instanceMethod ({ cls := "RockingHorseModel", name := "tellLine", desc := "()V" } : Jvm.MethodName)) ∈ zTs := zTs_b7 163 rfl rfl
theorem zw1604 : (Jvm.Cond.code ({ cls := "RockingHorseModel", name := "tellLine", desc := "()V" } : Jvm.MethodName) prog_10_method_70_code (2 : Nat) (Option.none : Option Jvm.ClassFile.FieldType)) ∈ zTs := zTs_b7 164 rfl rfl
theorem zw1609 : (Jvm.Cond.methodLink "RockingHorseModel" (347 : Nat) ({ cls := "RockingHorseModel", name := "layCanBe", desc := "()V" } : Jvm.MethodName)) ∈ zTs := zTs_b7 169 rfl rfl
theorem zw1611 : (Jvm.Cond.instanceMethod ({ cls := "RockingHorseModel", name := "layCanBe", desc := "()V" } : Jvm.MethodName)) ∈ zTs := zTs_b7 171 rfl rfl
theorem zw1612 : (Jvm.Cond.code ({ cls := "RockingHorseModel", name := "layCanBe", desc := "()V" } : Jvm.MethodName) prog_10_method_73_code (3 : Nat) (Option.none : Option Jvm.ClassFile.FieldType)) ∈ zTs := zTs_b7 172 rfl rfl
theorem zw1621 : (Jvm.Cond.methodLink "RockingHorseModel" (353 : Nat) ({ cls := "RockingHorseModel", name := "tellWays", desc := "()I" } : Jvm.MethodName)) ∈ zTs := zTs_b7 181 rfl rfl
theorem zw1623 : (Jvm.Cond.instanceMethod ({ cls := "RockingHorseModel", name := "tellWays", desc := "()I" } : Jvm.MethodName)) ∈ zTs := zTs_b7 183 rfl rfl
theorem zw1624 : (Jvm.Cond.code ({ cls := "RockingHorseModel", name := "tellWays", desc := "()I" } : Jvm.MethodName) prog_10_method_76_code (2 : Nat) (Option.some Jvm.ClassFile.FieldType.int)) ∈ zTs := zTs_b7 184 rfl rfl
theorem zw1625 : (Jvm.Cond.methodLink "RockingHorseModel" (350 : Nat) ({ cls := "RockingHorseModel", name := "countWays", desc := "()I" } : Jvm.MethodName)) ∈ zTs := zTs_b7 185 rfl rfl
theorem zw1627 : (Jvm.Cond.instanceMethod ({ cls := "RockingHorseModel", name := "countWays", desc := "()I" } : Jvm.MethodName)) ∈ zTs := zTs_b7 187 rfl rfl
theorem zw1628 : (Jvm.Cond.code ({ cls := "RockingHorseModel", name := "countWays", desc := "()I" } : Jvm.MethodName) prog_10_method_64_code (5 : Nat) (Option.some Jvm.ClassFile.FieldType.int)) ∈ zTs := zTs_b7 188 rfl rfl
theorem zw1669 : (Jvm.Cond.methodLink "RockingHorseModel" (356 : Nat) ({ cls := "RockingHorseModel", name := "ableMany", desc := "(I)I" } : Jvm.MethodName)) ∈ zTs := zTs_b7 229 rfl rfl
theorem zw1671 : (Jvm.Cond.instanceMethod ({ cls := "RockingHorseModel", name := "ableMany", desc := "(I)I" } : Jvm.MethodName)) ∈ zTs := zTs_b7 231 rfl rfl
theorem zw1672 : (Jvm.Cond.code ({ cls := "RockingHorseModel", name := "ableMany", desc := "(I)I" } : Jvm.MethodName) prog_10_method_87_code (4 : Nat) (Option.some Jvm.ClassFile.FieldType.int)) ∈ zTs := zTs_b7 232 rfl rfl
theorem zw1681 : (Jvm.Cond.methodLink "RockingHorseModel" (359 : Nat) ({ cls := "RockingHorseModel", name := "goSmooth", desc := "(II)Z" } : Jvm.MethodName)) ∈ zTs := zTs_b8 1 rfl rfl
theorem zw1683 : (Jvm.Cond.instanceMethod ({ cls := "RockingHorseModel", name := "goSmooth", desc := "(II)Z" } : Jvm.MethodName)) ∈ zTs := zTs_b8 3 rfl rfl
theorem zw1684 : (Jvm.Cond.code ({ cls := "RockingHorseModel", name := "goSmooth", desc := "(II)Z" } : Jvm.MethodName) prog_10_method_90_code (6 : Nat) (Option.some Jvm.ClassFile.FieldType.boolean)) ∈ zTs := zTs_b8 4 rfl rfl
theorem zw1701 : (Jvm.Cond.methodLink "RockingHorseModel" (371 : Nat) ({ cls := "RockingHorseModel", name := "fitting", desc := "(II)I" } : Jvm.MethodName)) ∈ zTs := zTs_b8 21 rfl rfl
theorem zw1703 : (Jvm.Cond.instanceMethod ({ cls := "RockingHorseModel", name := "fitting", desc := "(II)I" } : Jvm.MethodName)) ∈ zTs := zTs_b8 23 rfl rfl
theorem zw1704 : (Jvm.Cond.code ({ cls := "RockingHorseModel", name := "fitting", desc := "(II)I" } : Jvm.MethodName) prog_10_method_96_code (4 : Nat) (Option.some Jvm.ClassFile.FieldType.int)) ∈ zTs := zTs_b8 24 rfl rfl
theorem zw1705 : (Jvm.Cond.methodLink "RockingHorseModel" (368 : Nat) ({ cls := "RockingHorseModel", name := "layFound", desc := "()V" } : Jvm.MethodName)) ∈ zTs := zTs_b8 25 rfl rfl
theorem zw1707 : (Jvm.Cond.instanceMethod ({ cls := "RockingHorseModel", name := "layFound", desc := "()V" } : Jvm.MethodName)) ∈ zTs := zTs_b8 27 rfl rfl
theorem zw1708 : (Jvm.Cond.code ({ cls := "RockingHorseModel", name := "layFound", desc := "()V" } : Jvm.MethodName) prog_10_method_95_code (2 : Nat) (Option.none : Option Jvm.ClassFile.FieldType)) ∈ zTs := zTs_b8 28 rfl rfl
theorem zw1713 : (Jvm.Cond.methodLink "RockingHorseModel" (378 : Nat) ({ cls := "RockingHorseModel", name := "tellPart", desc := "(JJ)V" } : Jvm.MethodName)) ∈ zTs := zTs_b8 33 rfl rfl
theorem zw1715 : (Jvm.Cond.instanceMethod ({ cls := "RockingHorseModel", name := "tellPart", desc := "(JJ)V" } : Jvm.MethodName)) ∈ zTs := zTs_b8 35 rfl rfl
theorem zw1716 : (Jvm.Cond.code ({ cls := "RockingHorseModel", name := "tellPart", desc := "(JJ)V" } : Jvm.MethodName) prog_10_method_99_code (7 : Nat) (Option.none : Option Jvm.ClassFile.FieldType)) ∈ zTs := zTs_b8 36 rfl rfl
theorem zw1717 : (Jvm.Cond.methodLink "RockingHorseModel" (374 : Nat) ({ cls := "RockingHorseModel", name := "common", desc := "(JJ)J" } : Jvm.MethodName)) ∈ zTs := zTs_b8 37 rfl rfl
theorem zw1718 : (Jvm.Cond.static ({ cls := "RockingHorseModel", name := "common", desc := "(JJ)J" } : Jvm.MethodName)) ∈ zTs := zTs_b8 38 rfl rfl
theorem zw1719 : (Jvm.Cond.code ({ cls := "RockingHorseModel", name := "common", desc := "(JJ)J" } : Jvm.MethodName) prog_10_method_98_code (4 : Nat) (Option.some Jvm.ClassFile.FieldType.long)) ∈ zTs := zTs_b8 39 rfl rfl
theorem zw1728 : (Jvm.Cond.methodLink "RockingHorseModel" (386 : Nat) ({ cls := "RockingHorseModel", name := "well", desc := "()I" } : Jvm.MethodName)) ∈ zTs := zTs_b8 48 rfl rfl
theorem zw1730 : (Jvm.Cond.instanceMethod ({ cls := "RockingHorseModel", name := "well", desc := "()I" } : Jvm.MethodName)) ∈ zTs := zTs_b8 50 rfl rfl
theorem zw1731 : (Jvm.Cond.code ({ cls := "RockingHorseModel", name := "well", desc := "()I" } : Jvm.MethodName) prog_10_method_104_code (1 : Nat) (Option.some Jvm.ClassFile.FieldType.int)) ∈ zTs := zTs_b8 51 rfl rfl
theorem zw1732 : (Jvm.Cond.methodLink "RockingHorseModel" (389 : Nat) ({ cls := "RockingHorseModel", name := "heldParts", desc := "(II)J" } : Jvm.MethodName)) ∈ zTs := zTs_b8 52 rfl rfl
theorem zw1734 : (Jvm.Cond.instanceMethod ({ cls := "RockingHorseModel", name := "heldParts", desc := "(II)J" } : Jvm.MethodName)) ∈ zTs := zTs_b8 54 rfl rfl
theorem zw1735 : (Jvm.Cond.code ({ cls := "RockingHorseModel", name := "heldParts", desc := "(II)J" } : Jvm.MethodName) prog_10_method_103_code (8 : Nat) (Option.some Jvm.ClassFile.FieldType.long)) ∈ zTs := zTs_b8 55 rfl rfl
theorem zw1736 : (Jvm.Cond.methodLink "RockingHorseModel" (382 : Nat) ({ cls := "RockingHorseModel", name := "power", desc := "(JI)J" } : Jvm.MethodName)) ∈ zTs := zTs_b8 56 rfl rfl
theorem zw1737 : (Jvm.Cond.static ({ cls := "RockingHorseModel", name := "power", desc := "(JI)J" } : Jvm.MethodName)) ∈ zTs := zTs_b8 57 rfl rfl
theorem zw1738 : (Jvm.Cond.code ({ cls := "RockingHorseModel", name := "power", desc := "(JI)J" } : Jvm.MethodName) prog_10_method_102_code (6 : Nat) (Option.some Jvm.ClassFile.FieldType.long)) ∈ zTs := zTs_b8 58 rfl rfl
theorem zw1739 : (Jvm.Cond.constantLong "RockingHorseModel" (393 : Nat) (Int64.ofInt (.ofNat 10))) ∈ zTs := zTs_b8 59 rfl rfl
theorem zw1748 : (Jvm.Cond.methodLink "RockingHorseModel" (401 : Nat) ({ cls := "RockingHorseModel", name := "isRest", desc := "(IIII)Z" } : Jvm.MethodName)) ∈ zTs := zTs_b8 68 rfl rfl
theorem zw1749 : (Jvm.Cond.static ({ cls := "RockingHorseModel", name := "isRest", desc := "(IIII)Z" } : Jvm.MethodName)) ∈ zTs := zTs_b8 69 rfl rfl
theorem zw1750 : (Jvm.Cond.code ({ cls := "RockingHorseModel", name := "isRest", desc := "(IIII)Z" } : Jvm.MethodName) prog_10_method_109_code (5 : Nat) (Option.some Jvm.ClassFile.FieldType.boolean)) ∈ zTs := zTs_b8 70 rfl rfl
theorem zw1751 : (Jvm.Cond.methodLink "RockingHorseModel" (395 : Nat) ({ cls := "RockingHorseModel", name := "firstGets", desc := "(III)I" } : Jvm.MethodName)) ∈ zTs := zTs_b8 71 rfl rfl
theorem zw1752 : (Jvm.Cond.static ({ cls := "RockingHorseModel", name := "firstGets", desc := "(III)I" } : Jvm.MethodName)) ∈ zTs := zTs_b8 72 rfl rfl
theorem zw1753 : (Jvm.Cond.code ({ cls := "RockingHorseModel", name := "firstGets", desc := "(III)I" } : Jvm.MethodName) prog_10_method_107_code (3 : Nat) (Option.some Jvm.ClassFile.FieldType.int)) ∈ zTs := zTs_b8 73 rfl rfl
theorem zw1754 : (Jvm.Cond.methodLink "RockingHorseModel" (398 : Nat) ({ cls := "RockingHorseModel", name := "otherGets", desc := "(III)I" } : Jvm.MethodName)) ∈ zTs := zTs_b8 74 rfl rfl
theorem zw1755 : (Jvm.Cond.static ({ cls := "RockingHorseModel", name := "otherGets", desc := "(III)I" } : Jvm.MethodName)) ∈ zTs := zTs_b8 75 rfl rfl
theorem zw1756 : (Jvm.Cond.code ({ cls := "RockingHorseModel", name := "otherGets", desc := "(III)I" } : Jvm.MethodName) prog_10_method_108_code (3 : Nat) (Option.some Jvm.ClassFile.FieldType.int)) ∈ zTs := zTs_b8 76 rfl rfl
theorem zw1761 : (Jvm.Cond.methodLink "RockingHorseModel" (405 : Nat) ({ cls := "RockingHorseModel", name := "hardOfRota", desc := "()I" } : Jvm.MethodName)) ∈ zTs := zTs_b8 81 rfl rfl
theorem zw1763 : (Jvm.Cond.instanceMethod ({ cls := "RockingHorseModel", name := "hardOfRota", desc := "()I" } : Jvm.MethodName)) ∈ zTs := zTs_b8 83 rfl rfl
theorem zw1764 : (Jvm.Cond.code ({ cls := "RockingHorseModel", name := "hardOfRota", desc := "()I" } : Jvm.MethodName) prog_10_method_111_code (3 : Nat) (Option.some Jvm.ClassFile.FieldType.int)) ∈ zTs := zTs_b8 84 rfl rfl
theorem zw1769 : (Jvm.Cond.methodLink "RockingHorseModel" (412 : Nat) ({ cls := "RockingHorseModel", name := "draw", desc := "(I)I" } : Jvm.MethodName)) ∈ zTs := zTs_b8 89 rfl rfl
theorem zw1771 : (Jvm.Cond.instanceMethod ({ cls := "RockingHorseModel", name := "draw", desc := "(I)I" } : Jvm.MethodName)) ∈ zTs := zTs_b8 91 rfl rfl
theorem zw1772 : (Jvm.Cond.code ({ cls := "RockingHorseModel", name := "draw", desc := "(I)I" } : Jvm.MethodName) prog_10_method_113_code (2 : Nat) (Option.some Jvm.ClassFile.FieldType.int)) ∈ zTs := zTs_b8 92 rfl rfl
theorem zw1773 : (Jvm.Cond.constant "RockingHorseModel" (411 : Nat) (Int32.ofInt (.ofNat 1103515245))) ∈ zTs := zTs_b8 93 rfl rfl
theorem zw1803 : (Jvm.Cond.fieldLink "java/lang/String" (9 : Nat) "java/lang/String" "value" "[B") ∈ zTs := zTs_b8 123 rfl rfl
theorem zw1804 : (Jvm.Cond.fieldLink "java/lang/String" (15 : Nat) "java/lang/String" "coder" "B") ∈ zTs := zTs_b8 124 rfl rfl
theorem zs0 : (Jvm.Cond.selects "RockingHorse$Rule" ({ cls := "RockingHorse$Rule", name := "readFirst", desc := "()V" } : Jvm.MethodName) ({ cls := "RockingHorse$Rule", name := "readFirst", desc := "()V" } : Jvm.MethodName)) ∈ zTs := zTs_at 0 rfl rfl
theorem zs1 : (Jvm.Cond.selects "RockingHorse$Rule" ({ cls := "RockingHorse$Rule", name := "begin", desc := "()V" } : Jvm.MethodName) ({ cls := "RockingHorse$Rule", name := "begin", desc := "()V" } : Jvm.MethodName)) ∈ zTs := zTs_at 1 rfl rfl
theorem zs2 : (Jvm.Cond.selects "RockingHorse$Rule" ({ cls := "RockingHorse$Rule", name := "takeThing", desc := "(I)Z" } : Jvm.MethodName) ({ cls := "RockingHorse$Rule", name := "takeThing", desc := "(I)Z" } : Jvm.MethodName)) ∈ zTs := zTs_at 2 rfl rfl
theorem zs3 : (Jvm.Cond.selects "RockingHorse$Rule" ({ cls := "RockingHorse$Rule", name := "await", desc := "(I)V" } : Jvm.MethodName) ({ cls := "RockingHorse$Rule", name := "await", desc := "(I)V" } : Jvm.MethodName)) ∈ zTs := zTs_at 3 rfl rfl
theorem zs4 : (Jvm.Cond.selects "RockingHorse$Rule" ({ cls := "RockingHorse$Rule", name := "openBracket", desc := "()Z" } : Jvm.MethodName) ({ cls := "RockingHorse$Rule", name := "openBracket", desc := "()Z" } : Jvm.MethodName)) ∈ zTs := zTs_at 4 rfl rfl
theorem zs5 : (Jvm.Cond.selects "RockingHorse$Rule" ({ cls := "RockingHorse$Rule", name := "emit", desc := "(I)V" } : Jvm.MethodName) ({ cls := "RockingHorse$Rule", name := "emit", desc := "(I)V" } : Jvm.MethodName)) ∈ zTs := zTs_at 5 rfl rfl
theorem zs6 : (Jvm.Cond.selects "RockingHorse$Rule" ({ cls := "RockingHorse$Rule", name := "takeBehindThing", desc := "(I)Z" } : Jvm.MethodName) ({ cls := "RockingHorse$Rule", name := "takeBehindThing", desc := "(I)Z" } : Jvm.MethodName)) ∈ zTs := zTs_at 6 rfl rfl
theorem zs7 : (Jvm.Cond.selects "RockingHorse$Rule" ({ cls := "RockingHorse$Rule", name := "takeDigitMore", desc := "(I)Z" } : Jvm.MethodName) ({ cls := "RockingHorse$Rule", name := "takeDigitMore", desc := "(I)Z" } : Jvm.MethodName)) ∈ zTs := zTs_at 7 rfl rfl
theorem zs8 : (Jvm.Cond.selects "RockingHorse$Rule" ({ cls := "RockingHorse$Rule", name := "closeBracket", desc := "()Z" } : Jvm.MethodName) ({ cls := "RockingHorse$Rule", name := "closeBracket", desc := "()Z" } : Jvm.MethodName)) ∈ zTs := zTs_at 8 rfl rfl
theorem zs9 : (Jvm.Cond.selects "RockingHorse$Rule" ({ cls := "RockingHorse$Rule", name := "reckonDownTo", desc := "(I)V" } : Jvm.MethodName) ({ cls := "RockingHorse$Rule", name := "reckonDownTo", desc := "(I)V" } : Jvm.MethodName)) ∈ zTs := zTs_at 9 rfl rfl
theorem zs10 : (Jvm.Cond.selects "RockingHorse$Text" ({ cls := "RockingHorse$Text", name := "add", desc := "(I)I" } : Jvm.MethodName) ({ cls := "RockingHorse$Text", name := "add", desc := "(I)I" } : Jvm.MethodName)) ∈ zTs := zTs_at 10 rfl rfl
theorem zs11 : (Jvm.Cond.selects "RockingHorse$Text" ({ cls := "RockingHorse$Text", name := "cut", desc := "(I)Z" } : Jvm.MethodName) ({ cls := "RockingHorse$Text", name := "cut", desc := "(I)Z" } : Jvm.MethodName)) ∈ zTs := zTs_at 11 rfl rfl
theorem zs12 : (Jvm.Cond.selects "RockingHorse$House" ({ cls := "RockingHorse$House", name := "readRiders", desc := "(LRockingHorse$Text;)I" } : Jvm.MethodName) ({ cls := "RockingHorse$House", name := "readRiders", desc := "(LRockingHorse$Text;)I" } : Jvm.MethodName)) ∈ zTs := zTs_at 12 rfl rfl
theorem zs13 : (Jvm.Cond.selects "RockingHorse$Text" ({ cls := "RockingHorse$Text", name := "at", desc := "(I)I" } : Jvm.MethodName) ({ cls := "RockingHorse$Text", name := "at", desc := "(I)I" } : Jvm.MethodName)) ∈ zTs := zTs_at 13 rfl rfl
theorem zs14 : (Jvm.Cond.selects "RockingHorse$House" ({ cls := "RockingHorse$House", name := "takeSign", desc := "(III)I" } : Jvm.MethodName) ({ cls := "RockingHorse$House", name := "takeSign", desc := "(III)I" } : Jvm.MethodName)) ∈ zTs := zTs_at 14 rfl rfl
theorem zs15 : (Jvm.Cond.selects "RockingHorse$House" ({ cls := "RockingHorse$House", name := "takeMost", desc := "(II)I" } : Jvm.MethodName) ({ cls := "RockingHorse$House", name := "takeMost", desc := "(II)I" } : Jvm.MethodName)) ∈ zTs := zTs_at 15 rfl rfl
theorem zs16 : (Jvm.Cond.selects "RockingHorse$House" ({ cls := "RockingHorse$House", name := "takeWidth", desc := "(II)I" } : Jvm.MethodName) ({ cls := "RockingHorse$House", name := "takeWidth", desc := "(II)I" } : Jvm.MethodName)) ∈ zTs := zTs_at 16 rfl rfl
theorem zs17 : (Jvm.Cond.selects "RockingHorse$House" ({ cls := "RockingHorse$House", name := "takeHour", desc := "(II)I" } : Jvm.MethodName) ({ cls := "RockingHorse$House", name := "takeHour", desc := "(II)I" } : Jvm.MethodName)) ∈ zTs := zTs_at 17 rfl rfl
theorem zs18 : (Jvm.Cond.selects "RockingHorse$Text" ({ cls := "RockingHorse$Text", name := "empty", desc := "()V" } : Jvm.MethodName) ({ cls := "RockingHorse$Text", name := "empty", desc := "()V" } : Jvm.MethodName)) ∈ zTs := zTs_at 18 rfl rfl
theorem zs19 : (Jvm.Cond.selects "RockingHorse$Past" ({ cls := "RockingHorse$Past", name := "clear", desc := "()V" } : Jvm.MethodName) ({ cls := "RockingHorse$Past", name := "clear", desc := "()V" } : Jvm.MethodName)) ∈ zTs := zTs_at 19 rfl rfl
theorem zs20 : (Jvm.Cond.selects "RockingHorse" ({ cls := "RockingHorse", name := "forgetKept", desc := "()V" } : Jvm.MethodName) ({ cls := "RockingHorse", name := "forgetKept", desc := "()V" } : Jvm.MethodName)) ∈ zTs := zTs_at 20 rfl rfl
theorem zs21 : (Jvm.Cond.selects "RockingHorse" ({ cls := "RockingHorse", name := "readSpare", desc := "()I" } : Jvm.MethodName) ({ cls := "RockingHorse", name := "readSpare", desc := "()I" } : Jvm.MethodName)) ∈ zTs := zTs_at 21 rfl rfl
theorem zs22 : (Jvm.Cond.selects "RockingHorse$Rule" ({ cls := "RockingHorse$Rule", name := "read", desc := "(LRockingHorse$Text;)I" } : Jvm.MethodName) ({ cls := "RockingHorse$Rule", name := "read", desc := "(LRockingHorse$Text;)I" } : Jvm.MethodName)) ∈ zTs := zTs_at 22 rfl rfl
theorem zs23 : (Jvm.Cond.selects "RockingHorse$House" ({ cls := "RockingHorse$House", name := "has", desc := "(I)Z" } : Jvm.MethodName) ({ cls := "RockingHorse$House", name := "has", desc := "(I)Z" } : Jvm.MethodName)) ∈ zTs := zTs_at 23 rfl rfl
theorem zs24 : (Jvm.Cond.selects "RockingHorse" ({ cls := "RockingHorse", name := "hardNow", desc := "(II)I" } : Jvm.MethodName) ({ cls := "RockingHorse", name := "hardNow", desc := "(II)I" } : Jvm.MethodName)) ∈ zTs := zTs_at 24 rfl rfl
theorem zs25 : (Jvm.Cond.selects "RockingHorse$House" ({ cls := "RockingHorse$House", name := "hardBy", desc := "(LRockingHorse$Rule;LRockingHorse$State;II)I" } : Jvm.MethodName) ({ cls := "RockingHorse$House", name := "hardBy", desc := "(LRockingHorse$Rule;LRockingHorse$State;II)I" } : Jvm.MethodName)) ∈ zTs := zTs_at 25 rfl rfl
theorem zs26 : (Jvm.Cond.selects "RockingHorse$Rule" ({ cls := "RockingHorse$Rule", name := "value", desc := "([I)I" } : Jvm.MethodName) ({ cls := "RockingHorse$Rule", name := "value", desc := "([I)I" } : Jvm.MethodName)) ∈ zTs := zTs_at 26 rfl rfl
theorem zs27 : (Jvm.Cond.selects "RockingHorse$Rule" ({ cls := "RockingHorse$Rule", name := "push", desc := "(II)I" } : Jvm.MethodName) ({ cls := "RockingHorse$Rule", name := "push", desc := "(II)I" } : Jvm.MethodName)) ∈ zTs := zTs_at 27 rfl rfl
theorem zs28 : (Jvm.Cond.selects "RockingHorse$State" ({ cls := "RockingHorse$State", name := "tiredOfAll", desc := "()I" } : Jvm.MethodName) ({ cls := "RockingHorse$State", name := "tiredOfAll", desc := "()I" } : Jvm.MethodName)) ∈ zTs := zTs_at 28 rfl rfl
theorem zs29 : (Jvm.Cond.selects "RockingHorse" ({ cls := "RockingHorse", name := "rotaFault", desc := "()I" } : Jvm.MethodName) ({ cls := "RockingHorse", name := "rotaFault", desc := "()I" } : Jvm.MethodName)) ∈ zTs := zTs_at 29 rfl rfl
theorem zs30 : (Jvm.Cond.selects "RockingHorse$State" ({ cls := "RockingHorse$State", name := "copy", desc := "(LRockingHorse$State;)V" } : Jvm.MethodName) ({ cls := "RockingHorse$State", name := "copy", desc := "(LRockingHorse$State;)V" } : Jvm.MethodName)) ∈ zTs := zTs_at 30 rfl rfl
theorem zs31 : (Jvm.Cond.selects "RockingHorse" ({ cls := "RockingHorse", name := "takeRota", desc := "()I" } : Jvm.MethodName) ({ cls := "RockingHorse", name := "takeRota", desc := "()I" } : Jvm.MethodName)) ∈ zTs := zTs_at 31 rfl rfl
theorem zs32 : (Jvm.Cond.selects "RockingHorse$Past" ({ cls := "RockingHorse$Past", name := "push", desc := "(LRockingHorse$State;)V" } : Jvm.MethodName) ({ cls := "RockingHorse$Past", name := "push", desc := "(LRockingHorse$State;)V" } : Jvm.MethodName)) ∈ zTs := zTs_at 32 rfl rfl
theorem zs33 : (Jvm.Cond.selects "RockingHorse$House" ({ cls := "RockingHorse$House", name := "isSomebodyOrNobody", desc := "(I)Z" } : Jvm.MethodName) ({ cls := "RockingHorse$House", name := "isSomebodyOrNobody", desc := "(I)Z" } : Jvm.MethodName)) ∈ zTs := zTs_at 33 rfl rfl
theorem zs34 : (Jvm.Cond.selects "RockingHorse$State" ({ cls := "RockingHorse$State", name := "turnIll", desc := "(I)V" } : Jvm.MethodName) ({ cls := "RockingHorse$State", name := "turnIll", desc := "(I)V" } : Jvm.MethodName)) ∈ zTs := zTs_at 34 rfl rfl
theorem zs35 : (Jvm.Cond.selects "RockingHorse$House" ({ cls := "RockingHorse$House", name := "passAll", desc := "(LRockingHorse$State;I)V" } : Jvm.MethodName) ({ cls := "RockingHorse$House", name := "passAll", desc := "(LRockingHorse$State;I)V" } : Jvm.MethodName)) ∈ zTs := zTs_at 35 rfl rfl
theorem zs36 : (Jvm.Cond.selects "RockingHorse$House" ({ cls := "RockingHorse$House", name := "pass", desc := "(LRockingHorse$State;)V" } : Jvm.MethodName) ({ cls := "RockingHorse$House", name := "pass", desc := "(LRockingHorse$State;)V" } : Jvm.MethodName)) ∈ zTs := zTs_at 36 rfl rfl
theorem zs37 : (Jvm.Cond.selects "RockingHorse$House" ({ cls := "RockingHorse$House", name := "watch", desc := "(LRockingHorse$State;)V" } : Jvm.MethodName) ({ cls := "RockingHorse$House", name := "watch", desc := "(LRockingHorse$State;)V" } : Jvm.MethodName)) ∈ zTs := zTs_at 37 rfl rfl
theorem zs38 : (Jvm.Cond.selects "RockingHorse$House" ({ cls := "RockingHorse$House", name := "isAble", desc := "(LRockingHorse$State;II)Z" } : Jvm.MethodName) ({ cls := "RockingHorse$House", name := "isAble", desc := "(LRockingHorse$State;II)Z" } : Jvm.MethodName)) ∈ zTs := zTs_at 38 rfl rfl
theorem zs39 : (Jvm.Cond.selects "RockingHorse$State" ({ cls := "RockingHorse$State", name := "isIll", desc := "(I)Z" } : Jvm.MethodName) ({ cls := "RockingHorse$State", name := "isIll", desc := "(I)Z" } : Jvm.MethodName)) ∈ zTs := zTs_at 39 rfl rfl
theorem zs40 : (Jvm.Cond.selects "RockingHorse$House" ({ cls := "RockingHorse$House", name := "areTwo", desc := "(II)Z" } : Jvm.MethodName) ({ cls := "RockingHorse$House", name := "areTwo", desc := "(II)Z" } : Jvm.MethodName)) ∈ zTs := zTs_at 40 rfl rfl
theorem zs41 : (Jvm.Cond.selects "RockingHorse$House" ({ cls := "RockingHorse$House", name := "differ", desc := "(II)I" } : Jvm.MethodName) ({ cls := "RockingHorse$House", name := "differ", desc := "(II)I" } : Jvm.MethodName)) ∈ zTs := zTs_at 41 rfl rfl
theorem zs42 : (Jvm.Cond.selects "RockingHorse$Numbers" ({ cls := "RockingHorse$Numbers", name := "tell", desc := "(JJ)V" } : Jvm.MethodName) ({ cls := "RockingHorse$Numbers", name := "tell", desc := "(JJ)V" } : Jvm.MethodName)) ∈ zTs := zTs_at 42 rfl rfl
theorem zs43 : (Jvm.Cond.selects "RockingHorse$Numbers" ({ cls := "RockingHorse$Numbers", name := "clear", desc := "()V" } : Jvm.MethodName) ({ cls := "RockingHorse$Numbers", name := "clear", desc := "()V" } : Jvm.MethodName)) ∈ zTs := zTs_at 43 rfl rfl
theorem zs44 : (Jvm.Cond.selects "RockingHorse$Numbers" ({ cls := "RockingHorse$Numbers", name := "add", desc := "(J)V" } : Jvm.MethodName) ({ cls := "RockingHorse$Numbers", name := "add", desc := "(J)V" } : Jvm.MethodName)) ∈ zTs := zTs_at 44 rfl rfl
theorem zs45 : (Jvm.Cond.selects "RockingHorse" ({ cls := "RockingHorse", name := "yearFault", desc := "()I" } : Jvm.MethodName) ({ cls := "RockingHorse", name := "yearFault", desc := "()I" } : Jvm.MethodName)) ∈ zTs := zTs_at 45 rfl rfl
theorem zs46 : (Jvm.Cond.selects "RockingHorse" ({ cls := "RockingHorse", name := "act", desc := "(III)Z" } : Jvm.MethodName) ({ cls := "RockingHorse", name := "act", desc := "(III)Z" } : Jvm.MethodName)) ∈ zTs := zTs_at 46 rfl rfl
theorem zs47 : (Jvm.Cond.selects "RockingHorse" ({ cls := "RockingHorse", name := "actIll", desc := "(I)Z" } : Jvm.MethodName) ({ cls := "RockingHorse", name := "actIll", desc := "(I)Z" } : Jvm.MethodName)) ∈ zTs := zTs_at 47 rfl rfl
theorem zs48 : (Jvm.Cond.selects "RockingHorse" ({ cls := "RockingHorse", name := "actGive", desc := "(II)Z" } : Jvm.MethodName) ({ cls := "RockingHorse", name := "actGive", desc := "(II)Z" } : Jvm.MethodName)) ∈ zTs := zTs_at 48 rfl rfl
theorem zs49 : (Jvm.Cond.selects "RockingHorse" ({ cls := "RockingHorse", name := "actExchange", desc := "(II)Z" } : Jvm.MethodName) ({ cls := "RockingHorse", name := "actExchange", desc := "(II)Z" } : Jvm.MethodName)) ∈ zTs := zTs_at 49 rfl rfl
theorem zs50 : (Jvm.Cond.selects "RockingHorse$Past" ({ cls := "RockingHorse$Past", name := "pop", desc := "(LRockingHorse$State;)I" } : Jvm.MethodName) ({ cls := "RockingHorse$Past", name := "pop", desc := "(LRockingHorse$State;)I" } : Jvm.MethodName)) ∈ zTs := zTs_at 50 rfl rfl
theorem zs51 : (Jvm.Cond.selects "RockingHorse$Numbers" ({ cls := "RockingHorse$Numbers", name := "tell", desc := "(J)V" } : Jvm.MethodName) ({ cls := "RockingHorse$Numbers", name := "tell", desc := "(J)V" } : Jvm.MethodName)) ∈ zTs := zTs_at 51 rfl rfl
theorem zs52 : (Jvm.Cond.selects "RockingHorse$State" ({ cls := "RockingHorse$State", name := "mostTired", desc := "()I" } : Jvm.MethodName) ({ cls := "RockingHorse$State", name := "mostTired", desc := "()I" } : Jvm.MethodName)) ∈ zTs := zTs_at 52 rfl rfl
theorem zs53 : (Jvm.Cond.selects "RockingHorse" ({ cls := "RockingHorse", name := "gapsByTrade", desc := "(II)I" } : Jvm.MethodName) ({ cls := "RockingHorse", name := "gapsByTrade", desc := "(II)I" } : Jvm.MethodName)) ∈ zTs := zTs_at 53 rfl rfl
theorem zs54 : (Jvm.Cond.selects "RockingHorse" ({ cls := "RockingHorse", name := "easiestWithout", desc := "(I)J" } : Jvm.MethodName) ({ cls := "RockingHorse", name := "easiestWithout", desc := "(I)J" } : Jvm.MethodName)) ∈ zTs := zTs_at 54 rfl rfl
theorem zs55 : (Jvm.Cond.selects "RockingHorse" ({ cls := "RockingHorse", name := "openSeats", desc := "(I)V" } : Jvm.MethodName) ({ cls := "RockingHorse", name := "openSeats", desc := "(I)V" } : Jvm.MethodName)) ∈ zTs := zTs_at 55 rfl rfl
theorem zs56 : (Jvm.Cond.selects "RockingHorse$Seats" ({ cls := "RockingHorse$Seats", name := "open", desc := "(I)V" } : Jvm.MethodName) ({ cls := "RockingHorse$Seats", name := "open", desc := "(I)V" } : Jvm.MethodName)) ∈ zTs := zTs_at 56 rfl rfl
theorem zs57 : (Jvm.Cond.selects "RockingHorse$Seats" ({ cls := "RockingHorse$Seats", name := "seat", desc := "(III)V" } : Jvm.MethodName) ({ cls := "RockingHorse$Seats", name := "seat", desc := "(III)V" } : Jvm.MethodName)) ∈ zTs := zTs_at 57 rfl rfl
theorem zs58 : (Jvm.Cond.selects "RockingHorse" ({ cls := "RockingHorse", name := "priceByHard", desc := "()V" } : Jvm.MethodName) ({ cls := "RockingHorse", name := "priceByHard", desc := "()V" } : Jvm.MethodName)) ∈ zTs := zTs_at 58 rfl rfl
theorem zs59 : (Jvm.Cond.selects "RockingHorse$Seats" ({ cls := "RockingHorse$Seats", name := "price", desc := "(III)V" } : Jvm.MethodName) ({ cls := "RockingHorse$Seats", name := "price", desc := "(III)V" } : Jvm.MethodName)) ∈ zTs := zTs_at 59 rfl rfl
theorem zs60 : (Jvm.Cond.selects "RockingHorse$Seats" ({ cls := "RockingHorse$Seats", name := "charge", desc := "(IIJ)V" } : Jvm.MethodName) ({ cls := "RockingHorse$Seats", name := "charge", desc := "(IIJ)V" } : Jvm.MethodName)) ∈ zTs := zTs_at 60 rfl rfl
theorem zs61 : (Jvm.Cond.selects "RockingHorse$Seats" ({ cls := "RockingHorse$Seats", name := "least", desc := "()J" } : Jvm.MethodName) ({ cls := "RockingHorse$Seats", name := "least", desc := "()J" } : Jvm.MethodName)) ∈ zTs := zTs_at 61 rfl rfl
theorem zs62 : (Jvm.Cond.selects "RockingHorse$Seats" ({ cls := "RockingHorse$Seats", name := "weigh", desc := "(I)V" } : Jvm.MethodName) ({ cls := "RockingHorse$Seats", name := "weigh", desc := "(I)V" } : Jvm.MethodName)) ∈ zTs := zTs_at 62 rfl rfl
theorem zs63 : (Jvm.Cond.selects "RockingHorse$Seats" ({ cls := "RockingHorse$Seats", name := "addLeast", desc := "(I)V" } : Jvm.MethodName) ({ cls := "RockingHorse$Seats", name := "addLeast", desc := "(I)V" } : Jvm.MethodName)) ∈ zTs := zTs_at 63 rfl rfl
theorem zs64 : (Jvm.Cond.selects "RockingHorse$Seats" ({ cls := "RockingHorse$Seats", name := "addStep", desc := "(I)V" } : Jvm.MethodName) ({ cls := "RockingHorse$Seats", name := "addStep", desc := "(I)V" } : Jvm.MethodName)) ∈ zTs := zTs_at 64 rfl rfl
theorem zs65 : (Jvm.Cond.selects "RockingHorse" ({ cls := "RockingHorse", name := "tellRota", desc := "(J)I" } : Jvm.MethodName) ({ cls := "RockingHorse", name := "tellRota", desc := "(J)I" } : Jvm.MethodName)) ∈ zTs := zTs_at 65 rfl rfl
theorem zs66 : (Jvm.Cond.selects "RockingHorse$Seats" ({ cls := "RockingHorse$Seats", name := "canHold", desc := "(I)Z" } : Jvm.MethodName) ({ cls := "RockingHorse$Seats", name := "canHold", desc := "(I)Z" } : Jvm.MethodName)) ∈ zTs := zTs_at 66 rfl rfl
theorem zs67 : (Jvm.Cond.selects "RockingHorse" ({ cls := "RockingHorse", name := "tellWays", desc := "()I" } : Jvm.MethodName) ({ cls := "RockingHorse", name := "tellWays", desc := "()I" } : Jvm.MethodName)) ∈ zTs := zTs_at 67 rfl rfl
theorem zs68 : (Jvm.Cond.selects "RockingHorse$Seats" ({ cls := "RockingHorse$Seats", name := "ways", desc := "()I" } : Jvm.MethodName) ({ cls := "RockingHorse$Seats", name := "ways", desc := "()I" } : Jvm.MethodName)) ∈ zTs := zTs_at 68 rfl rfl
theorem zs69 : (Jvm.Cond.selects "RockingHorse$Seats" ({ cls := "RockingHorse$Seats", name := "addWays", desc := "([IIII)V" } : Jvm.MethodName) ({ cls := "RockingHorse$Seats", name := "addWays", desc := "([IIII)V" } : Jvm.MethodName)) ∈ zTs := zTs_at 69 rfl rfl
theorem zs70 : (Jvm.Cond.selects "RockingHorse" ({ cls := "RockingHorse", name := "priceByName", desc := "()V" } : Jvm.MethodName) ({ cls := "RockingHorse", name := "priceByName", desc := "()V" } : Jvm.MethodName)) ∈ zTs := zTs_at 70 rfl rfl
theorem zs71 : (Jvm.Cond.selects "RockingHorse" ({ cls := "RockingHorse", name := "priceByDifference", desc := "()V" } : Jvm.MethodName) ({ cls := "RockingHorse", name := "priceByDifference", desc := "()V" } : Jvm.MethodName)) ∈ zTs := zTs_at 71 rfl rfl
theorem zs72 : (Jvm.Cond.selects "RockingHorse$Seats" ({ cls := "RockingHorse$Seats", name := "leastMost", desc := "()J" } : Jvm.MethodName) ({ cls := "RockingHorse$Seats", name := "leastMost", desc := "()J" } : Jvm.MethodName)) ∈ zTs := zTs_at 72 rfl rfl
theorem zs73 : (Jvm.Cond.selects "RockingHorse$Seats" ({ cls := "RockingHorse$Seats", name := "addLeastMost", desc := "(I)V" } : Jvm.MethodName) ({ cls := "RockingHorse$Seats", name := "addLeastMost", desc := "(I)V" } : Jvm.MethodName)) ∈ zTs := zTs_at 73 rfl rfl
theorem zs74 : (Jvm.Cond.selects "RockingHorse" ({ cls := "RockingHorse", name := "wellOnes", desc := "()I" } : Jvm.MethodName) ({ cls := "RockingHorse", name := "wellOnes", desc := "()I" } : Jvm.MethodName)) ∈ zTs := zTs_at 74 rfl rfl
theorem zs75 : (Jvm.Cond.selects "RockingHorse" ({ cls := "RockingHorse", name := "leastHard", desc := "(II)I" } : Jvm.MethodName) ({ cls := "RockingHorse", name := "leastHard", desc := "(II)I" } : Jvm.MethodName)) ∈ zTs := zTs_at 75 rfl rfl
theorem zs76 : (Jvm.Cond.selects "RockingHorse" ({ cls := "RockingHorse", name := "hardestOf", desc := "(I)I" } : Jvm.MethodName) ({ cls := "RockingHorse", name := "hardestOf", desc := "(I)I" } : Jvm.MethodName)) ∈ zTs := zTs_at 76 rfl rfl
theorem zs77 : (Jvm.Cond.selects "RockingHorse$Seats" ({ cls := "RockingHorse$Seats", name := "orderByWidth", desc := "([II)V" } : Jvm.MethodName) ({ cls := "RockingHorse$Seats", name := "orderByWidth", desc := "([II)V" } : Jvm.MethodName)) ∈ zTs := zTs_at 77 rfl rfl
theorem zs78 : (Jvm.Cond.selects "RockingHorse" ({ cls := "RockingHorse", name := "openFitting", desc := "()V" } : Jvm.MethodName) ({ cls := "RockingHorse", name := "openFitting", desc := "()V" } : Jvm.MethodName)) ∈ zTs := zTs_at 78 rfl rfl
theorem zs79 : (Jvm.Cond.selects "RockingHorse$Seats" ({ cls := "RockingHorse$Seats", name := "holdTo", desc := "(II)V" } : Jvm.MethodName) ({ cls := "RockingHorse$Seats", name := "holdTo", desc := "(II)V" } : Jvm.MethodName)) ∈ zTs := zTs_at 79 rfl rfl
theorem zs80 : (Jvm.Cond.selects "RockingHorse$Seats" ({ cls := "RockingHorse$Seats", name := "bar", desc := "(II)V" } : Jvm.MethodName) ({ cls := "RockingHorse$Seats", name := "bar", desc := "(II)V" } : Jvm.MethodName)) ∈ zTs := zTs_at 80 rfl rfl
theorem zs81 : (Jvm.Cond.selects "RockingHorse" ({ cls := "RockingHorse", name := "tellFraction", desc := "(JJ)V" } : Jvm.MethodName) ({ cls := "RockingHorse", name := "tellFraction", desc := "(JJ)V" } : Jvm.MethodName)) ∈ zTs := zTs_at 81 rfl rfl
theorem zs82 : (Jvm.Cond.selects "RockingHorse$Seats" ({ cls := "RockingHorse$Seats", name := "tallyAll", desc := "()V" } : Jvm.MethodName) ({ cls := "RockingHorse$Seats", name := "tallyAll", desc := "()V" } : Jvm.MethodName)) ∈ zTs := zTs_at 82 rfl rfl
theorem zs83 : (Jvm.Cond.selects "RockingHorse$Seats" ({ cls := "RockingHorse$Seats", name := "tallyRider", desc := "(I)V" } : Jvm.MethodName) ({ cls := "RockingHorse$Seats", name := "tallyRider", desc := "(I)V" } : Jvm.MethodName)) ∈ zTs := zTs_at 83 rfl rfl
theorem zs84 : (Jvm.Cond.selects "RockingHorse$Seats" ({ cls := "RockingHorse$Seats", name := "waysRound", desc := "(II)I" } : Jvm.MethodName) ({ cls := "RockingHorse$Seats", name := "waysRound", desc := "(II)I" } : Jvm.MethodName)) ∈ zTs := zTs_at 84 rfl rfl
theorem zs85 : (Jvm.Cond.selects "RockingHorse$Seats" ({ cls := "RockingHorse$Seats", name := "mostIn", desc := "(I)I" } : Jvm.MethodName) ({ cls := "RockingHorse$Seats", name := "mostIn", desc := "(I)I" } : Jvm.MethodName)) ∈ zTs := zTs_at 85 rfl rfl
theorem zs86 : (Jvm.Cond.selects "RockingHorse$Seats" ({ cls := "RockingHorse$Seats", name := "findLacks", desc := "()V" } : Jvm.MethodName) ({ cls := "RockingHorse$Seats", name := "findLacks", desc := "()V" } : Jvm.MethodName)) ∈ zTs := zTs_at 86 rfl rfl
theorem zs87 : (Jvm.Cond.selects "RockingHorse$Seats" ({ cls := "RockingHorse$Seats", name := "findLacksIn", desc := "(I)V" } : Jvm.MethodName) ({ cls := "RockingHorse$Seats", name := "findLacksIn", desc := "(I)V" } : Jvm.MethodName)) ∈ zTs := zTs_at 87 rfl rfl
theorem zs88 : (Jvm.Cond.selects "RockingHorse" ({ cls := "RockingHorse", name := "chance", desc := "(II)J" } : Jvm.MethodName) ({ cls := "RockingHorse", name := "chance", desc := "(II)J" } : Jvm.MethodName)) ∈ zTs := zTs_at 88 rfl rfl
theorem zs89 : (Jvm.Cond.selects "RockingHorse$Seats" ({ cls := "RockingHorse$Seats", name := "lacks", desc := "(I)Z" } : Jvm.MethodName) ({ cls := "RockingHorse$Seats", name := "lacks", desc := "(I)Z" } : Jvm.MethodName)) ∈ zTs := zTs_at 89 rfl rfl
theorem zs90 : (Jvm.Cond.selects "RockingHorse" ({ cls := "RockingHorse", name := "hardOfRota", desc := "(LRockingHorse$Rule;)I" } : Jvm.MethodName) ({ cls := "RockingHorse", name := "hardOfRota", desc := "(LRockingHorse$Rule;)I" } : Jvm.MethodName)) ∈ zTs := zTs_at 90 rfl rfl
theorem zs91 : (Jvm.Cond.selects "RockingHorse" ({ cls := "RockingHorse", name := "drawAct", desc := "()V" } : Jvm.MethodName) ({ cls := "RockingHorse", name := "drawAct", desc := "()V" } : Jvm.MethodName)) ∈ zTs := zTs_at 91 rfl rfl
theorem zs92 : (Jvm.Cond.selects "RockingHorse" ({ cls := "RockingHorse", name := "draw", desc := "(I)I" } : Jvm.MethodName) ({ cls := "RockingHorse", name := "draw", desc := "(I)I" } : Jvm.MethodName)) ∈ zTs := zTs_at 92 rfl rfl
theorem zs94 : (Jvm.Cond.selects "RockingHorse$State" ({ cls := "RockingHorse$State", name := "hoursOf", desc := "(I)I" } : Jvm.MethodName) ({ cls := "RockingHorse$State", name := "hoursOf", desc := "(I)I" } : Jvm.MethodName)) ∈ zTs := zTs_at 94 rfl rfl
theorem zs95 : (Jvm.Cond.selects "RockingHorse$Numbers" ({ cls := "RockingHorse$Numbers", name := "at", desc := "(I)J" } : Jvm.MethodName) ({ cls := "RockingHorse$Numbers", name := "at", desc := "(I)J" } : Jvm.MethodName)) ∈ zTs := zTs_at 95 rfl rfl
theorem zs96 : (Jvm.Cond.selects "RockingHorseModel" ({ cls := "RockingHorseModel", name := "beginText", desc := "(I)V" } : Jvm.MethodName) ({ cls := "RockingHorseModel", name := "beginText", desc := "(I)V" } : Jvm.MethodName)) ∈ zTs := zTs_at 96 rfl rfl
theorem zs97 : (Jvm.Cond.selects "RockingHorseModel" ({ cls := "RockingHorseModel", name := "begin", desc := "([BII)V" } : Jvm.MethodName) ({ cls := "RockingHorseModel", name := "begin", desc := "([BII)V" } : Jvm.MethodName)) ∈ zTs := zTs_at 97 rfl rfl
theorem zs98 : (Jvm.Cond.selects "RockingHorseModel" ({ cls := "RockingHorseModel", name := "fine", desc := "()Z" } : Jvm.MethodName) ({ cls := "RockingHorseModel", name := "fine", desc := "()Z" } : Jvm.MethodName)) ∈ zTs := zTs_at 98 rfl rfl
theorem zs99 : (Jvm.Cond.selects "RockingHorseModel" ({ cls := "RockingHorseModel", name := "fault", desc := "(I)V" } : Jvm.MethodName) ({ cls := "RockingHorseModel", name := "fault", desc := "(I)V" } : Jvm.MethodName)) ∈ zTs := zTs_at 99 rfl rfl
theorem zs100 : (Jvm.Cond.selects "RockingHorseModel" ({ cls := "RockingHorseModel", name := "readMan", desc := "(I)V" } : Jvm.MethodName) ({ cls := "RockingHorseModel", name := "readMan", desc := "(I)V" } : Jvm.MethodName)) ∈ zTs := zTs_at 100 rfl rfl
theorem zs101 : (Jvm.Cond.selects "RockingHorseModel" ({ cls := "RockingHorseModel", name := "oneOf", desc := "(CI)I" } : Jvm.MethodName) ({ cls := "RockingHorseModel", name := "oneOf", desc := "(CI)I" } : Jvm.MethodName)) ∈ zTs := zTs_at 101 rfl rfl
theorem zs102 : (Jvm.Cond.selects "RockingHorseModel" ({ cls := "RockingHorseModel", name := "here", desc := "()I" } : Jvm.MethodName) ({ cls := "RockingHorseModel", name := "here", desc := "()I" } : Jvm.MethodName)) ∈ zTs := zTs_at 102 rfl rfl
theorem zs103 : (Jvm.Cond.selects "RockingHorseModel" ({ cls := "RockingHorseModel", name := "passes", desc := "(C)Z" } : Jvm.MethodName) ({ cls := "RockingHorseModel", name := "passes", desc := "(C)Z" } : Jvm.MethodName)) ∈ zTs := zTs_at 103 rfl rfl
theorem zs104 : (Jvm.Cond.selects "RockingHorseModel" ({ cls := "RockingHorseModel", name := "wasRight", desc := "()Z" } : Jvm.MethodName) ({ cls := "RockingHorseModel", name := "wasRight", desc := "()Z" } : Jvm.MethodName)) ∈ zTs := zTs_at 104 rfl rfl
theorem zs105 : (Jvm.Cond.selects "RockingHorseModel" ({ cls := "RockingHorseModel", name := "readRule", desc := "()Z" } : Jvm.MethodName) ({ cls := "RockingHorseModel", name := "readRule", desc := "()Z" } : Jvm.MethodName)) ∈ zTs := zTs_at 105 rfl rfl
theorem zs106 : (Jvm.Cond.selects "RockingHorseModel" ({ cls := "RockingHorseModel", name := "heldBy", desc := "(I)I" } : Jvm.MethodName) ({ cls := "RockingHorseModel", name := "heldBy", desc := "(I)I" } : Jvm.MethodName)) ∈ zTs := zTs_at 106 rfl rfl
theorem zs107 : (Jvm.Cond.selects "RockingHorseModel" ({ cls := "RockingHorseModel", name := "sum", desc := "(I)I" } : Jvm.MethodName) ({ cls := "RockingHorseModel", name := "sum", desc := "(I)I" } : Jvm.MethodName)) ∈ zTs := zTs_at 107 rfl rfl
theorem zs108 : (Jvm.Cond.selects "RockingHorseModel" ({ cls := "RockingHorseModel", name := "product", desc := "(I)I" } : Jvm.MethodName) ({ cls := "RockingHorseModel", name := "product", desc := "(I)I" } : Jvm.MethodName)) ∈ zTs := zTs_at 108 rfl rfl
theorem zs109 : (Jvm.Cond.selects "RockingHorseModel" ({ cls := "RockingHorseModel", name := "thing", desc := "(I)I" } : Jvm.MethodName) ({ cls := "RockingHorseModel", name := "thing", desc := "(I)I" } : Jvm.MethodName)) ∈ zTs := zTs_at 109 rfl rfl
theorem zs110 : (Jvm.Cond.selects "RockingHorseModel" ({ cls := "RockingHorseModel", name := "need", desc := "(C)V" } : Jvm.MethodName) ({ cls := "RockingHorseModel", name := "need", desc := "(C)V" } : Jvm.MethodName)) ∈ zTs := zTs_at 110 rfl rfl
theorem zs111 : (Jvm.Cond.selects "RockingHorseModel" ({ cls := "RockingHorseModel", name := "number", desc := "(I)I" } : Jvm.MethodName) ({ cls := "RockingHorseModel", name := "number", desc := "(I)I" } : Jvm.MethodName)) ∈ zTs := zTs_at 111 rfl rfl
theorem zs112 : (Jvm.Cond.selects "RockingHorseModel" ({ cls := "RockingHorseModel", name := "isMan", desc := "(I)Z" } : Jvm.MethodName) ({ cls := "RockingHorseModel", name := "isMan", desc := "(I)Z" } : Jvm.MethodName)) ∈ zTs := zTs_at 112 rfl rfl
theorem zs113 : (Jvm.Cond.selects "RockingHorseModel" ({ cls := "RockingHorseModel", name := "lost", desc := "()I" } : Jvm.MethodName) ({ cls := "RockingHorseModel", name := "lost", desc := "()I" } : Jvm.MethodName)) ∈ zTs := zTs_at 113 rfl rfl
theorem zs114 : (Jvm.Cond.selects "RockingHorseModel" ({ cls := "RockingHorseModel", name := "hoursOf", desc := "([II)I" } : Jvm.MethodName) ({ cls := "RockingHorseModel", name := "hoursOf", desc := "([II)I" } : Jvm.MethodName)) ∈ zTs := zTs_at 114 rfl rfl
theorem zs115 : (Jvm.Cond.selects "RockingHorseModel" ({ cls := "RockingHorseModel", name := "hardOf", desc := "([III)I" } : Jvm.MethodName) ({ cls := "RockingHorseModel", name := "hardOf", desc := "([III)I" } : Jvm.MethodName)) ∈ zTs := zTs_at 115 rfl rfl
theorem zs116 : (Jvm.Cond.selects "RockingHorseModel" ({ cls := "RockingHorseModel", name := "remember", desc := "([I)V" } : Jvm.MethodName) ({ cls := "RockingHorseModel", name := "remember", desc := "([I)V" } : Jvm.MethodName)) ∈ zTs := zTs_at 116 rfl rfl
theorem zs117 : (Jvm.Cond.selects "RockingHorseModel" ({ cls := "RockingHorseModel", name := "isGift", desc := "(II)Z" } : Jvm.MethodName) ({ cls := "RockingHorseModel", name := "isGift", desc := "(II)Z" } : Jvm.MethodName)) ∈ zTs := zTs_at 117 rfl rfl
theorem zs118 : (Jvm.Cond.selects "RockingHorseModel" ({ cls := "RockingHorseModel", name := "illBits", desc := "([I)I" } : Jvm.MethodName) ({ cls := "RockingHorseModel", name := "illBits", desc := "([I)I" } : Jvm.MethodName)) ∈ zTs := zTs_at 118 rfl rfl
theorem zs119 : (Jvm.Cond.selects "RockingHorseModel" ({ cls := "RockingHorseModel", name := "goNights", desc := "([II)V" } : Jvm.MethodName) ({ cls := "RockingHorseModel", name := "goNights", desc := "([II)V" } : Jvm.MethodName)) ∈ zTs := zTs_at 119 rfl rfl
theorem zs120 : (Jvm.Cond.selects "RockingHorseModel" ({ cls := "RockingHorseModel", name := "goNight", desc := "([I)V" } : Jvm.MethodName) ({ cls := "RockingHorseModel", name := "goNight", desc := "([I)V" } : Jvm.MethodName)) ∈ zTs := zTs_at 120 rfl rfl
theorem zs121 : (Jvm.Cond.selects "RockingHorseModel" ({ cls := "RockingHorseModel", name := "tell", desc := "(J)V" } : Jvm.MethodName) ({ cls := "RockingHorseModel", name := "tell", desc := "(J)V" } : Jvm.MethodName)) ∈ zTs := zTs_at 121 rfl rfl
theorem zs122 : (Jvm.Cond.selects "RockingHorseModel" ({ cls := "RockingHorseModel", name := "tired", desc := "([I)I" } : Jvm.MethodName) ({ cls := "RockingHorseModel", name := "tired", desc := "([I)I" } : Jvm.MethodName)) ∈ zTs := zTs_at 122 rfl rfl
theorem zs123 : (Jvm.Cond.selects "RockingHorseModel" ({ cls := "RockingHorseModel", name := "readAct", desc := "(I)V" } : Jvm.MethodName) ({ cls := "RockingHorseModel", name := "readAct", desc := "(I)V" } : Jvm.MethodName)) ∈ zTs := zTs_at 123 rfl rfl
theorem zs124 : (Jvm.Cond.selects "RockingHorseModel" ({ cls := "RockingHorseModel", name := "act", desc := "(III)Z" } : Jvm.MethodName) ({ cls := "RockingHorseModel", name := "act", desc := "(III)Z" } : Jvm.MethodName)) ∈ zTs := zTs_at 124 rfl rfl
theorem zs125 : (Jvm.Cond.selects "RockingHorseModel" ({ cls := "RockingHorseModel", name := "areTwo", desc := "(II)Z" } : Jvm.MethodName) ({ cls := "RockingHorseModel", name := "areTwo", desc := "(II)Z" } : Jvm.MethodName)) ∈ zTs := zTs_at 125 rfl rfl
theorem zs126 : (Jvm.Cond.selects "RockingHorseModel" ({ cls := "RockingHorseModel", name := "goExchange", desc := "(II)V" } : Jvm.MethodName) ({ cls := "RockingHorseModel", name := "goExchange", desc := "(II)V" } : Jvm.MethodName)) ∈ zTs := zTs_at 126 rfl rfl
theorem zs127 : (Jvm.Cond.selects "RockingHorseModel" ({ cls := "RockingHorseModel", name := "easiestBut", desc := "(I)I" } : Jvm.MethodName) ({ cls := "RockingHorseModel", name := "easiestBut", desc := "(I)I" } : Jvm.MethodName)) ∈ zTs := zTs_at 127 rfl rfl
theorem zs128 : (Jvm.Cond.selects "RockingHorseModel" ({ cls := "RockingHorseModel", name := "layMay", desc := "(I)V" } : Jvm.MethodName) ({ cls := "RockingHorseModel", name := "layMay", desc := "(I)V" } : Jvm.MethodName)) ∈ zTs := zTs_at 128 rfl rfl
theorem zs129 : (Jvm.Cond.selects "RockingHorseModel" ({ cls := "RockingHorseModel", name := "night", desc := "()I" } : Jvm.MethodName) ({ cls := "RockingHorseModel", name := "night", desc := "()I" } : Jvm.MethodName)) ∈ zTs := zTs_at 129 rfl rfl
theorem zs130 : (Jvm.Cond.selects "RockingHorseModel" ({ cls := "RockingHorseModel", name := "solve", desc := "(I)I" } : Jvm.MethodName) ({ cls := "RockingHorseModel", name := "solve", desc := "(I)I" } : Jvm.MethodName)) ∈ zTs := zTs_at 130 rfl rfl
theorem zs131 : (Jvm.Cond.selects "RockingHorseModel" ({ cls := "RockingHorseModel", name := "canTake", desc := "(II)Z" } : Jvm.MethodName) ({ cls := "RockingHorseModel", name := "canTake", desc := "(II)Z" } : Jvm.MethodName)) ∈ zTs := zTs_at 131 rfl rfl
theorem zs132 : (Jvm.Cond.selects "RockingHorseModel" ({ cls := "RockingHorseModel", name := "hardBy", desc := "(II)I" } : Jvm.MethodName) ({ cls := "RockingHorseModel", name := "hardBy", desc := "(II)I" } : Jvm.MethodName)) ∈ zTs := zTs_at 132 rfl rfl
theorem zs133 : (Jvm.Cond.selects "RockingHorseModel" ({ cls := "RockingHorseModel", name := "costOf", desc := "(III)I" } : Jvm.MethodName) ({ cls := "RockingHorseModel", name := "costOf", desc := "(III)I" } : Jvm.MethodName)) ∈ zTs := zTs_at 133 rfl rfl
theorem zs134 : (Jvm.Cond.selects "RockingHorseModel" ({ cls := "RockingHorseModel", name := "layLine", desc := "(II)V" } : Jvm.MethodName) ({ cls := "RockingHorseModel", name := "layLine", desc := "(II)V" } : Jvm.MethodName)) ∈ zTs := zTs_at 134 rfl rfl
theorem zs135 : (Jvm.Cond.selects "RockingHorseModel" ({ cls := "RockingHorseModel", name := "keepMay", desc := "()V" } : Jvm.MethodName) ({ cls := "RockingHorseModel", name := "keepMay", desc := "()V" } : Jvm.MethodName)) ∈ zTs := zTs_at 135 rfl rfl
theorem zs136 : (Jvm.Cond.selects "RockingHorseModel" ({ cls := "RockingHorseModel", name := "fix", desc := "(II)V" } : Jvm.MethodName) ({ cls := "RockingHorseModel", name := "fix", desc := "(II)V" } : Jvm.MethodName)) ∈ zTs := zTs_at 136 rfl rfl
theorem zs137 : (Jvm.Cond.selects "RockingHorseModel" ({ cls := "RockingHorseModel", name := "areRight", desc := "(I)Z" } : Jvm.MethodName) ({ cls := "RockingHorseModel", name := "areRight", desc := "(I)Z" } : Jvm.MethodName)) ∈ zTs := zTs_at 137 rfl rfl
theorem zs138 : (Jvm.Cond.selects "RockingHorseModel" ({ cls := "RockingHorseModel", name := "bringMay", desc := "()V" } : Jvm.MethodName) ({ cls := "RockingHorseModel", name := "bringMay", desc := "()V" } : Jvm.MethodName)) ∈ zTs := zTs_at 138 rfl rfl
theorem zs139 : (Jvm.Cond.selects "RockingHorseModel" ({ cls := "RockingHorseModel", name := "tellLine", desc := "()V" } : Jvm.MethodName) ({ cls := "RockingHorseModel", name := "tellLine", desc := "()V" } : Jvm.MethodName)) ∈ zTs := zTs_at 139 rfl rfl
theorem zs140 : (Jvm.Cond.selects "RockingHorseModel" ({ cls := "RockingHorseModel", name := "layCanBe", desc := "()V" } : Jvm.MethodName) ({ cls := "RockingHorseModel", name := "layCanBe", desc := "()V" } : Jvm.MethodName)) ∈ zTs := zTs_at 140 rfl rfl
theorem zs141 : (Jvm.Cond.selects "RockingHorseModel" ({ cls := "RockingHorseModel", name := "tellWays", desc := "()I" } : Jvm.MethodName) ({ cls := "RockingHorseModel", name := "tellWays", desc := "()I" } : Jvm.MethodName)) ∈ zTs := zTs_at 141 rfl rfl
theorem zs142 : (Jvm.Cond.selects "RockingHorseModel" ({ cls := "RockingHorseModel", name := "countWays", desc := "()I" } : Jvm.MethodName) ({ cls := "RockingHorseModel", name := "countWays", desc := "()I" } : Jvm.MethodName)) ∈ zTs := zTs_at 142 rfl rfl
theorem zs143 : (Jvm.Cond.selects "RockingHorseModel" ({ cls := "RockingHorseModel", name := "ableMany", desc := "(I)I" } : Jvm.MethodName) ({ cls := "RockingHorseModel", name := "ableMany", desc := "(I)I" } : Jvm.MethodName)) ∈ zTs := zTs_at 143 rfl rfl
theorem zs144 : (Jvm.Cond.selects "RockingHorseModel" ({ cls := "RockingHorseModel", name := "goSmooth", desc := "(II)Z" } : Jvm.MethodName) ({ cls := "RockingHorseModel", name := "goSmooth", desc := "(II)Z" } : Jvm.MethodName)) ∈ zTs := zTs_at 144 rfl rfl
theorem zs145 : (Jvm.Cond.selects "RockingHorseModel" ({ cls := "RockingHorseModel", name := "fitting", desc := "(II)I" } : Jvm.MethodName) ({ cls := "RockingHorseModel", name := "fitting", desc := "(II)I" } : Jvm.MethodName)) ∈ zTs := zTs_at 145 rfl rfl
theorem zs146 : (Jvm.Cond.selects "RockingHorseModel" ({ cls := "RockingHorseModel", name := "layFound", desc := "()V" } : Jvm.MethodName) ({ cls := "RockingHorseModel", name := "layFound", desc := "()V" } : Jvm.MethodName)) ∈ zTs := zTs_at 146 rfl rfl
theorem zs147 : (Jvm.Cond.selects "RockingHorseModel" ({ cls := "RockingHorseModel", name := "tellPart", desc := "(JJ)V" } : Jvm.MethodName) ({ cls := "RockingHorseModel", name := "tellPart", desc := "(JJ)V" } : Jvm.MethodName)) ∈ zTs := zTs_at 147 rfl rfl
theorem zs148 : (Jvm.Cond.selects "RockingHorseModel" ({ cls := "RockingHorseModel", name := "well", desc := "()I" } : Jvm.MethodName) ({ cls := "RockingHorseModel", name := "well", desc := "()I" } : Jvm.MethodName)) ∈ zTs := zTs_at 148 rfl rfl
theorem zs149 : (Jvm.Cond.selects "RockingHorseModel" ({ cls := "RockingHorseModel", name := "heldParts", desc := "(II)J" } : Jvm.MethodName) ({ cls := "RockingHorseModel", name := "heldParts", desc := "(II)J" } : Jvm.MethodName)) ∈ zTs := zTs_at 149 rfl rfl
theorem zs150 : (Jvm.Cond.selects "RockingHorseModel" ({ cls := "RockingHorseModel", name := "hardOfRota", desc := "()I" } : Jvm.MethodName) ({ cls := "RockingHorseModel", name := "hardOfRota", desc := "()I" } : Jvm.MethodName)) ∈ zTs := zTs_at 150 rfl rfl
theorem zs151 : (Jvm.Cond.selects "RockingHorseModel" ({ cls := "RockingHorseModel", name := "draw", desc := "(I)I" } : Jvm.MethodName) ({ cls := "RockingHorseModel", name := "draw", desc := "(I)I" } : Jvm.MethodName)) ∈ zTs := zTs_at 151 rfl rfl
