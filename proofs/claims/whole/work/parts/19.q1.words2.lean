/-! MORE WORDS, MORE METHODS -/
def o_alt (o1 o2 : OP) : OP := fun Kn K KX d mc ms ls st w => o1 Kn K KX d mc ms ls st w ∨ o2 Kn K KX d mc ms ls st w
theorem tz_jU16 {y : MethodName} (h : y.cls = "java/lang/StringUTF16") : tabOf y = [] := if_neg (by rw [h]; decide)
theorem wd109 : (Cond.initialized "RestMillLaw") ∈ WD := wdT1 0 rfl rfl
theorem wd118 : (Cond.initialized "java/lang/AbstractStringBuilder") ∈ WD := wdT1 9 rfl rfl
theorem wd119 : (Cond.initialized "java/lang/StringBuilder") ∈ WD := wdT1 10 rfl rfl
theorem wd120 : (Cond.initialized "java/lang/String") ∈ WD := wdT1 11 rfl rfl
theorem wd121 : (Cond.initialized "java/lang/StringUTF16") ∈ WD := wdT1 12 rfl rfl
theorem wd124 : (Cond.initialized "java/lang/StringLatin1") ∈ WD := wdT1 15 rfl rfl
theorem wd125 : (Cond.initialized "jdk/internal/util/Preconditions") ∈ WD := wdT1 16 rfl rfl
theorem wd138 : (Cond.initialized "jdk/internal/util/ArraysSupport") ∈ WD := wdT1 29 rfl rfl
theorem wd139 : (Cond.initialized "java/lang/System") ∈ WD := wdT1 30 rfl rfl
theorem wd140 : (Cond.initialized "java/lang/Integer") ∈ WD := wdT1 31 rfl rfl
theorem wd142 : (Cond.classLink "RestMillLaw" (8 : Nat) "RestMill") ∈ WD := wdT1 33 rfl rfl
theorem wd143 : (Cond.instantiable "RestMill" (12 : Nat)) ∈ WD := wdT1 34 rfl rfl
theorem wd144 : (Cond.methodLink "RestMillLaw" (123 : Nat) ({ cls := "RestMill", name := "<init>", desc := "()V" } : MethodName)) ∈ WD := wdT1 35 rfl rfl
theorem wd145 : (Cond.instanceMethod ({ cls := "RestMill", name := "<init>", desc := "()V" } : MethodName)) ∈ WD := wdT1 36 rfl rfl
theorem wd147 : (Cond.methodLink "RestMill" (1 : Nat) ({ cls := "java/lang/Object", name := "<init>", desc := "()V" } : MethodName)) ∈ WD := wdT1 38 rfl rfl
theorem wd150 : (Cond.classLink "RestMill" (13 : Nat) "RestMill$Mill") ∈ WD := wdT1 41 rfl rfl
theorem wd151 : (Cond.instantiable "RestMill$Mill" (4 : Nat)) ∈ WD := wdT1 42 rfl rfl
theorem wd152 : (Cond.methodLink "RestMill" (15 : Nat) ({ cls := "RestMill$Mill", name := "<init>", desc := "()V" } : MethodName)) ∈ WD := wdT1 43 rfl rfl
theorem wd153 : (Cond.instanceMethod ({ cls := "RestMill$Mill", name := "<init>", desc := "()V" } : MethodName)) ∈ WD := wdT1 44 rfl rfl
theorem wd155 : (Cond.methodLink "RestMill$Mill" (3 : Nat) ({ cls := "java/lang/Object", name := "<init>", desc := "()V" } : MethodName)) ∈ WD := wdT1 46 rfl rfl
theorem wd156 : (Cond.classLink "RestMill$Mill" (9 : Nat) "RestMill$Moduli") ∈ WD := wdT1 47 rfl rfl
theorem wd157 : (Cond.instantiable "RestMill$Moduli" (6 : Nat)) ∈ WD := wdT1 48 rfl rfl
theorem wd158 : (Cond.methodLink "RestMill$Mill" (11 : Nat) ({ cls := "RestMill$Moduli", name := "<init>", desc := "()V" } : MethodName)) ∈ WD := wdT1 49 rfl rfl
theorem wd159 : (Cond.instanceMethod ({ cls := "RestMill$Moduli", name := "<init>", desc := "()V" } : MethodName)) ∈ WD := wdT1 50 rfl rfl
theorem wd161 : (Cond.methodLink "RestMill$Moduli" (3 : Nat) ({ cls := "java/lang/Object", name := "<init>", desc := "()V" } : MethodName)) ∈ WD := wdT1 52 rfl rfl
theorem wd190 : (Cond.arrayClass ClassFile.FieldType.byte) ∈ WD := wdT1 81 rfl rfl
theorem wd191 : (Cond.arrayClass ClassFile.FieldType.int) ∈ WD := wdT1 82 rfl rfl
theorem wd192 : (Cond.arrayClass ClassFile.FieldType.long) ∈ WD := wdT1 83 rfl rfl
theorem wd213 : (Cond.classLink "RestMill" (26 : Nat) "RestMill$Changes") ∈ WD := wdT1 104 rfl rfl
theorem wd214 : (Cond.instantiable "RestMill$Changes" (3 : Nat)) ∈ WD := wdT1 105 rfl rfl
theorem wd215 : (Cond.methodLink "RestMill" (28 : Nat) ({ cls := "RestMill$Changes", name := "<init>", desc := "()V" } : MethodName)) ∈ WD := wdT1 106 rfl rfl
theorem wd216 : (Cond.instanceMethod ({ cls := "RestMill$Changes", name := "<init>", desc := "()V" } : MethodName)) ∈ WD := wdT1 107 rfl rfl
theorem wd218 : (Cond.methodLink "RestMill$Changes" (3 : Nat) ({ cls := "java/lang/Object", name := "<init>", desc := "()V" } : MethodName)) ∈ WD := wdT1 109 rfl rfl
theorem wd219 : (Cond.classLink "RestMill$Changes" (9 : Nat) "RestMill$Mill") ∈ WD := wdT1 110 rfl rfl
theorem wd221 : (Cond.methodLink "RestMill$Changes" (17 : Nat) ({ cls := "RestMill$Mill", name := "<init>", desc := "()V" } : MethodName)) ∈ WD := wdT1 112 rfl rfl
theorem wd233 : (Cond.classLink "RestMill" (33 : Nat) "RestMill$SetupReader") ∈ WD := wdT1 124 rfl rfl
theorem wd234 : (Cond.instantiable "RestMill$SetupReader" (1 : Nat)) ∈ WD := wdT1 125 rfl rfl
theorem wd235 : (Cond.methodLink "RestMill" (35 : Nat) ({ cls := "RestMill$SetupReader", name := "<init>", desc := "()V" } : MethodName)) ∈ WD := wdT1 126 rfl rfl
theorem wd236 : (Cond.instanceMethod ({ cls := "RestMill$SetupReader", name := "<init>", desc := "()V" } : MethodName)) ∈ WD := wdT1 127 rfl rfl
theorem wd238 : (Cond.methodLink "RestMill$SetupReader" (3 : Nat) ({ cls := "java/lang/Object", name := "<init>", desc := "()V" } : MethodName)) ∈ WD := wdT1 129 rfl rfl
theorem wd239 : (Cond.classLink "RestMill$SetupReader" (9 : Nat) "RestMill$Tokens") ∈ WD := wdT1 130 rfl rfl
theorem wd240 : (Cond.instantiable "RestMill$Tokens" (7 : Nat)) ∈ WD := wdT1 131 rfl rfl
theorem wd241 : (Cond.methodLink "RestMill$SetupReader" (11 : Nat) ({ cls := "RestMill$Tokens", name := "<init>", desc := "()V" } : MethodName)) ∈ WD := wdT1 132 rfl rfl
theorem wd242 : (Cond.instanceMethod ({ cls := "RestMill$Tokens", name := "<init>", desc := "()V" } : MethodName)) ∈ WD := wdT1 133 rfl rfl
theorem wd244 : (Cond.methodLink "RestMill$Tokens" (3 : Nat) ({ cls := "java/lang/Object", name := "<init>", desc := "()V" } : MethodName)) ∈ WD := wdT1 135 rfl rfl
theorem wd274 : (Cond.classLink "RestMill" (40 : Nat) "RestMill$ScriptReader") ∈ WD := wdT1 165 rfl rfl
theorem wd275 : (Cond.instantiable "RestMill$ScriptReader" (4 : Nat)) ∈ WD := wdT1 166 rfl rfl
theorem wd276 : (Cond.methodLink "RestMill" (42 : Nat) ({ cls := "RestMill$ScriptReader", name := "<init>", desc := "()V" } : MethodName)) ∈ WD := wdT1 167 rfl rfl
theorem wd277 : (Cond.instanceMethod ({ cls := "RestMill$ScriptReader", name := "<init>", desc := "()V" } : MethodName)) ∈ WD := wdT1 168 rfl rfl
theorem wd279 : (Cond.methodLink "RestMill$ScriptReader" (3 : Nat) ({ cls := "java/lang/Object", name := "<init>", desc := "()V" } : MethodName)) ∈ WD := wdT1 170 rfl rfl
theorem wd280 : (Cond.classLink "RestMill$ScriptReader" (9 : Nat) "RestMill$Tokens") ∈ WD := wdT1 171 rfl rfl
theorem wd281 : (Cond.methodLink "RestMill$ScriptReader" (11 : Nat) ({ cls := "RestMill$Tokens", name := "<init>", desc := "()V" } : MethodName)) ∈ WD := wdT1 172 rfl rfl
theorem wd282 : (Cond.classLink "RestMill$ScriptReader" (18 : Nat) "RestMill$Program") ∈ WD := wdT1 173 rfl rfl
theorem wd283 : (Cond.instantiable "RestMill$Program" (6 : Nat)) ∈ WD := wdT1 174 rfl rfl
theorem wd284 : (Cond.methodLink "RestMill$ScriptReader" (20 : Nat) ({ cls := "RestMill$Program", name := "<init>", desc := "()V" } : MethodName)) ∈ WD := wdT1 175 rfl rfl
theorem wd285 : (Cond.instanceMethod ({ cls := "RestMill$Program", name := "<init>", desc := "()V" } : MethodName)) ∈ WD := wdT1 176 rfl rfl
theorem wd287 : (Cond.methodLink "RestMill$Program" (3 : Nat) ({ cls := "java/lang/Object", name := "<init>", desc := "()V" } : MethodName)) ∈ WD := wdT1 178 rfl rfl
theorem wd322 : (Cond.classLink "RestMill" (54 : Nat) "java/lang/StringBuilder") ∈ WD := wdT1 213 rfl rfl
theorem wd323 : (Cond.instantiable "java/lang/StringBuilder" (4 : Nat)) ∈ WD := wdT1 214 rfl rfl
theorem wd324 : (Cond.methodLink "RestMill" (56 : Nat) ({ cls := "java/lang/StringBuilder", name := "<init>", desc := "()V" } : MethodName)) ∈ WD := wdT1 215 rfl rfl
theorem wd325 : (Cond.instanceMethod ({ cls := "java/lang/StringBuilder", name := "<init>", desc := "()V" } : MethodName)) ∈ WD := wdT1 216 rfl rfl
theorem wd326 : (Cond.code ({ cls := "java/lang/StringBuilder", name := "<init>", desc := "()V" } : MethodName) prog_29_method_1_code (1 : Nat) (Option.none : Option ClassFile.FieldType)) ∈ WD := wdT1 217 rfl rfl
theorem wd327 : (Cond.methodLink "java/lang/StringBuilder" (1 : Nat) ({ cls := "java/lang/AbstractStringBuilder", name := "<init>", desc := "(I)V" } : MethodName)) ∈ WD := wdT1 218 rfl rfl
theorem wd328 : (Cond.instanceMethod ({ cls := "java/lang/AbstractStringBuilder", name := "<init>", desc := "(I)V" } : MethodName)) ∈ WD := wdT1 219 rfl rfl
theorem wd329 : (Cond.code ({ cls := "java/lang/AbstractStringBuilder", name := "<init>", desc := "(I)V" } : MethodName) prog_12_method_2_code (2 : Nat) (Option.none : Option ClassFile.FieldType)) ∈ WD := wdT1 220 rfl rfl
theorem wd330 : (Cond.methodLink "java/lang/AbstractStringBuilder" (3 : Nat) ({ cls := "java/lang/Object", name := "<init>", desc := "()V" } : MethodName)) ∈ WD := wdT1 221 rfl rfl
theorem wd331 : (Cond.fieldLink "java/lang/AbstractStringBuilder" (18 : Nat) "java/lang/String" "COMPACT_STRINGS" "Z") ∈ WD := wdT1 222 rfl rfl
theorem wd333 : (Cond.methodLink "java/lang/AbstractStringBuilder" (26 : Nat) ({ cls := "java/lang/StringUTF16", name := "newBytesFor", desc := "(I)[B" } : MethodName)) ∈ WD := wdT1 224 rfl rfl
theorem wd334 : (Cond.static ({ cls := "java/lang/StringUTF16", name := "newBytesFor", desc := "(I)[B" } : MethodName)) ∈ WD := wdT1 225 rfl rfl
theorem wd335 : (Cond.code ({ cls := "java/lang/StringUTF16", name := "newBytesFor", desc := "(I)[B" } : MethodName) prog_32_method_2_code (1 : Nat) (Option.some (ClassFile.FieldType.array ClassFile.FieldType.byte))) ∈ WD := wdT1 226 rfl rfl
theorem wd340 : (Cond.fieldLink "java/lang/AbstractStringBuilder" (15 : Nat) "java/lang/AbstractStringBuilder" "value" "[B") ∈ WD := wdT1 231 rfl rfl
theorem wd341 : (Cond.fieldLink "java/lang/AbstractStringBuilder" (22 : Nat) "java/lang/AbstractStringBuilder" "coder" "B") ∈ WD := wdT1 232 rfl rfl
theorem wd342 : (Cond.fieldLink "java/lang/AbstractStringBuilder" (73 : Nat) "java/lang/AbstractStringBuilder" "maybeLatin1" "Z") ∈ WD := wdT1 233 rfl rfl
theorem wd344 : (Cond.fieldLink "java/lang/AbstractStringBuilder" (79 : Nat) "java/lang/AbstractStringBuilder" "count" "I") ∈ WD := wdT1 235 rfl rfl
theorem wd353 : (Cond.superclass "java/lang/StringBuilder" "java/lang/AbstractStringBuilder") ∈ WD := wdT2 4 rfl rfl
theorem wd354 : (Cond.methodLink "RestMill" (65 : Nat) ({ cls := "RestMill$Moduli", name := "insert", desc := "(I)V" } : MethodName)) ∈ WD := wdT2 5 rfl rfl
theorem wd385 : (Cond.methodLink "RestMill" (71 : Nat) ({ cls := "RestMill$Moduli", name := "setChecks", desc := "(I)V" } : MethodName)) ∈ WD := wdT2 36 rfl rfl
theorem wd426 : (Cond.methodLink "RestMillLaw" (127 : Nat) ({ cls := "RestMill", name := "appendInput", desc := "(IIIII)I" } : MethodName)) ∈ WD := wdT2 77 rfl rfl
theorem wd427 : (Cond.instanceMethod ({ cls := "RestMill", name := "appendInput", desc := "(IIIII)I" } : MethodName)) ∈ WD := wdT2 78 rfl rfl
theorem wd428 : (Cond.selects "RestMill" ({ cls := "RestMill", name := "appendInput", desc := "(IIIII)I" } : MethodName) ({ cls := "RestMill", name := "appendInput", desc := "(IIIII)I" } : MethodName)) ∈ WD := wdT2 79 rfl rfl
theorem wd434 : (Cond.methodLink "RestMillLaw" (132 : Nat) ({ cls := "RestMill", name := "truncateInput", desc := "(I)Z" } : MethodName)) ∈ WD := wdT2 85 rfl rfl
theorem wd435 : (Cond.instanceMethod ({ cls := "RestMill", name := "truncateInput", desc := "(I)Z" } : MethodName)) ∈ WD := wdT2 86 rfl rfl
theorem wd436 : (Cond.selects "RestMill" ({ cls := "RestMill", name := "truncateInput", desc := "(I)Z" } : MethodName) ({ cls := "RestMill", name := "truncateInput", desc := "(I)Z" } : MethodName)) ∈ WD := wdT2 87 rfl rfl
theorem wd438 : (Cond.methodLink "RestMillLaw" (136 : Nat) ({ cls := "RestMill", name := "loadMill", desc := "()I" } : MethodName)) ∈ WD := wdT2 89 rfl rfl
theorem wd439 : (Cond.instanceMethod ({ cls := "RestMill", name := "loadMill", desc := "()I" } : MethodName)) ∈ WD := wdT2 90 rfl rfl
theorem wd440 : (Cond.selects "RestMill" ({ cls := "RestMill", name := "loadMill", desc := "()I" } : MethodName) ({ cls := "RestMill", name := "loadMill", desc := "()I" } : MethodName)) ∈ WD := wdT2 91 rfl rfl
theorem wd471 : (Cond.methodLink "RestMill$Tokens" (101 : Nat) ({ cls := "java/lang/String", name := "length", desc := "()I" } : MethodName)) ∈ WD := wdT2 122 rfl rfl
theorem wd472 : (Cond.instanceMethod ({ cls := "java/lang/String", name := "length", desc := "()I" } : MethodName)) ∈ WD := wdT2 123 rfl rfl
theorem wd473 : (Cond.selects "java/lang/String" ({ cls := "java/lang/String", name := "length", desc := "()I" } : MethodName) ({ cls := "java/lang/String", name := "length", desc := "()I" } : MethodName)) ∈ WD := wdT2 124 rfl rfl
theorem wd474 : (Cond.code ({ cls := "java/lang/String", name := "length", desc := "()I" } : MethodName) prog_28_method_54_code (1 : Nat) (Option.some ClassFile.FieldType.int)) ∈ WD := wdT2 125 rfl rfl
theorem wd475 : (Cond.methodLink "java/lang/String" (335 : Nat) ({ cls := "java/lang/String", name := "coder", desc := "()B" } : MethodName)) ∈ WD := wdT2 126 rfl rfl
theorem wd476 : (Cond.instanceMethod ({ cls := "java/lang/String", name := "coder", desc := "()B" } : MethodName)) ∈ WD := wdT2 127 rfl rfl
theorem wd477 : (Cond.selects "java/lang/String" ({ cls := "java/lang/String", name := "coder", desc := "()B" } : MethodName) ({ cls := "java/lang/String", name := "coder", desc := "()B" } : MethodName)) ∈ WD := wdT2 128 rfl rfl
theorem wd478 : (Cond.code ({ cls := "java/lang/String", name := "coder", desc := "()B" } : MethodName) prog_28_method_152_code (1 : Nat) (Option.some ClassFile.FieldType.byte)) ∈ WD := wdT2 129 rfl rfl
theorem wd479 : (Cond.fieldLink "java/lang/String" (38 : Nat) "java/lang/String" "COMPACT_STRINGS" "Z") ∈ WD := wdT2 130 rfl rfl
theorem wd480 : (Cond.methodLink "RestMill$Tokens" (104 : Nat) ({ cls := "java/lang/String", name := "charAt", desc := "(I)C" } : MethodName)) ∈ WD := wdT2 131 rfl rfl
theorem wd481 : (Cond.instanceMethod ({ cls := "java/lang/String", name := "charAt", desc := "(I)C" } : MethodName)) ∈ WD := wdT2 132 rfl rfl
theorem wd482 : (Cond.selects "java/lang/String" ({ cls := "java/lang/String", name := "charAt", desc := "(I)C" } : MethodName) ({ cls := "java/lang/String", name := "charAt", desc := "(I)C" } : MethodName)) ∈ WD := wdT2 133 rfl rfl
theorem wd483 : (Cond.code ({ cls := "java/lang/String", name := "charAt", desc := "(I)C" } : MethodName) prog_28_method_56_code (2 : Nat) (Option.some ClassFile.FieldType.char)) ∈ WD := wdT2 134 rfl rfl
theorem wd484 : (Cond.methodLink "java/lang/String" (492 : Nat) ({ cls := "java/lang/String", name := "isLatin1", desc := "()Z" } : MethodName)) ∈ WD := wdT2 135 rfl rfl
theorem wd485 : (Cond.instanceMethod ({ cls := "java/lang/String", name := "isLatin1", desc := "()Z" } : MethodName)) ∈ WD := wdT2 136 rfl rfl
theorem wd486 : (Cond.selects "java/lang/String" ({ cls := "java/lang/String", name := "isLatin1", desc := "()Z" } : MethodName) ({ cls := "java/lang/String", name := "isLatin1", desc := "()Z" } : MethodName)) ∈ WD := wdT2 137 rfl rfl
theorem wd487 : (Cond.code ({ cls := "java/lang/String", name := "isLatin1", desc := "()Z" } : MethodName) prog_28_method_154_code (1 : Nat) (Option.some ClassFile.FieldType.boolean)) ∈ WD := wdT2 138 rfl rfl
theorem wd488 : (Cond.methodLink "java/lang/String" (495 : Nat) ({ cls := "java/lang/StringLatin1", name := "charAt", desc := "([BI)C" } : MethodName)) ∈ WD := wdT2 139 rfl rfl
theorem wd489 : (Cond.static ({ cls := "java/lang/StringLatin1", name := "charAt", desc := "([BI)C" } : MethodName)) ∈ WD := wdT2 140 rfl rfl
theorem wd490 : (Cond.code ({ cls := "java/lang/StringLatin1", name := "charAt", desc := "([BI)C" } : MethodName) prog_31_method_2_code (2 : Nat) (Option.some ClassFile.FieldType.char)) ∈ WD := wdT2 141 rfl rfl
theorem wd491 : (Cond.methodLink "java/lang/StringLatin1" (9 : Nat) ({ cls := "java/lang/String", name := "checkIndex", desc := "(II)V" } : MethodName)) ∈ WD := wdT2 142 rfl rfl
theorem wd492 : (Cond.static ({ cls := "java/lang/String", name := "checkIndex", desc := "(II)V" } : MethodName)) ∈ WD := wdT2 143 rfl rfl
theorem wd493 : (Cond.code ({ cls := "java/lang/String", name := "checkIndex", desc := "(II)V" } : MethodName) prog_28_method_155_code (2 : Nat) (Option.none : Option ClassFile.FieldType)) ∈ WD := wdT2 144 rfl rfl
theorem wd494 : (Cond.fieldLink "java/lang/String" (1053 : Nat) "jdk/internal/util/Preconditions" "SIOOBE_FORMATTER" "Ljava/util/function/BiFunction;") ∈ WD := wdT2 145 rfl rfl
theorem wd496 : (Cond.methodLink "java/lang/String" (1059 : Nat) ({ cls := "jdk/internal/util/Preconditions", name := "checkIndex", desc := "(IILjava/util/function/BiFunction;)I" } : MethodName)) ∈ WD := wdT2 147 rfl rfl
theorem wd497 : (Cond.static ({ cls := "jdk/internal/util/Preconditions", name := "checkIndex", desc := "(IILjava/util/function/BiFunction;)I" } : MethodName)) ∈ WD := wdT2 148 rfl rfl
theorem wd498 : (Cond.code ({ cls := "jdk/internal/util/Preconditions", name := "checkIndex", desc := "(IILjava/util/function/BiFunction;)I" } : MethodName) prog_40_method_11_code (3 : Nat) (Option.some ClassFile.FieldType.int)) ∈ WD := wdT2 149 rfl rfl
theorem wd499 : (Cond.methodLink "java/lang/String" (498 : Nat) ({ cls := "java/lang/StringUTF16", name := "charAt", desc := "([BI)C" } : MethodName)) ∈ WD := wdT2 150 rfl rfl
theorem wd500 : (Cond.static ({ cls := "java/lang/StringUTF16", name := "charAt", desc := "([BI)C" } : MethodName)) ∈ WD := wdT2 151 rfl rfl
theorem wd501 : (Cond.code ({ cls := "java/lang/StringUTF16", name := "charAt", desc := "([BI)C" } : MethodName) prog_32_method_83_code (2 : Nat) (Option.some ClassFile.FieldType.char)) ∈ WD := wdT2 152 rfl rfl
theorem wd510 : (Cond.static ({ cls := "java/lang/StringUTF16", name := "getChar", desc := "([BI)C" } : MethodName)) ∈ WD := wdT2 161 rfl rfl
theorem wd511 : (Cond.code ({ cls := "java/lang/StringUTF16", name := "getChar", desc := "([BI)C" } : MethodName) prog_32_method_5_code (2 : Nat) (Option.some ClassFile.FieldType.char)) ∈ WD := wdT2 162 rfl rfl
theorem wd532 : (Cond.methodLink "RestMill$Tokens" (74 : Nat) ({ cls := "java/lang/String", name := "indexOf", desc := "(I)I" } : MethodName)) ∈ WD := wdT2 183 rfl rfl
theorem wd533 : (Cond.instanceMethod ({ cls := "java/lang/String", name := "indexOf", desc := "(I)I" } : MethodName)) ∈ WD := wdT2 184 rfl rfl
theorem wd534 : (Cond.selects "java/lang/String" ({ cls := "java/lang/String", name := "indexOf", desc := "(I)I" } : MethodName) ({ cls := "java/lang/String", name := "indexOf", desc := "(I)I" } : MethodName)) ∈ WD := wdT2 185 rfl rfl
theorem wd535 : (Cond.code ({ cls := "java/lang/String", name := "indexOf", desc := "(I)I" } : MethodName) prog_28_method_79_code (2 : Nat) (Option.some ClassFile.FieldType.int)) ∈ WD := wdT2 186 rfl rfl
theorem wd536 : (Cond.methodLink "java/lang/String" (633 : Nat) ({ cls := "java/lang/String", name := "indexOf", desc := "(II)I" } : MethodName)) ∈ WD := wdT2 187 rfl rfl
theorem wd537 : (Cond.instanceMethod ({ cls := "java/lang/String", name := "indexOf", desc := "(II)I" } : MethodName)) ∈ WD := wdT2 188 rfl rfl
theorem wd538 : (Cond.selects "java/lang/String" ({ cls := "java/lang/String", name := "indexOf", desc := "(II)I" } : MethodName) ({ cls := "java/lang/String", name := "indexOf", desc := "(II)I" } : MethodName)) ∈ WD := wdT2 189 rfl rfl
theorem wd539 : (Cond.code ({ cls := "java/lang/String", name := "indexOf", desc := "(II)I" } : MethodName) prog_28_method_80_code (3 : Nat) (Option.some ClassFile.FieldType.int)) ∈ WD := wdT2 190 rfl rfl
theorem wd540 : (Cond.methodLink "java/lang/String" (505 : Nat) ({ cls := "java/lang/String", name := "length", desc := "()I" } : MethodName)) ∈ WD := wdT2 191 rfl rfl
theorem wd541 : (Cond.methodLink "java/lang/String" (637 : Nat) ({ cls := "java/lang/StringLatin1", name := "indexOf", desc := "([BIII)I" } : MethodName)) ∈ WD := wdT2 192 rfl rfl
theorem wd542 : (Cond.static ({ cls := "java/lang/StringLatin1", name := "indexOf", desc := "([BIII)I" } : MethodName)) ∈ WD := wdT2 193 rfl rfl
theorem wd543 : (Cond.code ({ cls := "java/lang/StringLatin1", name := "indexOf", desc := "([BIII)I" } : MethodName) prog_31_method_22_code (4 : Nat) (Option.some ClassFile.FieldType.int)) ∈ WD := wdT2 194 rfl rfl
theorem wd544 : (Cond.methodLink "java/lang/StringLatin1" (88 : Nat) ({ cls := "java/lang/StringLatin1", name := "canEncode", desc := "(I)Z" } : MethodName)) ∈ WD := wdT2 195 rfl rfl
theorem wd545 : (Cond.static ({ cls := "java/lang/StringLatin1", name := "canEncode", desc := "(I)Z" } : MethodName)) ∈ WD := wdT2 196 rfl rfl
theorem wd546 : (Cond.code ({ cls := "java/lang/StringLatin1", name := "canEncode", desc := "(I)Z" } : MethodName) prog_31_method_4_code (1 : Nat) (Option.some ClassFile.FieldType.boolean)) ∈ WD := wdT2 197 rfl rfl
theorem wd547 : (Cond.methodLink "java/lang/StringLatin1" (92 : Nat) ({ cls := "java/lang/Math", name := "max", desc := "(II)I" } : MethodName)) ∈ WD := wdT2 198 rfl rfl
theorem wd548 : (Cond.static ({ cls := "java/lang/Math", name := "max", desc := "(II)I" } : MethodName)) ∈ WD := wdT2 199 rfl rfl
theorem wd550 : (Cond.methodLink "java/lang/StringLatin1" (38 : Nat) ({ cls := "java/lang/Math", name := "min", desc := "(II)I" } : MethodName)) ∈ WD := wdT2 201 rfl rfl
theorem wd553 : (Cond.methodLink "java/lang/StringLatin1" (95 : Nat) ({ cls := "java/lang/StringLatin1", name := "indexOfChar", desc := "([BIII)I" } : MethodName)) ∈ WD := wdT2 204 rfl rfl
theorem wd554 : (Cond.static ({ cls := "java/lang/StringLatin1", name := "indexOfChar", desc := "([BIII)I" } : MethodName)) ∈ WD := wdT2 205 rfl rfl
theorem wd555 : (Cond.code ({ cls := "java/lang/StringLatin1", name := "indexOfChar", desc := "([BIII)I" } : MethodName) prog_31_method_23_code (6 : Nat) (Option.some ClassFile.FieldType.int)) ∈ WD := wdT2 206 rfl rfl
theorem wd556 : (Cond.methodLink "java/lang/String" (640 : Nat) ({ cls := "java/lang/StringUTF16", name := "indexOf", desc := "([BIII)I" } : MethodName)) ∈ WD := wdT2 207 rfl rfl
theorem wd557 : (Cond.static ({ cls := "java/lang/StringUTF16", name := "indexOf", desc := "([BIII)I" } : MethodName)) ∈ WD := wdT2 208 rfl rfl
theorem wd558 : (Cond.code ({ cls := "java/lang/StringUTF16", name := "indexOf", desc := "([BIII)I" } : MethodName) prog_32_method_40_code (4 : Nat) (Option.some ClassFile.FieldType.int)) ∈ WD := wdT2 209 rfl rfl
theorem wd713 : (Cond.methodLink "RestMillLaw" (140 : Nat) ({ cls := "RestMill", name := "playScript", desc := "()I" } : MethodName)) ∈ WD := wdT3 124 rfl rfl
theorem wd714 : (Cond.instanceMethod ({ cls := "RestMill", name := "playScript", desc := "()I" } : MethodName)) ∈ WD := wdT3 125 rfl rfl
theorem wd715 : (Cond.selects "RestMill" ({ cls := "RestMill", name := "playScript", desc := "()I" } : MethodName) ({ cls := "RestMill", name := "playScript", desc := "()I" } : MethodName)) ∈ WD := wdT3 126 rfl rfl
theorem wd871 : (Cond.methodLink "RestMillLaw" (144 : Nat) ({ cls := "RestMill", name := "errorCode", desc := "()I" } : MethodName)) ∈ WD := wdT4 42 rfl rfl
theorem wd872 : (Cond.instanceMethod ({ cls := "RestMill", name := "errorCode", desc := "()I" } : MethodName)) ∈ WD := wdT4 43 rfl rfl
theorem wd873 : (Cond.selects "RestMill" ({ cls := "RestMill", name := "errorCode", desc := "()I" } : MethodName) ({ cls := "RestMill", name := "errorCode", desc := "()I" } : MethodName)) ∈ WD := wdT4 44 rfl rfl
theorem wd875 : (Cond.methodLink "RestMillLaw" (148 : Nat) ({ cls := "RestMill", name := "errorOffset", desc := "()I" } : MethodName)) ∈ WD := wdT4 46 rfl rfl
theorem wd876 : (Cond.instanceMethod ({ cls := "RestMill", name := "errorOffset", desc := "()I" } : MethodName)) ∈ WD := wdT4 47 rfl rfl
theorem wd877 : (Cond.selects "RestMill" ({ cls := "RestMill", name := "errorOffset", desc := "()I" } : MethodName) ({ cls := "RestMill", name := "errorOffset", desc := "()I" } : MethodName)) ∈ WD := wdT4 48 rfl rfl
theorem wd879 : (Cond.methodLink "RestMillLaw" (205 : Nat) ({ cls := "RestMill", name := "gap", desc := "()J" } : MethodName)) ∈ WD := wdT4 50 rfl rfl
theorem wd880 : (Cond.instanceMethod ({ cls := "RestMill", name := "gap", desc := "()J" } : MethodName)) ∈ WD := wdT4 51 rfl rfl
theorem wd881 : (Cond.selects "RestMill" ({ cls := "RestMill", name := "gap", desc := "()J" } : MethodName) ({ cls := "RestMill", name := "gap", desc := "()J" } : MethodName)) ∈ WD := wdT4 52 rfl rfl
theorem wd906 : (Cond.methodLink "RestMillLaw" (226 : Nat) ({ cls := "RestMill", name := "nextModulus", desc := "()I" } : MethodName)) ∈ WD := wdT4 77 rfl rfl
theorem wd907 : (Cond.instanceMethod ({ cls := "RestMill", name := "nextModulus", desc := "()I" } : MethodName)) ∈ WD := wdT4 78 rfl rfl
theorem wd908 : (Cond.selects "RestMill" ({ cls := "RestMill", name := "nextModulus", desc := "()I" } : MethodName) ({ cls := "RestMill", name := "nextModulus", desc := "()I" } : MethodName)) ∈ WD := wdT4 79 rfl rfl
theorem wd916 : (Cond.methodLink "RestMillLaw" (230 : Nat) ({ cls := "RestMill", name := "spare", desc := "()I" } : MethodName)) ∈ WD := wdT4 87 rfl rfl
theorem wd917 : (Cond.instanceMethod ({ cls := "RestMill", name := "spare", desc := "()I" } : MethodName)) ∈ WD := wdT4 88 rfl rfl
theorem wd918 : (Cond.selects "RestMill" ({ cls := "RestMill", name := "spare", desc := "()I" } : MethodName) ({ cls := "RestMill", name := "spare", desc := "()I" } : MethodName)) ∈ WD := wdT4 89 rfl rfl
theorem wd930 : (Cond.methodLink "RestMillLaw" (234 : Nat) ({ cls := "RestMill", name := "greatest", desc := "()I" } : MethodName)) ∈ WD := wdT4 101 rfl rfl
theorem wd931 : (Cond.instanceMethod ({ cls := "RestMill", name := "greatest", desc := "()I" } : MethodName)) ∈ WD := wdT4 102 rfl rfl
theorem wd932 : (Cond.selects "RestMill" ({ cls := "RestMill", name := "greatest", desc := "()I" } : MethodName) ({ cls := "RestMill", name := "greatest", desc := "()I" } : MethodName)) ∈ WD := wdT4 103 rfl rfl
theorem wd935 : (Cond.methodLink "RestMillLaw" (238 : Nat) ({ cls := "RestMill", name := "mean", desc := "()D" } : MethodName)) ∈ WD := wdT4 106 rfl rfl
theorem wd936 : (Cond.instanceMethod ({ cls := "RestMill", name := "mean", desc := "()D" } : MethodName)) ∈ WD := wdT4 107 rfl rfl
theorem wd937 : (Cond.selects "RestMill" ({ cls := "RestMill", name := "mean", desc := "()D" } : MethodName) ({ cls := "RestMill", name := "mean", desc := "()D" } : MethodName)) ∈ WD := wdT4 108 rfl rfl
theorem wd939 : (Cond.constantDouble "RestMill" (264 : Nat) (4620693217682128896 : UInt64)) ∈ WD := wdT4 110 rfl rfl
theorem wd940 : (Cond.methodLink "RestMillLaw" (243 : Nat) ({ cls := "RestMill", name := "zeroShare", desc := "()F" } : MethodName)) ∈ WD := wdT4 111 rfl rfl
theorem wd941 : (Cond.instanceMethod ({ cls := "RestMill", name := "zeroShare", desc := "()F" } : MethodName)) ∈ WD := wdT4 112 rfl rfl
theorem wd942 : (Cond.selects "RestMill" ({ cls := "RestMill", name := "zeroShare", desc := "()F" } : MethodName) ({ cls := "RestMill", name := "zeroShare", desc := "()F" } : MethodName)) ∈ WD := wdT4 113 rfl rfl
theorem wd948 : (Cond.methodLink "RestMillLaw" (283 : Nat) ({ cls := "RestMill", name := "printModuli", desc := "()I" } : MethodName)) ∈ WD := wdT4 119 rfl rfl
theorem wd949 : (Cond.instanceMethod ({ cls := "RestMill", name := "printModuli", desc := "()I" } : MethodName)) ∈ WD := wdT4 120 rfl rfl
theorem wd950 : (Cond.selects "RestMill" ({ cls := "RestMill", name := "printModuli", desc := "()I" } : MethodName) ({ cls := "RestMill", name := "printModuli", desc := "()I" } : MethodName)) ∈ WD := wdT4 121 rfl rfl
theorem wd955 : (Cond.code ({ cls := "java/lang/StringBuilder", name := "setLength", desc := "(I)V" } : MethodName) prog_29_method_89_code (2 : Nat) (Option.none : Option ClassFile.FieldType)) ∈ WD := wdT4 126 rfl rfl
theorem wd956 : (Cond.methodLink "java/lang/StringBuilder" (333 : Nat) ({ cls := "java/lang/AbstractStringBuilder", name := "setLength", desc := "(I)V" } : MethodName)) ∈ WD := wdT4 127 rfl rfl
theorem wd957 : (Cond.instanceMethod ({ cls := "java/lang/AbstractStringBuilder", name := "setLength", desc := "(I)V" } : MethodName)) ∈ WD := wdT4 128 rfl rfl
theorem wd958 : (Cond.code ({ cls := "java/lang/AbstractStringBuilder", name := "setLength", desc := "(I)V" } : MethodName) prog_12_method_13_code (2 : Nat) (Option.none : Option ClassFile.FieldType)) ∈ WD := wdT4 129 rfl rfl
theorem wd961 : (Cond.methodLink "java/lang/AbstractStringBuilder" (131 : Nat) ({ cls := "java/lang/StringIndexOutOfBoundsException", name := "<init>", desc := "(I)V" } : MethodName)) ∈ WD := wdT4 132 rfl rfl
theorem wd962 : (Cond.instanceMethod ({ cls := "java/lang/StringIndexOutOfBoundsException", name := "<init>", desc := "(I)V" } : MethodName)) ∈ WD := wdT4 133 rfl rfl
theorem wd970 : (Cond.code ({ cls := "java/lang/StringBuilder", name := "append", desc := "(Ljava/lang/String;)Ljava/lang/StringBuilder;" } : MethodName) prog_29_method_7_code (2 : Nat) (Option.some (ClassFile.FieldType.object "java/lang/StringBuilder"))) ∈ WD := wdT4 141 rfl rfl
theorem wd971 : (Cond.methodLink "java/lang/StringBuilder" (29 : Nat) ({ cls := "java/lang/AbstractStringBuilder", name := "append", desc := "(Ljava/lang/String;)Ljava/lang/AbstractStringBuilder;" } : MethodName)) ∈ WD := wdT4 142 rfl rfl
theorem wd972 : (Cond.instanceMethod ({ cls := "java/lang/AbstractStringBuilder", name := "append", desc := "(Ljava/lang/String;)Ljava/lang/AbstractStringBuilder;" } : MethodName)) ∈ WD := wdT4 143 rfl rfl
theorem wd973 : (Cond.code ({ cls := "java/lang/AbstractStringBuilder", name := "append", desc := "(Ljava/lang/String;)Ljava/lang/AbstractStringBuilder;" } : MethodName) prog_12_method_22_code (3 : Nat) (Option.some (ClassFile.FieldType.object "java/lang/AbstractStringBuilder"))) ∈ WD := wdT4 144 rfl rfl
theorem wd974 : (Cond.methodLink "java/lang/AbstractStringBuilder" (204 : Nat) ({ cls := "java/lang/AbstractStringBuilder", name := "appendNull", desc := "()Ljava/lang/AbstractStringBuilder;" } : MethodName)) ∈ WD := wdT4 145 rfl rfl
theorem wd976 : (Cond.instanceMethod ({ cls := "java/lang/AbstractStringBuilder", name := "appendNull", desc := "()Ljava/lang/AbstractStringBuilder;" } : MethodName)) ∈ WD := wdT4 147 rfl rfl
theorem wd977 : (Cond.code ({ cls := "java/lang/AbstractStringBuilder", name := "appendNull", desc := "()Ljava/lang/AbstractStringBuilder;" } : MethodName) prog_12_method_26_code (3 : Nat) (Option.some (ClassFile.FieldType.object "java/lang/AbstractStringBuilder"))) ∈ WD := wdT4 148 rfl rfl
theorem wd978 : (Cond.methodLink "java/lang/AbstractStringBuilder" (100 : Nat) ({ cls := "java/lang/AbstractStringBuilder", name := "ensureCapacityInternal", desc := "(I)V" } : MethodName)) ∈ WD := wdT4 149 rfl rfl
theorem wd980 : (Cond.instanceMethod ({ cls := "java/lang/AbstractStringBuilder", name := "ensureCapacityInternal", desc := "(I)V" } : MethodName)) ∈ WD := wdT4 151 rfl rfl
theorem wd981 : (Cond.code ({ cls := "java/lang/AbstractStringBuilder", name := "ensureCapacityInternal", desc := "(I)V" } : MethodName) prog_12_method_9_code (3 : Nat) (Option.none : Option ClassFile.FieldType)) ∈ WD := wdT4 152 rfl rfl
theorem wd982 : (Cond.methodLink "java/lang/AbstractStringBuilder" (104 : Nat) ({ cls := "java/lang/AbstractStringBuilder", name := "newCapacity", desc := "(I)I" } : MethodName)) ∈ WD := wdT4 153 rfl rfl
theorem wd984 : (Cond.instanceMethod ({ cls := "java/lang/AbstractStringBuilder", name := "newCapacity", desc := "(I)I" } : MethodName)) ∈ WD := wdT4 155 rfl rfl
theorem wd985 : (Cond.code ({ cls := "java/lang/AbstractStringBuilder", name := "newCapacity", desc := "(I)I" } : MethodName) prog_12_method_10_code (6 : Nat) (Option.some ClassFile.FieldType.int)) ∈ WD := wdT4 156 rfl rfl
theorem wd986 : (Cond.methodLink "java/lang/AbstractStringBuilder" (114 : Nat) ({ cls := "jdk/internal/util/ArraysSupport", name := "newLength", desc := "(III)I" } : MethodName)) ∈ WD := wdT4 157 rfl rfl
theorem wd987 : (Cond.static ({ cls := "jdk/internal/util/ArraysSupport", name := "newLength", desc := "(III)I" } : MethodName)) ∈ WD := wdT4 158 rfl rfl
theorem wd988 : (Cond.code ({ cls := "jdk/internal/util/ArraysSupport", name := "newLength", desc := "(III)I" } : MethodName) prog_39_method_27_code (4 : Nat) (Option.some ClassFile.FieldType.int)) ∈ WD := wdT4 159 rfl rfl
theorem wd989 : (Cond.methodLink "jdk/internal/util/ArraysSupport" (194 : Nat) ({ cls := "java/lang/Math", name := "max", desc := "(II)I" } : MethodName)) ∈ WD := wdT4 160 rfl rfl
theorem wd990 : (Cond.constant "jdk/internal/util/ArraysSupport" (200 : Nat) (2147483639 : Int32)) ∈ WD := wdT4 161 rfl rfl
theorem wd991 : (Cond.methodLink "jdk/internal/util/ArraysSupport" (201 : Nat) ({ cls := "jdk/internal/util/ArraysSupport", name := "hugeLength", desc := "(II)I" } : MethodName)) ∈ WD := wdT4 162 rfl rfl
theorem wd992 : (Cond.static ({ cls := "jdk/internal/util/ArraysSupport", name := "hugeLength", desc := "(II)I" } : MethodName)) ∈ WD := wdT4 163 rfl rfl
theorem wd993 : (Cond.code ({ cls := "jdk/internal/util/ArraysSupport", name := "hugeLength", desc := "(II)I" } : MethodName) prog_39_method_28_code (3 : Nat) (Option.some ClassFile.FieldType.int)) ∈ WD := wdT4 164 rfl rfl
theorem wd994 : (Cond.constant "java/lang/AbstractStringBuilder" (39 : Nat) (2147483647 : Int32)) ∈ WD := wdT4 165 rfl rfl
theorem wd995 : (Cond.methodLink "java/lang/AbstractStringBuilder" (108 : Nat) ({ cls := "java/util/Arrays", name := "copyOf", desc := "([BI)[B" } : MethodName)) ∈ WD := wdT4 166 rfl rfl
theorem wd996 : (Cond.static ({ cls := "java/util/Arrays", name := "copyOf", desc := "([BI)[B" } : MethodName)) ∈ WD := wdT4 167 rfl rfl
theorem wd997 : (Cond.code ({ cls := "java/util/Arrays", name := "copyOf", desc := "([BI)[B" } : MethodName) prog_37_method_121_code (3 : Nat) (Option.some (ClassFile.FieldType.array ClassFile.FieldType.byte))) ∈ WD := wdT4 168 rfl rfl
theorem wd1005 : (Cond.methodLink "java/util/Arrays" (304 : Nat) ({ cls := "java/lang/Math", name := "min", desc := "(II)I" } : MethodName)) ∈ WD := wdT4 176 rfl rfl
theorem wd1006 : (Cond.methodLink "java/util/Arrays" (150 : Nat) ({ cls := "java/lang/System", name := "arraycopy", desc := "(Ljava/lang/Object;ILjava/lang/Object;II)V" } : MethodName)) ∈ WD := wdT4 177 rfl rfl
theorem wd1007 : (Cond.static ({ cls := "java/lang/System", name := "arraycopy", desc := "(Ljava/lang/Object;ILjava/lang/Object;II)V" } : MethodName)) ∈ WD := wdT4 178 rfl rfl
theorem wd1008 : (Cond.native ({ cls := "java/lang/System", name := "arraycopy", desc := "(Ljava/lang/Object;ILjava/lang/Object;II)V" } : MethodName)) ∈ WD := wdT4 179 rfl rfl
theorem wd1009 : (Cond.methodLink "java/lang/AbstractStringBuilder" (83 : Nat) ({ cls := "java/lang/AbstractStringBuilder", name := "isLatin1", desc := "()Z" } : MethodName)) ∈ WD := wdT4 180 rfl rfl
theorem wd1010 : (Cond.instanceMethod ({ cls := "java/lang/AbstractStringBuilder", name := "isLatin1", desc := "()Z" } : MethodName)) ∈ WD := wdT4 181 rfl rfl
theorem wd1011 : (Cond.sameMethod "java/lang/AbstractStringBuilder" "java/lang/AbstractStringBuilder" "isLatin1" "()Z") ∈ WD := wdT4 182 rfl rfl
theorem wd1012 : (Cond.selects "java/lang/StringBuilder" ({ cls := "java/lang/AbstractStringBuilder", name := "isLatin1", desc := "()Z" } : MethodName) ({ cls := "java/lang/AbstractStringBuilder", name := "isLatin1", desc := "()Z" } : MethodName)) ∈ WD := wdT4 183 rfl rfl
theorem wd1013 : (Cond.code ({ cls := "java/lang/AbstractStringBuilder", name := "isLatin1", desc := "()Z" } : MethodName) prog_12_method_68_code (1 : Nat) (Option.some ClassFile.FieldType.boolean)) ∈ WD := wdT4 184 rfl rfl
theorem wd1020 : (Cond.methodLink "java/lang/AbstractStringBuilder" (32 : Nat) ({ cls := "java/lang/String", name := "length", desc := "()I" } : MethodName)) ∈ WD := wdT4 191 rfl rfl
theorem wd1021 : (Cond.methodLink "java/lang/AbstractStringBuilder" (208 : Nat) ({ cls := "java/lang/AbstractStringBuilder", name := "putStringAt", desc := "(ILjava/lang/String;)V" } : MethodName)) ∈ WD := wdT4 192 rfl rfl
theorem wd1023 : (Cond.instanceMethod ({ cls := "java/lang/AbstractStringBuilder", name := "putStringAt", desc := "(ILjava/lang/String;)V" } : MethodName)) ∈ WD := wdT4 194 rfl rfl
theorem wd1024 : (Cond.code ({ cls := "java/lang/AbstractStringBuilder", name := "putStringAt", desc := "(ILjava/lang/String;)V" } : MethodName) prog_12_method_73_code (3 : Nat) (Option.none : Option ClassFile.FieldType)) ∈ WD := wdT4 195 rfl rfl
theorem wd1025 : (Cond.methodLink "java/lang/AbstractStringBuilder" (397 : Nat) ({ cls := "java/lang/AbstractStringBuilder", name := "inflateIfNeededFor", desc := "(Ljava/lang/String;)V" } : MethodName)) ∈ WD := wdT4 196 rfl rfl
theorem wd1027 : (Cond.instanceMethod ({ cls := "java/lang/AbstractStringBuilder", name := "inflateIfNeededFor", desc := "(Ljava/lang/String;)V" } : MethodName)) ∈ WD := wdT4 198 rfl rfl
theorem wd1028 : (Cond.code ({ cls := "java/lang/AbstractStringBuilder", name := "inflateIfNeededFor", desc := "(Ljava/lang/String;)V" } : MethodName) prog_12_method_71_code (2 : Nat) (Option.none : Option ClassFile.FieldType)) ∈ WD := wdT4 199 rfl rfl
theorem wd1029 : (Cond.methodLink "java/lang/AbstractStringBuilder" (40 : Nat) ({ cls := "java/lang/String", name := "coder", desc := "()B" } : MethodName)) ∈ WD := wdT4 200 rfl rfl
theorem wd1030 : (Cond.methodLink "java/lang/AbstractStringBuilder" (195 : Nat) ({ cls := "java/lang/AbstractStringBuilder", name := "inflate", desc := "()V" } : MethodName)) ∈ WD := wdT4 201 rfl rfl
theorem wd1032 : (Cond.instanceMethod ({ cls := "java/lang/AbstractStringBuilder", name := "inflate", desc := "()V" } : MethodName)) ∈ WD := wdT4 203 rfl rfl
theorem wd1033 : (Cond.code ({ cls := "java/lang/AbstractStringBuilder", name := "inflate", desc := "()V" } : MethodName) prog_12_method_11_code (2 : Nat) (Option.none : Option ClassFile.FieldType)) ∈ WD := wdT4 204 rfl rfl
theorem wd1035 : (Cond.static ({ cls := "java/lang/StringLatin1", name := "inflate", desc := "([BI[BII)V" } : MethodName)) ∈ WD := wdT4 206 rfl rfl
theorem wd1036 : (Cond.code ({ cls := "java/lang/StringLatin1", name := "inflate", desc := "([BI[BII)V" } : MethodName) prog_31_method_50_code (5 : Nat) (Option.none : Option ClassFile.FieldType)) ∈ WD := wdT4 207 rfl rfl
theorem wd1049 : (Cond.methodLink "java/lang/AbstractStringBuilder" (399 : Nat) ({ cls := "java/lang/String", name := "getBytes", desc := "([BIB)V" } : MethodName)) ∈ WD := wdT4 220 rfl rfl
theorem wd1050 : (Cond.instanceMethod ({ cls := "java/lang/String", name := "getBytes", desc := "([BIB)V" } : MethodName)) ∈ WD := wdT4 221 rfl rfl
theorem wd1051 : (Cond.selects "java/lang/String" ({ cls := "java/lang/String", name := "getBytes", desc := "([BIB)V" } : MethodName) ({ cls := "java/lang/String", name := "getBytes", desc := "([BIB)V" } : MethodName)) ∈ WD := wdT4 222 rfl rfl
theorem wd1052 : (Cond.code ({ cls := "java/lang/String", name := "getBytes", desc := "([BIB)V" } : MethodName) prog_28_method_147_code (4 : Nat) (Option.none : Option ClassFile.FieldType)) ∈ WD := wdT4 223 rfl rfl
theorem wd1053 : (Cond.methodLink "java/lang/String" (212 : Nat) ({ cls := "java/lang/System", name := "arraycopy", desc := "(Ljava/lang/Object;ILjava/lang/Object;II)V" } : MethodName)) ∈ WD := wdT4 224 rfl rfl
theorem wd1054 : (Cond.methodLink "java/lang/String" (106 : Nat) ({ cls := "java/lang/StringLatin1", name := "inflate", desc := "([BI[BII)V" } : MethodName)) ∈ WD := wdT4 225 rfl rfl
theorem wd1058 : (Cond.code ({ cls := "java/lang/StringBuilder", name := "append", desc := "(I)Ljava/lang/StringBuilder;" } : MethodName) prog_29_method_15_code (2 : Nat) (Option.some (ClassFile.FieldType.object "java/lang/StringBuilder"))) ∈ WD := wdT4 229 rfl rfl
theorem wd1059 : (Cond.methodLink "java/lang/StringBuilder" (53 : Nat) ({ cls := "java/lang/AbstractStringBuilder", name := "append", desc := "(I)Ljava/lang/AbstractStringBuilder;" } : MethodName)) ∈ WD := wdT4 230 rfl rfl
theorem wd1060 : (Cond.instanceMethod ({ cls := "java/lang/AbstractStringBuilder", name := "append", desc := "(I)Ljava/lang/AbstractStringBuilder;" } : MethodName)) ∈ WD := wdT4 231 rfl rfl
theorem wd1061 : (Cond.code ({ cls := "java/lang/AbstractStringBuilder", name := "append", desc := "(I)Ljava/lang/AbstractStringBuilder;" } : MethodName) prog_12_method_32_code (4 : Nat) (Option.some (ClassFile.FieldType.object "java/lang/AbstractStringBuilder"))) ∈ WD := wdT4 232 rfl rfl
theorem wd1062 : (Cond.methodLink "java/lang/AbstractStringBuilder" (245 : Nat) ({ cls := "java/lang/Integer", name := "stringSize", desc := "(I)I" } : MethodName)) ∈ WD := wdT4 233 rfl rfl
theorem wd1063 : (Cond.static ({ cls := "java/lang/Integer", name := "stringSize", desc := "(I)I" } : MethodName)) ∈ WD := wdT4 234 rfl rfl
theorem wd1064 : (Cond.code ({ cls := "java/lang/Integer", name := "stringSize", desc := "(I)I" } : MethodName) prog_23_method_13_code (4 : Nat) (Option.some ClassFile.FieldType.int)) ∈ WD := wdT4 235 rfl rfl
theorem wd1065 : (Cond.methodLink "java/lang/AbstractStringBuilder" (248 : Nat) ({ cls := "java/lang/Integer", name := "getChars", desc := "(II[B)I" } : MethodName)) ∈ WD := wdT4 236 rfl rfl
theorem wd1066 : (Cond.static ({ cls := "java/lang/Integer", name := "getChars", desc := "(II[B)I" } : MethodName)) ∈ WD := wdT4 237 rfl rfl
theorem wd1067 : (Cond.code ({ cls := "java/lang/Integer", name := "getChars", desc := "(II[B)I" } : MethodName) prog_23_method_12_code (7 : Nat) (Option.some ClassFile.FieldType.int)) ∈ WD := wdT4 238 rfl rfl
theorem wd1068 : (Cond.fieldLink "java/lang/Integer" (83 : Nat) "java/lang/Integer" "DigitOnes" "[B") ∈ WD := wdT4 239 rfl rfl
theorem wd1070 : (Cond.fieldLink "java/lang/Integer" (87 : Nat) "java/lang/Integer" "DigitTens" "[B") ∈ WD := wdT5 1 rfl rfl
theorem wd1072 : (Cond.methodLink "java/lang/AbstractStringBuilder" (251 : Nat) ({ cls := "java/lang/StringUTF16", name := "getChars", desc := "(III[B)I" } : MethodName)) ∈ WD := wdT5 3 rfl rfl
theorem wd1073 : (Cond.static ({ cls := "java/lang/StringUTF16", name := "getChars", desc := "(III[B)I" } : MethodName)) ∈ WD := wdT5 4 rfl rfl
theorem wd1074 : (Cond.code ({ cls := "java/lang/StringUTF16", name := "getChars", desc := "(III[B)I" } : MethodName) prog_32_method_77_code (5 : Nat) (Option.some ClassFile.FieldType.int)) ∈ WD := wdT5 5 rfl rfl
theorem wd1099 : (Cond.instanceMethod ({ cls := "java/lang/AbstractStringBuilder", name := "length", desc := "()I" } : MethodName)) ∈ WD := wdT5 30 rfl rfl
theorem wd1100 : (Cond.sameMethod "java/lang/AbstractStringBuilder" "java/lang/AbstractStringBuilder" "length" "()I") ∈ WD := wdT5 31 rfl rfl
theorem wd1103 : (Cond.code ({ cls := "java/lang/StringBuilder", name := "length", desc := "()I" } : MethodName) prog_29_method_93_code (1 : Nat) (Option.some ClassFile.FieldType.int)) ∈ WD := wdT5 34 rfl rfl
theorem wd1104 : (Cond.methodLink "java/lang/StringBuilder" (343 : Nat) ({ cls := "java/lang/AbstractStringBuilder", name := "length", desc := "()I" } : MethodName)) ∈ WD := wdT5 35 rfl rfl
theorem wd1105 : (Cond.code ({ cls := "java/lang/AbstractStringBuilder", name := "length", desc := "()I" } : MethodName) prog_12_method_6_code (1 : Nat) (Option.some ClassFile.FieldType.int)) ∈ WD := wdT5 36 rfl rfl
theorem wd1201 : (Cond.fieldLink "java/lang/String" (9 : Nat) "java/lang/String" "value" "[B") ∈ WD := wdT5 132 rfl rfl
theorem wd1202 : (Cond.fieldLink "java/lang/String" (15 : Nat) "java/lang/String" "coder" "B") ∈ WD := wdT5 133 rfl rfl
theorem wd1223 : (Cond.methodLink "java/lang/AbstractStringBuilder" (133 : Nat) ({ cls := "java/lang/StringLatin1", name := "fillNull", desc := "([BII)V" } : MethodName)) ∈ WD := wdT5 154 rfl rfl
theorem wd1224 : (Cond.static ({ cls := "java/lang/StringLatin1", name := "fillNull", desc := "([BII)V" } : MethodName)) ∈ WD := wdT5 155 rfl rfl
theorem wd1225 : (Cond.code ({ cls := "java/lang/StringLatin1", name := "fillNull", desc := "([BII)V" } : MethodName) prog_31_method_48_code (3 : Nat) (Option.none : Option ClassFile.FieldType)) ∈ WD := wdT5 156 rfl rfl
theorem wd1258 : (Cond.methodLink "java/lang/AbstractStringBuilder" (137 : Nat) ({ cls := "java/lang/StringUTF16", name := "fillNull", desc := "([BII)V" } : MethodName)) ∈ WD := wdT5 189 rfl rfl
theorem wd1259 : (Cond.static ({ cls := "java/lang/StringUTF16", name := "fillNull", desc := "([BII)V" } : MethodName)) ∈ WD := wdT5 190 rfl rfl
theorem wd1260 : (Cond.code ({ cls := "java/lang/StringUTF16", name := "fillNull", desc := "([BII)V" } : MethodName) prog_32_method_70_code (3 : Nat) (Option.none : Option ClassFile.FieldType)) ∈ WD := wdT5 191 rfl rfl
theorem wd1265 : (Cond.code ({ cls := "java/lang/StringBuilder", name := "append", desc := "(C)Ljava/lang/StringBuilder;" } : MethodName) prog_29_method_14_code (2 : Nat) (Option.some (ClassFile.FieldType.object "java/lang/StringBuilder"))) ∈ WD := wdT5 196 rfl rfl
theorem wd1266 : (Cond.methodLink "java/lang/StringBuilder" (50 : Nat) ({ cls := "java/lang/AbstractStringBuilder", name := "append", desc := "(C)Ljava/lang/AbstractStringBuilder;" } : MethodName)) ∈ WD := wdT5 197 rfl rfl
theorem wd1267 : (Cond.instanceMethod ({ cls := "java/lang/AbstractStringBuilder", name := "append", desc := "(C)Ljava/lang/AbstractStringBuilder;" } : MethodName)) ∈ WD := wdT5 198 rfl rfl
theorem wd1268 : (Cond.code ({ cls := "java/lang/AbstractStringBuilder", name := "append", desc := "(C)Ljava/lang/AbstractStringBuilder;" } : MethodName) prog_12_method_31_code (2 : Nat) (Option.some (ClassFile.FieldType.object "java/lang/AbstractStringBuilder"))) ∈ WD := wdT5 199 rfl rfl
theorem wd1269 : (Cond.methodLink "java/lang/AbstractStringBuilder" (191 : Nat) ({ cls := "java/lang/StringLatin1", name := "canEncode", desc := "(C)Z" } : MethodName)) ∈ WD := wdT5 200 rfl rfl
theorem wd1270 : (Cond.static ({ cls := "java/lang/StringLatin1", name := "canEncode", desc := "(C)Z" } : MethodName)) ∈ WD := wdT5 201 rfl rfl
theorem wd1271 : (Cond.code ({ cls := "java/lang/StringLatin1", name := "canEncode", desc := "(C)Z" } : MethodName) prog_31_method_3_code (1 : Nat) (Option.some ClassFile.FieldType.boolean)) ∈ WD := wdT5 202 rfl rfl
theorem wd1272 : (Cond.methodLink "java/lang/AbstractStringBuilder" (197 : Nat) ({ cls := "java/lang/StringUTF16", name := "putCharSB", desc := "([BII)V" } : MethodName)) ∈ WD := wdT5 203 rfl rfl
theorem wd1273 : (Cond.static ({ cls := "java/lang/StringUTF16", name := "putCharSB", desc := "([BII)V" } : MethodName)) ∈ WD := wdT5 204 rfl rfl
theorem wd1274 : (Cond.code ({ cls := "java/lang/StringUTF16", name := "putCharSB", desc := "([BII)V" } : MethodName) prog_32_method_71_code (3 : Nat) (Option.none : Option ClassFile.FieldType)) ∈ WD := wdT5 205 rfl rfl
theorem wd1279 : (Cond.methodLink "RestMillLaw" (287 : Nat) ({ cls := "RestMill", name := "outputByte", desc := "(I)I" } : MethodName)) ∈ WD := wdT5 210 rfl rfl
theorem wd1280 : (Cond.instanceMethod ({ cls := "RestMill", name := "outputByte", desc := "(I)I" } : MethodName)) ∈ WD := wdT5 211 rfl rfl
theorem wd1281 : (Cond.selects "RestMill" ({ cls := "RestMill", name := "outputByte", desc := "(I)I" } : MethodName) ({ cls := "RestMill", name := "outputByte", desc := "(I)I" } : MethodName)) ∈ WD := wdT5 212 rfl rfl
theorem wd1286 : (Cond.code ({ cls := "java/lang/StringBuilder", name := "charAt", desc := "(I)C" } : MethodName) prog_29_method_88_code (2 : Nat) (Option.some ClassFile.FieldType.char)) ∈ WD := wdT5 217 rfl rfl
theorem wd1287 : (Cond.methodLink "java/lang/StringBuilder" (329 : Nat) ({ cls := "java/lang/AbstractStringBuilder", name := "charAt", desc := "(I)C" } : MethodName)) ∈ WD := wdT5 218 rfl rfl
theorem wd1288 : (Cond.instanceMethod ({ cls := "java/lang/AbstractStringBuilder", name := "charAt", desc := "(I)C" } : MethodName)) ∈ WD := wdT5 219 rfl rfl
theorem wd1289 : (Cond.code ({ cls := "java/lang/AbstractStringBuilder", name := "charAt", desc := "(I)C" } : MethodName) prog_12_method_14_code (5 : Nat) (Option.some ClassFile.FieldType.char)) ∈ WD := wdT5 220 rfl rfl
theorem wd1290 : (Cond.methodLink "java/lang/AbstractStringBuilder" (138 : Nat) ({ cls := "java/lang/Math", name := "min", desc := "(II)I" } : MethodName)) ∈ WD := wdT5 221 rfl rfl
theorem wd1291 : (Cond.methodLink "java/lang/AbstractStringBuilder" (144 : Nat) ({ cls := "java/lang/String", name := "checkIndex", desc := "(II)V" } : MethodName)) ∈ WD := wdT5 222 rfl rfl
theorem wd1292 : (Cond.methodLink "java/lang/AbstractStringBuilder" (148 : Nat) ({ cls := "java/lang/StringUTF16", name := "getChar", desc := "([BI)C" } : MethodName)) ∈ WD := wdT5 223 rfl rfl
theorem wd1293 : (Cond.methodLink "RestMillLaw" (291 : Nat) ({ cls := "RestMill", name := "saveState", desc := "()I" } : MethodName)) ∈ WD := wdT5 224 rfl rfl
theorem wd1294 : (Cond.instanceMethod ({ cls := "RestMill", name := "saveState", desc := "()I" } : MethodName)) ∈ WD := wdT5 225 rfl rfl
theorem wd1295 : (Cond.selects "RestMill" ({ cls := "RestMill", name := "saveState", desc := "()I" } : MethodName) ({ cls := "RestMill", name := "saveState", desc := "()I" } : MethodName)) ∈ WD := wdT5 226 rfl rfl
theorem wd1297 : (Cond.methodLink "RestMillLaw" (152 : Nat) ({ cls := "RestMillLaw", name := "count", desc := "(LRestMill;I[J)I" } : MethodName)) ∈ WD := wdT5 228 rfl rfl
theorem wd1298 : (Cond.static ({ cls := "RestMillLaw", name := "count", desc := "(LRestMill;I[J)I" } : MethodName)) ∈ WD := wdT5 229 rfl rfl
theorem wd1299 : (Cond.codeWith ({ cls := "RestMillLaw", name := "count", desc := "(LRestMill;I[J)I" } : MethodName) method_3_code (4 : Nat) (Option.some ClassFile.FieldType.int) [((0 : Nat), (9 : Nat), (12 : Nat), (13 : Nat))]) ∈ WD := wdT5 230 rfl rfl
theorem wd1300 : (Cond.classLink "RestMillLaw" (13 : Nat) "java/lang/IllegalArgumentException") ∈ WD := wdT5 231 rfl rfl
theorem wd1301 : (Cond.methodLink "RestMillLaw" (7 : Nat) ({ cls := "RestMill", name := "count", desc := "(I)I" } : MethodName)) ∈ WD := wdT5 232 rfl rfl
theorem wd1302 : (Cond.instanceMethod ({ cls := "RestMill", name := "count", desc := "(I)I" } : MethodName)) ∈ WD := wdT5 233 rfl rfl
theorem wd1303 : (Cond.selects "RestMill" ({ cls := "RestMill", name := "count", desc := "(I)I" } : MethodName) ({ cls := "RestMill", name := "count", desc := "(I)I" } : MethodName)) ∈ WD := wdT5 234 rfl rfl
theorem wd1327 : (Cond.methodLink "RestMillLaw" (161 : Nat) ({ cls := "RestMillLaw", name := "account", desc := "(LRestMill;I[J)I" } : MethodName)) ∈ WD := wdT6 18 rfl rfl
theorem wd1328 : (Cond.static ({ cls := "RestMillLaw", name := "account", desc := "(LRestMill;I[J)I" } : MethodName)) ∈ WD := wdT6 19 rfl rfl
theorem wd1329 : (Cond.codeWith ({ cls := "RestMillLaw", name := "account", desc := "(LRestMill;I[J)I" } : MethodName) method_4_code (4 : Nat) (Option.some ClassFile.FieldType.int) [((0 : Nat), (9 : Nat), (12 : Nat), (13 : Nat))]) ∈ WD := wdT6 20 rfl rfl
theorem wd1330 : (Cond.methodLink "RestMillLaw" (15 : Nat) ({ cls := "RestMill", name := "account", desc := "(I)I" } : MethodName)) ∈ WD := wdT6 21 rfl rfl
theorem wd1331 : (Cond.instanceMethod ({ cls := "RestMill", name := "account", desc := "(I)I" } : MethodName)) ∈ WD := wdT6 22 rfl rfl
theorem wd1332 : (Cond.selects "RestMill" ({ cls := "RestMill", name := "account", desc := "(I)I" } : MethodName) ({ cls := "RestMill", name := "account", desc := "(I)I" } : MethodName)) ∈ WD := wdT6 23 rfl rfl
theorem wd1338 : (Cond.methodLink "RestMillLaw" (164 : Nat) ({ cls := "RestMillLaw", name := "bound", desc := "(LRestMill;I[J)I" } : MethodName)) ∈ WD := wdT6 29 rfl rfl
theorem wd1339 : (Cond.static ({ cls := "RestMillLaw", name := "bound", desc := "(LRestMill;I[J)I" } : MethodName)) ∈ WD := wdT6 30 rfl rfl
theorem wd1340 : (Cond.codeWith ({ cls := "RestMillLaw", name := "bound", desc := "(LRestMill;I[J)I" } : MethodName) method_5_code (4 : Nat) (Option.some ClassFile.FieldType.int) [((0 : Nat), (8 : Nat), (11 : Nat), (13 : Nat))]) ∈ WD := wdT6 31 rfl rfl
theorem wd1341 : (Cond.methodLink "RestMillLaw" (18 : Nat) ({ cls := "RestMill", name := "bound", desc := "(I)J" } : MethodName)) ∈ WD := wdT6 32 rfl rfl
theorem wd1342 : (Cond.instanceMethod ({ cls := "RestMill", name := "bound", desc := "(I)J" } : MethodName)) ∈ WD := wdT6 33 rfl rfl
theorem wd1343 : (Cond.selects "RestMill" ({ cls := "RestMill", name := "bound", desc := "(I)J" } : MethodName) ({ cls := "RestMill", name := "bound", desc := "(I)J" } : MethodName)) ∈ WD := wdT6 34 rfl rfl
theorem wd1346 : (Cond.methodLink "RestMillLaw" (167 : Nat) ({ cls := "RestMillLaw", name := "modulus", desc := "(LRestMill;I[J)I" } : MethodName)) ∈ WD := wdT6 37 rfl rfl
theorem wd1347 : (Cond.static ({ cls := "RestMillLaw", name := "modulus", desc := "(LRestMill;I[J)I" } : MethodName)) ∈ WD := wdT6 38 rfl rfl
theorem wd1348 : (Cond.codeWith ({ cls := "RestMillLaw", name := "modulus", desc := "(LRestMill;I[J)I" } : MethodName) method_6_code (4 : Nat) (Option.some ClassFile.FieldType.int) [((0 : Nat), (9 : Nat), (12 : Nat), (25 : Nat))]) ∈ WD := wdT6 39 rfl rfl
theorem wd1349 : (Cond.classLink "RestMillLaw" (25 : Nat) "java/lang/IndexOutOfBoundsException") ∈ WD := wdT6 40 rfl rfl
theorem wd1350 : (Cond.methodLink "RestMillLaw" (22 : Nat) ({ cls := "RestMill", name := "modulus", desc := "(I)I" } : MethodName)) ∈ WD := wdT6 41 rfl rfl
theorem wd1351 : (Cond.instanceMethod ({ cls := "RestMill", name := "modulus", desc := "(I)I" } : MethodName)) ∈ WD := wdT6 42 rfl rfl
theorem wd1352 : (Cond.selects "RestMill" ({ cls := "RestMill", name := "modulus", desc := "(I)I" } : MethodName) ({ cls := "RestMill", name := "modulus", desc := "(I)I" } : MethodName)) ∈ WD := wdT6 43 rfl rfl
theorem wd1373 : (Cond.methodLink "RestMillLaw" (170 : Nat) ({ cls := "RestMillLaw", name := "inverse", desc := "(LRestMill;II[J)I" } : MethodName)) ∈ WD := wdT6 64 rfl rfl
theorem wd1374 : (Cond.static ({ cls := "RestMillLaw", name := "inverse", desc := "(LRestMill;II[J)I" } : MethodName)) ∈ WD := wdT6 65 rfl rfl
theorem wd1375 : (Cond.codeWith ({ cls := "RestMillLaw", name := "inverse", desc := "(LRestMill;II[J)I" } : MethodName) method_7_code (5 : Nat) (Option.some ClassFile.FieldType.int) [((0 : Nat), (10 : Nat), (13 : Nat), (25 : Nat))]) ∈ WD := wdT6 66 rfl rfl
theorem wd1376 : (Cond.methodLink "RestMillLaw" (27 : Nat) ({ cls := "RestMill", name := "inverse", desc := "(II)I" } : MethodName)) ∈ WD := wdT6 67 rfl rfl
theorem wd1377 : (Cond.instanceMethod ({ cls := "RestMill", name := "inverse", desc := "(II)I" } : MethodName)) ∈ WD := wdT6 68 rfl rfl
theorem wd1378 : (Cond.selects "RestMill" ({ cls := "RestMill", name := "inverse", desc := "(II)I" } : MethodName) ({ cls := "RestMill", name := "inverse", desc := "(II)I" } : MethodName)) ∈ WD := wdT6 69 rfl rfl
theorem wd1381 : (Cond.methodLink "RestMillLaw" (174 : Nat) ({ cls := "RestMillLaw", name := "weight", desc := "(LRestMill;I[J)I" } : MethodName)) ∈ WD := wdT6 72 rfl rfl
theorem wd1382 : (Cond.static ({ cls := "RestMillLaw", name := "weight", desc := "(LRestMill;I[J)I" } : MethodName)) ∈ WD := wdT6 73 rfl rfl
theorem wd1383 : (Cond.codeWith ({ cls := "RestMillLaw", name := "weight", desc := "(LRestMill;I[J)I" } : MethodName) method_8_code (4 : Nat) (Option.some ClassFile.FieldType.int) [((0 : Nat), (8 : Nat), (11 : Nat), (25 : Nat))]) ∈ WD := wdT6 74 rfl rfl
theorem wd1384 : (Cond.methodLink "RestMillLaw" (31 : Nat) ({ cls := "RestMill", name := "weight", desc := "(I)J" } : MethodName)) ∈ WD := wdT6 75 rfl rfl
theorem wd1385 : (Cond.instanceMethod ({ cls := "RestMill", name := "weight", desc := "(I)J" } : MethodName)) ∈ WD := wdT6 76 rfl rfl
theorem wd1386 : (Cond.selects "RestMill" ({ cls := "RestMill", name := "weight", desc := "(I)J" } : MethodName) ({ cls := "RestMill", name := "weight", desc := "(I)J" } : MethodName)) ∈ WD := wdT6 77 rfl rfl
theorem wd1389 : (Cond.methodLink "RestMillLaw" (177 : Nat) ({ cls := "RestMillLaw", name := "rest", desc := "(LRestMill;II[J)I" } : MethodName)) ∈ WD := wdT6 80 rfl rfl
theorem wd1390 : (Cond.static ({ cls := "RestMillLaw", name := "rest", desc := "(LRestMill;II[J)I" } : MethodName)) ∈ WD := wdT6 81 rfl rfl
theorem wd1391 : (Cond.codeWith ({ cls := "RestMillLaw", name := "rest", desc := "(LRestMill;II[J)I" } : MethodName) method_9_code (5 : Nat) (Option.some ClassFile.FieldType.int) [((0 : Nat), (10 : Nat), (13 : Nat), (25 : Nat))]) ∈ WD := wdT6 82 rfl rfl
theorem wd1392 : (Cond.methodLink "RestMillLaw" (34 : Nat) ({ cls := "RestMill", name := "rest", desc := "(II)I" } : MethodName)) ∈ WD := wdT6 83 rfl rfl
theorem wd1393 : (Cond.instanceMethod ({ cls := "RestMill", name := "rest", desc := "(II)I" } : MethodName)) ∈ WD := wdT6 84 rfl rfl
theorem wd1394 : (Cond.selects "RestMill" ({ cls := "RestMill", name := "rest", desc := "(II)I" } : MethodName) ({ cls := "RestMill", name := "rest", desc := "(II)I" } : MethodName)) ∈ WD := wdT6 85 rfl rfl
theorem wd1401 : (Cond.methodLink "RestMillLaw" (180 : Nat) ({ cls := "RestMillLaw", name := "digit", desc := "(LRestMill;II[J)I" } : MethodName)) ∈ WD := wdT6 92 rfl rfl
theorem wd1402 : (Cond.static ({ cls := "RestMillLaw", name := "digit", desc := "(LRestMill;II[J)I" } : MethodName)) ∈ WD := wdT6 93 rfl rfl
theorem wd1403 : (Cond.codeWith ({ cls := "RestMillLaw", name := "digit", desc := "(LRestMill;II[J)I" } : MethodName) method_10_code (5 : Nat) (Option.some ClassFile.FieldType.int) [((0 : Nat), (10 : Nat), (13 : Nat), (25 : Nat))]) ∈ WD := wdT6 94 rfl rfl
theorem wd1404 : (Cond.methodLink "RestMillLaw" (37 : Nat) ({ cls := "RestMill", name := "digit", desc := "(II)I" } : MethodName)) ∈ WD := wdT6 95 rfl rfl
theorem wd1405 : (Cond.instanceMethod ({ cls := "RestMill", name := "digit", desc := "(II)I" } : MethodName)) ∈ WD := wdT6 96 rfl rfl
theorem wd1406 : (Cond.selects "RestMill" ({ cls := "RestMill", name := "digit", desc := "(II)I" } : MethodName) ({ cls := "RestMill", name := "digit", desc := "(II)I" } : MethodName)) ∈ WD := wdT6 97 rfl rfl
theorem wd1409 : (Cond.methodLink "RestMillLaw" (183 : Nat) ({ cls := "RestMillLaw", name := "part", desc := "(LRestMill;II[J)I" } : MethodName)) ∈ WD := wdT6 100 rfl rfl
theorem wd1410 : (Cond.static ({ cls := "RestMillLaw", name := "part", desc := "(LRestMill;II[J)I" } : MethodName)) ∈ WD := wdT6 101 rfl rfl
theorem wd1411 : (Cond.codeWith ({ cls := "RestMillLaw", name := "part", desc := "(LRestMill;II[J)I" } : MethodName) method_11_code (5 : Nat) (Option.some ClassFile.FieldType.int) [((0 : Nat), (9 : Nat), (12 : Nat), (25 : Nat))]) ∈ WD := wdT6 102 rfl rfl
theorem wd1412 : (Cond.methodLink "RestMillLaw" (40 : Nat) ({ cls := "RestMill", name := "part", desc := "(II)J" } : MethodName)) ∈ WD := wdT6 103 rfl rfl
theorem wd1413 : (Cond.instanceMethod ({ cls := "RestMill", name := "part", desc := "(II)J" } : MethodName)) ∈ WD := wdT6 104 rfl rfl
theorem wd1414 : (Cond.selects "RestMill" ({ cls := "RestMill", name := "part", desc := "(II)J" } : MethodName) ({ cls := "RestMill", name := "part", desc := "(II)J" } : MethodName)) ∈ WD := wdT6 105 rfl rfl
theorem wd1417 : (Cond.methodLink "RestMillLaw" (186 : Nat) ({ cls := "RestMillLaw", name := "rank", desc := "(LRestMill;I[J)I" } : MethodName)) ∈ WD := wdT6 108 rfl rfl
theorem wd1418 : (Cond.static ({ cls := "RestMillLaw", name := "rank", desc := "(LRestMill;I[J)I" } : MethodName)) ∈ WD := wdT6 109 rfl rfl
theorem wd1419 : (Cond.codeWith ({ cls := "RestMillLaw", name := "rank", desc := "(LRestMill;I[J)I" } : MethodName) method_12_code (4 : Nat) (Option.some ClassFile.FieldType.int) [((0 : Nat), (9 : Nat), (12 : Nat), (25 : Nat))]) ∈ WD := wdT6 110 rfl rfl
theorem wd1420 : (Cond.methodLink "RestMillLaw" (44 : Nat) ({ cls := "RestMill", name := "rank", desc := "(I)I" } : MethodName)) ∈ WD := wdT6 111 rfl rfl
theorem wd1421 : (Cond.instanceMethod ({ cls := "RestMill", name := "rank", desc := "(I)I" } : MethodName)) ∈ WD := wdT6 112 rfl rfl
theorem wd1422 : (Cond.selects "RestMill" ({ cls := "RestMill", name := "rank", desc := "(I)I" } : MethodName) ({ cls := "RestMill", name := "rank", desc := "(I)I" } : MethodName)) ∈ WD := wdT6 113 rfl rfl
theorem wd1424 : (Cond.methodLink "RestMillLaw" (189 : Nat) ({ cls := "RestMillLaw", name := "value", desc := "(LRestMill;I[J)I" } : MethodName)) ∈ WD := wdT6 115 rfl rfl
theorem wd1425 : (Cond.static ({ cls := "RestMillLaw", name := "value", desc := "(LRestMill;I[J)I" } : MethodName)) ∈ WD := wdT6 116 rfl rfl
theorem wd1426 : (Cond.codeWith ({ cls := "RestMillLaw", name := "value", desc := "(LRestMill;I[J)I" } : MethodName) method_13_code (4 : Nat) (Option.some ClassFile.FieldType.int) [((0 : Nat), (8 : Nat), (11 : Nat), (25 : Nat))]) ∈ WD := wdT6 117 rfl rfl
theorem wd1427 : (Cond.methodLink "RestMillLaw" (47 : Nat) ({ cls := "RestMill", name := "value", desc := "(I)J" } : MethodName)) ∈ WD := wdT6 118 rfl rfl
theorem wd1428 : (Cond.instanceMethod ({ cls := "RestMill", name := "value", desc := "(I)J" } : MethodName)) ∈ WD := wdT6 119 rfl rfl
theorem wd1429 : (Cond.selects "RestMill" ({ cls := "RestMill", name := "value", desc := "(I)J" } : MethodName) ({ cls := "RestMill", name := "value", desc := "(I)J" } : MethodName)) ∈ WD := wdT6 120 rfl rfl
theorem wd1432 : (Cond.methodLink "RestMillLaw" (192 : Nat) ({ cls := "RestMillLaw", name := "number", desc := "(LRestMill;I[J)I" } : MethodName)) ∈ WD := wdT6 123 rfl rfl
theorem wd1433 : (Cond.static ({ cls := "RestMillLaw", name := "number", desc := "(LRestMill;I[J)I" } : MethodName)) ∈ WD := wdT6 124 rfl rfl
theorem wd1434 : (Cond.codeWith ({ cls := "RestMillLaw", name := "number", desc := "(LRestMill;I[J)I" } : MethodName) method_14_code (4 : Nat) (Option.some ClassFile.FieldType.int) [((0 : Nat), (8 : Nat), (11 : Nat), (25 : Nat))]) ∈ WD := wdT6 125 rfl rfl
theorem wd1435 : (Cond.methodLink "RestMillLaw" (50 : Nat) ({ cls := "RestMill", name := "number", desc := "(I)J" } : MethodName)) ∈ WD := wdT6 126 rfl rfl
theorem wd1436 : (Cond.instanceMethod ({ cls := "RestMill", name := "number", desc := "(I)J" } : MethodName)) ∈ WD := wdT6 127 rfl rfl
theorem wd1437 : (Cond.selects "RestMill" ({ cls := "RestMill", name := "number", desc := "(I)J" } : MethodName) ({ cls := "RestMill", name := "number", desc := "(I)J" } : MethodName)) ∈ WD := wdT6 128 rfl rfl
theorem wd1439 : (Cond.methodLink "RestMillLaw" (195 : Nat) ({ cls := "RestMillLaw", name := "isSound", desc := "(LRestMill;I[J)I" } : MethodName)) ∈ WD := wdT6 130 rfl rfl
theorem wd1440 : (Cond.static ({ cls := "RestMillLaw", name := "isSound", desc := "(LRestMill;I[J)I" } : MethodName)) ∈ WD := wdT6 131 rfl rfl
theorem wd1441 : (Cond.codeWith ({ cls := "RestMillLaw", name := "isSound", desc := "(LRestMill;I[J)I" } : MethodName) method_15_code (4 : Nat) (Option.some ClassFile.FieldType.int) [((0 : Nat), (16 : Nat), (19 : Nat), (25 : Nat))]) ∈ WD := wdT6 132 rfl rfl
theorem wd1442 : (Cond.methodLink "RestMillLaw" (53 : Nat) ({ cls := "RestMill", name := "isSound", desc := "(I)Z" } : MethodName)) ∈ WD := wdT6 133 rfl rfl
theorem wd1443 : (Cond.instanceMethod ({ cls := "RestMill", name := "isSound", desc := "(I)Z" } : MethodName)) ∈ WD := wdT6 134 rfl rfl
theorem wd1444 : (Cond.selects "RestMill" ({ cls := "RestMill", name := "isSound", desc := "(I)Z" } : MethodName) ({ cls := "RestMill", name := "isSound", desc := "(I)Z" } : MethodName)) ∈ WD := wdT6 135 rfl rfl
theorem wd1447 : (Cond.methodLink "RestMillLaw" (198 : Nat) ({ cls := "RestMillLaw", name := "compare", desc := "(LRestMill;II[J)I" } : MethodName)) ∈ WD := wdT6 138 rfl rfl
theorem wd1448 : (Cond.static ({ cls := "RestMillLaw", name := "compare", desc := "(LRestMill;II[J)I" } : MethodName)) ∈ WD := wdT6 139 rfl rfl
theorem wd1449 : (Cond.codeWith ({ cls := "RestMillLaw", name := "compare", desc := "(LRestMill;II[J)I" } : MethodName) method_16_code (5 : Nat) (Option.some ClassFile.FieldType.int) [((0 : Nat), (10 : Nat), (13 : Nat), (25 : Nat))]) ∈ WD := wdT6 140 rfl rfl
theorem wd1450 : (Cond.methodLink "RestMillLaw" (57 : Nat) ({ cls := "RestMill", name := "compare", desc := "(II)I" } : MethodName)) ∈ WD := wdT6 141 rfl rfl
theorem wd1451 : (Cond.instanceMethod ({ cls := "RestMill", name := "compare", desc := "(II)I" } : MethodName)) ∈ WD := wdT6 142 rfl rfl
theorem wd1452 : (Cond.selects "RestMill" ({ cls := "RestMill", name := "compare", desc := "(II)I" } : MethodName) ({ cls := "RestMill", name := "compare", desc := "(II)I" } : MethodName)) ∈ WD := wdT6 143 rfl rfl
theorem wd1458 : (Cond.methodLink "RestMillLaw" (201 : Nat) ({ cls := "RestMillLaw", name := "extend", desc := "(LRestMill;IIZ[J)I" } : MethodName)) ∈ WD := wdT6 149 rfl rfl
theorem wd1459 : (Cond.static ({ cls := "RestMillLaw", name := "extend", desc := "(LRestMill;IIZ[J)I" } : MethodName)) ∈ WD := wdT6 150 rfl rfl
theorem wd1460 : (Cond.codeWith ({ cls := "RestMillLaw", name := "extend", desc := "(LRestMill;IIZ[J)I" } : MethodName) method_17_code (6 : Nat) (Option.some ClassFile.FieldType.int) [((0 : Nat), (12 : Nat), (15 : Nat), (25 : Nat)), ((0 : Nat), (12 : Nat), (19 : Nat), (13 : Nat))]) ∈ WD := wdT6 151 rfl rfl
theorem wd1461 : (Cond.methodLink "RestMillLaw" (60 : Nat) ({ cls := "RestMill", name := "extend", desc := "(IIZ)I" } : MethodName)) ∈ WD := wdT6 152 rfl rfl
theorem wd1462 : (Cond.instanceMethod ({ cls := "RestMill", name := "extend", desc := "(IIZ)I" } : MethodName)) ∈ WD := wdT6 153 rfl rfl
theorem wd1463 : (Cond.selects "RestMill" ({ cls := "RestMill", name := "extend", desc := "(IIZ)I" } : MethodName) ({ cls := "RestMill", name := "extend", desc := "(IIZ)I" } : MethodName)) ∈ WD := wdT6 154 rfl rfl
theorem wd1465 : (Cond.methodLink "RestMillLaw" (210 : Nat) ({ cls := "RestMillLaw", name := "distance", desc := "(LRestMill;II[J)I" } : MethodName)) ∈ WD := wdT6 156 rfl rfl
theorem wd1466 : (Cond.static ({ cls := "RestMillLaw", name := "distance", desc := "(LRestMill;II[J)I" } : MethodName)) ∈ WD := wdT6 157 rfl rfl
theorem wd1467 : (Cond.codeWith ({ cls := "RestMillLaw", name := "distance", desc := "(LRestMill;II[J)I" } : MethodName) method_18_code (5 : Nat) (Option.some ClassFile.FieldType.int) [((0 : Nat), (10 : Nat), (13 : Nat), (25 : Nat))]) ∈ WD := wdT6 158 rfl rfl
theorem wd1468 : (Cond.methodLink "RestMillLaw" (64 : Nat) ({ cls := "RestMill", name := "distance", desc := "(II)I" } : MethodName)) ∈ WD := wdT6 159 rfl rfl
theorem wd1469 : (Cond.instanceMethod ({ cls := "RestMill", name := "distance", desc := "(II)I" } : MethodName)) ∈ WD := wdT6 160 rfl rfl
theorem wd1470 : (Cond.selects "RestMill" ({ cls := "RestMill", name := "distance", desc := "(II)I" } : MethodName) ({ cls := "RestMill", name := "distance", desc := "(II)I" } : MethodName)) ∈ WD := wdT6 161 rfl rfl
theorem wd1476 : (Cond.methodLink "RestMillLaw" (213 : Nat) ({ cls := "RestMillLaw", name := "exact", desc := "(LRestMill;III[J)I" } : MethodName)) ∈ WD := wdT6 167 rfl rfl
theorem wd1477 : (Cond.static ({ cls := "RestMillLaw", name := "exact", desc := "(LRestMill;III[J)I" } : MethodName)) ∈ WD := wdT6 168 rfl rfl
theorem wd1478 : (Cond.codeWith ({ cls := "RestMillLaw", name := "exact", desc := "(LRestMill;III[J)I" } : MethodName) method_19_code (6 : Nat) (Option.some ClassFile.FieldType.int) [((0 : Nat), (11 : Nat), (14 : Nat), (13 : Nat)), ((0 : Nat), (11 : Nat), (18 : Nat), (25 : Nat)), ((0 : Nat), (11 : Nat), (22 : Nat), (71 : Nat))]) ∈ WD := wdT6 169 rfl rfl
theorem wd1479 : (Cond.classLink "RestMillLaw" (71 : Nat) "java/lang/IllegalStateException") ∈ WD := wdT6 170 rfl rfl
theorem wd1480 : (Cond.methodLink "RestMillLaw" (67 : Nat) ({ cls := "RestMill", name := "exact", desc := "(III)J" } : MethodName)) ∈ WD := wdT6 171 rfl rfl
theorem wd1481 : (Cond.instanceMethod ({ cls := "RestMill", name := "exact", desc := "(III)J" } : MethodName)) ∈ WD := wdT6 172 rfl rfl
theorem wd1482 : (Cond.selects "RestMill" ({ cls := "RestMill", name := "exact", desc := "(III)J" } : MethodName) ({ cls := "RestMill", name := "exact", desc := "(III)J" } : MethodName)) ∈ WD := wdT6 173 rfl rfl
theorem wd1505 : (Cond.methodLink "RestMillLaw" (217 : Nat) ({ cls := "RestMillLaw", name := "why", desc := "(LRestMill;III[J)I" } : MethodName)) ∈ WD := wdT6 196 rfl rfl
theorem wd1506 : (Cond.static ({ cls := "RestMillLaw", name := "why", desc := "(LRestMill;III[J)I" } : MethodName)) ∈ WD := wdT6 197 rfl rfl
theorem wd1507 : (Cond.codeWith ({ cls := "RestMillLaw", name := "why", desc := "(LRestMill;III[J)I" } : MethodName) method_20_code (6 : Nat) (Option.some ClassFile.FieldType.int) [((0 : Nat), (12 : Nat), (15 : Nat), (13 : Nat)), ((0 : Nat), (12 : Nat), (19 : Nat), (25 : Nat))]) ∈ WD := wdT6 198 rfl rfl
theorem wd1508 : (Cond.methodLink "RestMillLaw" (73 : Nat) ({ cls := "RestMill", name := "why", desc := "(III)I" } : MethodName)) ∈ WD := wdT6 199 rfl rfl
theorem wd1509 : (Cond.instanceMethod ({ cls := "RestMill", name := "why", desc := "(III)I" } : MethodName)) ∈ WD := wdT6 200 rfl rfl
theorem wd1510 : (Cond.selects "RestMill" ({ cls := "RestMill", name := "why", desc := "(III)I" } : MethodName) ({ cls := "RestMill", name := "why", desc := "(III)I" } : MethodName)) ∈ WD := wdT6 201 rfl rfl
theorem wd1514 : (Cond.methodLink "RestMillLaw" (220 : Nat) ({ cls := "RestMillLaw", name := "faults", desc := "(LRestMill;I[J)I" } : MethodName)) ∈ WD := wdT6 205 rfl rfl
theorem wd1515 : (Cond.static ({ cls := "RestMillLaw", name := "faults", desc := "(LRestMill;I[J)I" } : MethodName)) ∈ WD := wdT6 206 rfl rfl
theorem wd1516 : (Cond.codeWith ({ cls := "RestMillLaw", name := "faults", desc := "(LRestMill;I[J)I" } : MethodName) method_21_code (4 : Nat) (Option.some ClassFile.FieldType.int) [((0 : Nat), (9 : Nat), (12 : Nat), (25 : Nat))]) ∈ WD := wdT6 207 rfl rfl
theorem wd1517 : (Cond.methodLink "RestMillLaw" (77 : Nat) ({ cls := "RestMill", name := "faults", desc := "(I)I" } : MethodName)) ∈ WD := wdT6 208 rfl rfl
theorem wd1518 : (Cond.instanceMethod ({ cls := "RestMill", name := "faults", desc := "(I)I" } : MethodName)) ∈ WD := wdT6 209 rfl rfl
theorem wd1519 : (Cond.selects "RestMill" ({ cls := "RestMill", name := "faults", desc := "(I)I" } : MethodName) ({ cls := "RestMill", name := "faults", desc := "(I)I" } : MethodName)) ∈ WD := wdT6 210 rfl rfl
theorem wd1525 : (Cond.methodLink "RestMillLaw" (223 : Nat) ({ cls := "RestMillLaw", name := "numberWith", desc := "(LRestMill;III[J)I" } : MethodName)) ∈ WD := wdT6 216 rfl rfl
theorem wd1526 : (Cond.static ({ cls := "RestMillLaw", name := "numberWith", desc := "(LRestMill;III[J)I" } : MethodName)) ∈ WD := wdT6 217 rfl rfl
theorem wd1527 : (Cond.codeWith ({ cls := "RestMillLaw", name := "numberWith", desc := "(LRestMill;III[J)I" } : MethodName) method_22_code (6 : Nat) (Option.some ClassFile.FieldType.int) [((0 : Nat), (11 : Nat), (14 : Nat), (25 : Nat)), ((0 : Nat), (11 : Nat), (18 : Nat), (13 : Nat))]) ∈ WD := wdT6 218 rfl rfl
theorem wd1528 : (Cond.methodLink "RestMillLaw" (80 : Nat) ({ cls := "RestMill", name := "numberWith", desc := "(III)J" } : MethodName)) ∈ WD := wdT6 219 rfl rfl
theorem wd1529 : (Cond.instanceMethod ({ cls := "RestMill", name := "numberWith", desc := "(III)J" } : MethodName)) ∈ WD := wdT6 220 rfl rfl
theorem wd1530 : (Cond.selects "RestMill" ({ cls := "RestMill", name := "numberWith", desc := "(III)J" } : MethodName) ({ cls := "RestMill", name := "numberWith", desc := "(III)J" } : MethodName)) ∈ WD := wdT6 221 rfl rfl
theorem wd1537 : (Cond.methodLink "RestMillLaw" (248 : Nat) ({ cls := "RestMillLaw", name := "set", desc := "(LRestMill;II[J)I" } : MethodName)) ∈ WD := wdT6 228 rfl rfl
theorem wd1538 : (Cond.static ({ cls := "RestMillLaw", name := "set", desc := "(LRestMill;II[J)I" } : MethodName)) ∈ WD := wdT6 229 rfl rfl
theorem wd1539 : (Cond.codeWith ({ cls := "RestMillLaw", name := "set", desc := "(LRestMill;II[J)I" } : MethodName) method_23_code (5 : Nat) (Option.some ClassFile.FieldType.int) [((0 : Nat), (10 : Nat), (13 : Nat), (25 : Nat)), ((0 : Nat), (10 : Nat), (17 : Nat), (13 : Nat))]) ∈ WD := wdT6 230 rfl rfl
theorem wd1540 : (Cond.methodLink "RestMillLaw" (83 : Nat) ({ cls := "RestMill", name := "set", desc := "(II)I" } : MethodName)) ∈ WD := wdT6 231 rfl rfl
theorem wd1541 : (Cond.instanceMethod ({ cls := "RestMill", name := "set", desc := "(II)I" } : MethodName)) ∈ WD := wdT6 232 rfl rfl
theorem wd1542 : (Cond.selects "RestMill" ({ cls := "RestMill", name := "set", desc := "(II)I" } : MethodName) ({ cls := "RestMill", name := "set", desc := "(II)I" } : MethodName)) ∈ WD := wdT6 233 rfl rfl
theorem wd1555 : (Cond.methodLink "RestMillLaw" (251 : Nat) ({ cls := "RestMillLaw", name := "hurt", desc := "(LRestMill;III[J)I" } : MethodName)) ∈ WD := wdT7 6 rfl rfl
theorem wd1556 : (Cond.static ({ cls := "RestMillLaw", name := "hurt", desc := "(LRestMill;III[J)I" } : MethodName)) ∈ WD := wdT7 7 rfl rfl
theorem wd1557 : (Cond.codeWith ({ cls := "RestMillLaw", name := "hurt", desc := "(LRestMill;III[J)I" } : MethodName) method_24_code (6 : Nat) (Option.some ClassFile.FieldType.int) [((0 : Nat), (12 : Nat), (15 : Nat), (25 : Nat)), ((0 : Nat), (12 : Nat), (19 : Nat), (13 : Nat))]) ∈ WD := wdT7 8 rfl rfl
theorem wd1558 : (Cond.methodLink "RestMillLaw" (86 : Nat) ({ cls := "RestMill", name := "hurt", desc := "(III)I" } : MethodName)) ∈ WD := wdT7 9 rfl rfl
theorem wd1559 : (Cond.instanceMethod ({ cls := "RestMill", name := "hurt", desc := "(III)I" } : MethodName)) ∈ WD := wdT7 10 rfl rfl
theorem wd1560 : (Cond.selects "RestMill" ({ cls := "RestMill", name := "hurt", desc := "(III)I" } : MethodName) ({ cls := "RestMill", name := "hurt", desc := "(III)I" } : MethodName)) ∈ WD := wdT7 11 rfl rfl
theorem wd1563 : (Cond.methodLink "RestMillLaw" (254 : Nat) ({ cls := "RestMillLaw", name := "operate", desc := "(LRestMill;IIII[J)I" } : MethodName)) ∈ WD := wdT7 14 rfl rfl
theorem wd1564 : (Cond.static ({ cls := "RestMillLaw", name := "operate", desc := "(LRestMill;IIII[J)I" } : MethodName)) ∈ WD := wdT7 15 rfl rfl
theorem wd1565 : (Cond.codeWith ({ cls := "RestMillLaw", name := "operate", desc := "(LRestMill;IIII[J)I" } : MethodName) method_25_code (7 : Nat) (Option.some ClassFile.FieldType.int) [((0 : Nat), (14 : Nat), (17 : Nat), (13 : Nat)), ((0 : Nat), (14 : Nat), (21 : Nat), (25 : Nat))]) ∈ WD := wdT7 16 rfl rfl
theorem wd1566 : (Cond.methodLink "RestMillLaw" (89 : Nat) ({ cls := "RestMill", name := "operate", desc := "(IIII)I" } : MethodName)) ∈ WD := wdT7 17 rfl rfl
theorem wd1567 : (Cond.instanceMethod ({ cls := "RestMill", name := "operate", desc := "(IIII)I" } : MethodName)) ∈ WD := wdT7 18 rfl rfl
theorem wd1568 : (Cond.selects "RestMill" ({ cls := "RestMill", name := "operate", desc := "(IIII)I" } : MethodName) ({ cls := "RestMill", name := "operate", desc := "(IIII)I" } : MethodName)) ∈ WD := wdT7 19 rfl rfl
theorem wd1575 : (Cond.methodLink "RestMillLaw" (258 : Nat) ({ cls := "RestMillLaw", name := "scale", desc := "(LRestMill;II[J)I" } : MethodName)) ∈ WD := wdT7 26 rfl rfl
theorem wd1576 : (Cond.static ({ cls := "RestMillLaw", name := "scale", desc := "(LRestMill;II[J)I" } : MethodName)) ∈ WD := wdT7 27 rfl rfl
theorem wd1577 : (Cond.codeWith ({ cls := "RestMillLaw", name := "scale", desc := "(LRestMill;II[J)I" } : MethodName) method_26_code (5 : Nat) (Option.some ClassFile.FieldType.int) [((0 : Nat), (10 : Nat), (13 : Nat), (25 : Nat))]) ∈ WD := wdT7 28 rfl rfl
theorem wd1578 : (Cond.methodLink "RestMillLaw" (93 : Nat) ({ cls := "RestMill", name := "scale", desc := "(II)I" } : MethodName)) ∈ WD := wdT7 29 rfl rfl
theorem wd1579 : (Cond.instanceMethod ({ cls := "RestMill", name := "scale", desc := "(II)I" } : MethodName)) ∈ WD := wdT7 30 rfl rfl
theorem wd1580 : (Cond.selects "RestMill" ({ cls := "RestMill", name := "scale", desc := "(II)I" } : MethodName) ({ cls := "RestMill", name := "scale", desc := "(II)I" } : MethodName)) ∈ WD := wdT7 31 rfl rfl
theorem wd1583 : (Cond.methodLink "RestMillLaw" (261 : Nat) ({ cls := "RestMillLaw", name := "mend", desc := "(LRestMill;I[J)I" } : MethodName)) ∈ WD := wdT7 34 rfl rfl
theorem wd1584 : (Cond.static ({ cls := "RestMillLaw", name := "mend", desc := "(LRestMill;I[J)I" } : MethodName)) ∈ WD := wdT7 35 rfl rfl
theorem wd1585 : (Cond.codeWith ({ cls := "RestMillLaw", name := "mend", desc := "(LRestMill;I[J)I" } : MethodName) method_27_code (4 : Nat) (Option.some ClassFile.FieldType.int) [((0 : Nat), (9 : Nat), (12 : Nat), (25 : Nat))]) ∈ WD := wdT7 36 rfl rfl
theorem wd1586 : (Cond.methodLink "RestMillLaw" (96 : Nat) ({ cls := "RestMill", name := "mend", desc := "(I)I" } : MethodName)) ∈ WD := wdT7 37 rfl rfl
theorem wd1587 : (Cond.instanceMethod ({ cls := "RestMill", name := "mend", desc := "(I)I" } : MethodName)) ∈ WD := wdT7 38 rfl rfl
theorem wd1588 : (Cond.selects "RestMill" ({ cls := "RestMill", name := "mend", desc := "(I)I" } : MethodName) ({ cls := "RestMill", name := "mend", desc := "(I)I" } : MethodName)) ∈ WD := wdT7 39 rfl rfl
theorem wd1591 : (Cond.methodLink "RestMillLaw" (264 : Nat) ({ cls := "RestMillLaw", name := "swap", desc := "(LRestMill;II[J)I" } : MethodName)) ∈ WD := wdT7 42 rfl rfl
theorem wd1592 : (Cond.static ({ cls := "RestMillLaw", name := "swap", desc := "(LRestMill;II[J)I" } : MethodName)) ∈ WD := wdT7 43 rfl rfl
theorem wd1593 : (Cond.codeWith ({ cls := "RestMillLaw", name := "swap", desc := "(LRestMill;II[J)I" } : MethodName) method_28_code (5 : Nat) (Option.some ClassFile.FieldType.int) [((0 : Nat), (10 : Nat), (13 : Nat), (25 : Nat))]) ∈ WD := wdT7 44 rfl rfl
theorem wd1594 : (Cond.methodLink "RestMillLaw" (99 : Nat) ({ cls := "RestMill", name := "swap", desc := "(II)I" } : MethodName)) ∈ WD := wdT7 45 rfl rfl
theorem wd1595 : (Cond.instanceMethod ({ cls := "RestMill", name := "swap", desc := "(II)I" } : MethodName)) ∈ WD := wdT7 46 rfl rfl
theorem wd1596 : (Cond.selects "RestMill" ({ cls := "RestMill", name := "swap", desc := "(II)I" } : MethodName) ({ cls := "RestMill", name := "swap", desc := "(II)I" } : MethodName)) ∈ WD := wdT7 47 rfl rfl
theorem wd1599 : (Cond.methodLink "RestMillLaw" (267 : Nat) ({ cls := "RestMillLaw", name := "grow", desc := "(LRestMill;I[J)I" } : MethodName)) ∈ WD := wdT7 50 rfl rfl
theorem wd1600 : (Cond.static ({ cls := "RestMillLaw", name := "grow", desc := "(LRestMill;I[J)I" } : MethodName)) ∈ WD := wdT7 51 rfl rfl
theorem wd1601 : (Cond.codeWith ({ cls := "RestMillLaw", name := "grow", desc := "(LRestMill;I[J)I" } : MethodName) method_29_code (4 : Nat) (Option.some ClassFile.FieldType.int) [((0 : Nat), (9 : Nat), (12 : Nat), (13 : Nat))]) ∈ WD := wdT7 52 rfl rfl
theorem wd1602 : (Cond.methodLink "RestMillLaw" (102 : Nat) ({ cls := "RestMill", name := "grow", desc := "(I)I" } : MethodName)) ∈ WD := wdT7 53 rfl rfl
theorem wd1603 : (Cond.instanceMethod ({ cls := "RestMill", name := "grow", desc := "(I)I" } : MethodName)) ∈ WD := wdT7 54 rfl rfl
theorem wd1604 : (Cond.selects "RestMill" ({ cls := "RestMill", name := "grow", desc := "(I)I" } : MethodName) ({ cls := "RestMill", name := "grow", desc := "(I)I" } : MethodName)) ∈ WD := wdT7 55 rfl rfl
theorem wd1612 : (Cond.methodLink "RestMillLaw" (270 : Nat) ({ cls := "RestMillLaw", name := "drop", desc := "(LRestMill;I[J)I" } : MethodName)) ∈ WD := wdT7 63 rfl rfl
theorem wd1613 : (Cond.static ({ cls := "RestMillLaw", name := "drop", desc := "(LRestMill;I[J)I" } : MethodName)) ∈ WD := wdT7 64 rfl rfl
theorem wd1614 : (Cond.codeWith ({ cls := "RestMillLaw", name := "drop", desc := "(LRestMill;I[J)I" } : MethodName) method_30_code (4 : Nat) (Option.some ClassFile.FieldType.int) [((0 : Nat), (9 : Nat), (12 : Nat), (25 : Nat))]) ∈ WD := wdT7 65 rfl rfl
theorem wd1615 : (Cond.methodLink "RestMillLaw" (105 : Nat) ({ cls := "RestMill", name := "drop", desc := "(I)I" } : MethodName)) ∈ WD := wdT7 66 rfl rfl
theorem wd1616 : (Cond.instanceMethod ({ cls := "RestMill", name := "drop", desc := "(I)I" } : MethodName)) ∈ WD := wdT7 67 rfl rfl
theorem wd1617 : (Cond.selects "RestMill" ({ cls := "RestMill", name := "drop", desc := "(I)I" } : MethodName) ({ cls := "RestMill", name := "drop", desc := "(I)I" } : MethodName)) ∈ WD := wdT7 68 rfl rfl
theorem wd1628 : (Cond.methodLink "RestMillLaw" (273 : Nat) ({ cls := "RestMillLaw", name := "setStrict", desc := "(LRestMill;I[J)I" } : MethodName)) ∈ WD := wdT7 79 rfl rfl
theorem wd1629 : (Cond.static ({ cls := "RestMillLaw", name := "setStrict", desc := "(LRestMill;I[J)I" } : MethodName)) ∈ WD := wdT7 80 rfl rfl
theorem wd1630 : (Cond.codeWith ({ cls := "RestMillLaw", name := "setStrict", desc := "(LRestMill;I[J)I" } : MethodName) method_31_code (4 : Nat) (Option.some ClassFile.FieldType.int) [((0 : Nat), (9 : Nat), (12 : Nat), (13 : Nat))]) ∈ WD := wdT7 81 rfl rfl
theorem wd1631 : (Cond.methodLink "RestMillLaw" (108 : Nat) ({ cls := "RestMill", name := "setStrict", desc := "(I)I" } : MethodName)) ∈ WD := wdT7 82 rfl rfl
theorem wd1632 : (Cond.instanceMethod ({ cls := "RestMill", name := "setStrict", desc := "(I)I" } : MethodName)) ∈ WD := wdT7 83 rfl rfl
theorem wd1633 : (Cond.selects "RestMill" ({ cls := "RestMill", name := "setStrict", desc := "(I)I" } : MethodName) ({ cls := "RestMill", name := "setStrict", desc := "(I)I" } : MethodName)) ∈ WD := wdT7 84 rfl rfl
theorem wd1635 : (Cond.methodLink "RestMillLaw" (276 : Nat) ({ cls := "RestMillLaw", name := "undo", desc := "(LRestMill;[J)I" } : MethodName)) ∈ WD := wdT7 86 rfl rfl
theorem wd1636 : (Cond.static ({ cls := "RestMillLaw", name := "undo", desc := "(LRestMill;[J)I" } : MethodName)) ∈ WD := wdT7 87 rfl rfl
theorem wd1637 : (Cond.codeWith ({ cls := "RestMillLaw", name := "undo", desc := "(LRestMill;[J)I" } : MethodName) method_32_code (3 : Nat) (Option.some ClassFile.FieldType.int) [((0 : Nat), (8 : Nat), (11 : Nat), (115 : Nat))]) ∈ WD := wdT7 88 rfl rfl
theorem wd1638 : (Cond.classLink "RestMillLaw" (115 : Nat) "java/util/NoSuchElementException") ∈ WD := wdT7 89 rfl rfl
theorem wd1639 : (Cond.methodLink "RestMillLaw" (111 : Nat) ({ cls := "RestMill", name := "undo", desc := "()I" } : MethodName)) ∈ WD := wdT7 90 rfl rfl
theorem wd1640 : (Cond.instanceMethod ({ cls := "RestMill", name := "undo", desc := "()I" } : MethodName)) ∈ WD := wdT7 91 rfl rfl
theorem wd1641 : (Cond.selects "RestMill" ({ cls := "RestMill", name := "undo", desc := "()I" } : MethodName) ({ cls := "RestMill", name := "undo", desc := "()I" } : MethodName)) ∈ WD := wdT7 92 rfl rfl
theorem wd1662 : (Cond.methodLink "RestMillLaw" (280 : Nat) ({ cls := "RestMillLaw", name := "printRegister", desc := "(LRestMill;I[J)I" } : MethodName)) ∈ WD := wdT7 113 rfl rfl
theorem wd1663 : (Cond.static ({ cls := "RestMillLaw", name := "printRegister", desc := "(LRestMill;I[J)I" } : MethodName)) ∈ WD := wdT7 114 rfl rfl
theorem wd1664 : (Cond.codeWith ({ cls := "RestMillLaw", name := "printRegister", desc := "(LRestMill;I[J)I" } : MethodName) method_33_code (4 : Nat) (Option.some ClassFile.FieldType.int) [((0 : Nat), (9 : Nat), (12 : Nat), (25 : Nat))]) ∈ WD := wdT7 115 rfl rfl
theorem wd1665 : (Cond.methodLink "RestMillLaw" (117 : Nat) ({ cls := "RestMill", name := "printRegister", desc := "(I)I" } : MethodName)) ∈ WD := wdT7 116 rfl rfl
theorem wd1666 : (Cond.instanceMethod ({ cls := "RestMill", name := "printRegister", desc := "(I)I" } : MethodName)) ∈ WD := wdT7 117 rfl rfl
theorem wd1667 : (Cond.selects "RestMill" ({ cls := "RestMill", name := "printRegister", desc := "(I)I" } : MethodName) ({ cls := "RestMill", name := "printRegister", desc := "(I)I" } : MethodName)) ∈ WD := wdT7 118 rfl rfl
theorem wd1672 : (Cond.methodLink "RestMillLaw" (295 : Nat) ({ cls := "RestMillLaw", name := "restoreState", desc := "(LRestMill;[J)I" } : MethodName)) ∈ WD := wdT7 123 rfl rfl
theorem wd1673 : (Cond.static ({ cls := "RestMillLaw", name := "restoreState", desc := "(LRestMill;[J)I" } : MethodName)) ∈ WD := wdT7 124 rfl rfl
theorem wd1674 : (Cond.codeWith ({ cls := "RestMillLaw", name := "restoreState", desc := "(LRestMill;[J)I" } : MethodName) method_34_code (3 : Nat) (Option.some ClassFile.FieldType.int) [((0 : Nat), (8 : Nat), (11 : Nat), (115 : Nat))]) ∈ WD := wdT7 125 rfl rfl
theorem wd1675 : (Cond.methodLink "RestMillLaw" (120 : Nat) ({ cls := "RestMill", name := "restoreState", desc := "()I" } : MethodName)) ∈ WD := wdT7 126 rfl rfl
theorem wd1676 : (Cond.instanceMethod ({ cls := "RestMill", name := "restoreState", desc := "()I" } : MethodName)) ∈ WD := wdT7 127 rfl rfl
theorem wd1677 : (Cond.selects "RestMill" ({ cls := "RestMill", name := "restoreState", desc := "()I" } : MethodName) ({ cls := "RestMill", name := "restoreState", desc := "()I" } : MethodName)) ∈ WD := wdT7 128 rfl rfl
theorem wd1679 : (Cond.methodLink "RestMillLaw" (158 : Nat) ({ cls := "RestMillModel", name := "thrown", desc := "()I" } : MethodName)) ∈ WD := wdT7 130 rfl rfl
theorem wd1680 : (Cond.instanceMethod ({ cls := "RestMillModel", name := "thrown", desc := "()I" } : MethodName)) ∈ WD := wdT7 131 rfl rfl
theorem wd1681 : (Cond.selects "RestMillModel" ({ cls := "RestMillModel", name := "thrown", desc := "()I" } : MethodName) ({ cls := "RestMillModel", name := "thrown", desc := "()I" } : MethodName)) ∈ WD := wdT7 132 rfl rfl
theorem wd1683 : (Cond.classLink "RestMillLaw" (124 : Nat) "RestMillModel") ∈ WD := wdT7 134 rfl rfl
theorem wd1684 : (Cond.instantiable "RestMillModel" (29 : Nat)) ∈ WD := wdT7 135 rfl rfl
theorem wd1685 : (Cond.methodLink "RestMillLaw" (126 : Nat) ({ cls := "RestMillModel", name := "<init>", desc := "()V" } : MethodName)) ∈ WD := wdT7 136 rfl rfl
theorem wd1686 : (Cond.instanceMethod ({ cls := "RestMillModel", name := "<init>", desc := "()V" } : MethodName)) ∈ WD := wdT7 137 rfl rfl
theorem wd1688 : (Cond.methodLink "RestMillModel" (7 : Nat) ({ cls := "java/lang/Object", name := "<init>", desc := "()V" } : MethodName)) ∈ WD := wdT7 139 rfl rfl
theorem wd1777 : (Cond.methodLink "RestMillLaw" (131 : Nat) ({ cls := "RestMillModel", name := "appendInput", desc := "(IIIII)I" } : MethodName)) ∈ WD := wdT7 228 rfl rfl
theorem wd1778 : (Cond.instanceMethod ({ cls := "RestMillModel", name := "appendInput", desc := "(IIIII)I" } : MethodName)) ∈ WD := wdT7 229 rfl rfl
theorem wd1779 : (Cond.selects "RestMillModel" ({ cls := "RestMillModel", name := "appendInput", desc := "(IIIII)I" } : MethodName) ({ cls := "RestMillModel", name := "appendInput", desc := "(IIIII)I" } : MethodName)) ∈ WD := wdT7 230 rfl rfl
theorem wd1785 : (Cond.methodLink "RestMillLaw" (135 : Nat) ({ cls := "RestMillModel", name := "truncateInput", desc := "(I)Z" } : MethodName)) ∈ WD := wdT7 236 rfl rfl
theorem wd1786 : (Cond.instanceMethod ({ cls := "RestMillModel", name := "truncateInput", desc := "(I)Z" } : MethodName)) ∈ WD := wdT7 237 rfl rfl
theorem wd1787 : (Cond.selects "RestMillModel" ({ cls := "RestMillModel", name := "truncateInput", desc := "(I)Z" } : MethodName) ({ cls := "RestMillModel", name := "truncateInput", desc := "(I)Z" } : MethodName)) ∈ WD := wdT7 238 rfl rfl
theorem wd1792 : (Cond.methodLink "RestMillLaw" (147 : Nat) ({ cls := "RestMillModel", name := "errorCode", desc := "()I" } : MethodName)) ∈ WD := wdT8 3 rfl rfl
theorem wd1793 : (Cond.instanceMethod ({ cls := "RestMillModel", name := "errorCode", desc := "()I" } : MethodName)) ∈ WD := wdT8 4 rfl rfl
theorem wd1794 : (Cond.selects "RestMillModel" ({ cls := "RestMillModel", name := "errorCode", desc := "()I" } : MethodName) ({ cls := "RestMillModel", name := "errorCode", desc := "()I" } : MethodName)) ∈ WD := wdT8 5 rfl rfl
theorem wd1796 : (Cond.methodLink "RestMillLaw" (151 : Nat) ({ cls := "RestMillModel", name := "errorOffset", desc := "()I" } : MethodName)) ∈ WD := wdT8 7 rfl rfl
theorem wd1797 : (Cond.instanceMethod ({ cls := "RestMillModel", name := "errorOffset", desc := "()I" } : MethodName)) ∈ WD := wdT8 8 rfl rfl
theorem wd1798 : (Cond.selects "RestMillModel" ({ cls := "RestMillModel", name := "errorOffset", desc := "()I" } : MethodName) ({ cls := "RestMillModel", name := "errorOffset", desc := "()I" } : MethodName)) ∈ WD := wdT8 9 rfl rfl
theorem wd1800 : (Cond.methodLink "RestMillLaw" (139 : Nat) ({ cls := "RestMillModel", name := "loadMill", desc := "()I" } : MethodName)) ∈ WD := wdT8 11 rfl rfl
theorem wd1801 : (Cond.instanceMethod ({ cls := "RestMillModel", name := "loadMill", desc := "()I" } : MethodName)) ∈ WD := wdT8 12 rfl rfl
theorem wd1802 : (Cond.selects "RestMillModel" ({ cls := "RestMillModel", name := "loadMill", desc := "()I" } : MethodName) ({ cls := "RestMillModel", name := "loadMill", desc := "()I" } : MethodName)) ∈ WD := wdT8 13 rfl rfl
theorem wd1839 : (Cond.methodLink "RestMillModel" (202 : Nat) ({ cls := "java/lang/String", name := "length", desc := "()I" } : MethodName)) ∈ WD := wdT8 50 rfl rfl
theorem wd1840 : (Cond.methodLink "RestMillModel" (207 : Nat) ({ cls := "java/lang/String", name := "charAt", desc := "(I)C" } : MethodName)) ∈ WD := wdT8 51 rfl rfl
theorem wd1925 : (Cond.methodLink "RestMillLaw" (143 : Nat) ({ cls := "RestMillModel", name := "playScript", desc := "()I" } : MethodName)) ∈ WD := wdT8 136 rfl rfl
theorem wd1926 : (Cond.instanceMethod ({ cls := "RestMillModel", name := "playScript", desc := "()I" } : MethodName)) ∈ WD := wdT8 137 rfl rfl
theorem wd1927 : (Cond.selects "RestMillModel" ({ cls := "RestMillModel", name := "playScript", desc := "()I" } : MethodName) ({ cls := "RestMillModel", name := "playScript", desc := "()I" } : MethodName)) ∈ WD := wdT8 138 rfl rfl
theorem wd2057 : (Cond.methodLink "RestMillLaw" (157 : Nat) ({ cls := "RestMillModel", name := "count", desc := "(I)I" } : MethodName)) ∈ WD := wdT9 28 rfl rfl
theorem wd2058 : (Cond.instanceMethod ({ cls := "RestMillModel", name := "count", desc := "(I)I" } : MethodName)) ∈ WD := wdT9 29 rfl rfl
theorem wd2059 : (Cond.selects "RestMillModel" ({ cls := "RestMillModel", name := "count", desc := "(I)I" } : MethodName) ({ cls := "RestMillModel", name := "count", desc := "(I)I" } : MethodName)) ∈ WD := wdT9 30 rfl rfl
theorem wd2066 : (Cond.methodLink "RestMillLaw" (163 : Nat) ({ cls := "RestMillModel", name := "account", desc := "(I)I" } : MethodName)) ∈ WD := wdT9 37 rfl rfl
theorem wd2067 : (Cond.instanceMethod ({ cls := "RestMillModel", name := "account", desc := "(I)I" } : MethodName)) ∈ WD := wdT9 38 rfl rfl
theorem wd2068 : (Cond.selects "RestMillModel" ({ cls := "RestMillModel", name := "account", desc := "(I)I" } : MethodName) ({ cls := "RestMillModel", name := "account", desc := "(I)I" } : MethodName)) ∈ WD := wdT9 39 rfl rfl
theorem wd2071 : (Cond.methodLink "RestMillLaw" (166 : Nat) ({ cls := "RestMillModel", name := "bound", desc := "(I)J" } : MethodName)) ∈ WD := wdT9 42 rfl rfl
theorem wd2072 : (Cond.instanceMethod ({ cls := "RestMillModel", name := "bound", desc := "(I)J" } : MethodName)) ∈ WD := wdT9 43 rfl rfl
theorem wd2073 : (Cond.selects "RestMillModel" ({ cls := "RestMillModel", name := "bound", desc := "(I)J" } : MethodName) ({ cls := "RestMillModel", name := "bound", desc := "(I)J" } : MethodName)) ∈ WD := wdT9 44 rfl rfl
theorem wd2075 : (Cond.methodLink "RestMillLaw" (169 : Nat) ({ cls := "RestMillModel", name := "modulus", desc := "(I)I" } : MethodName)) ∈ WD := wdT9 46 rfl rfl
theorem wd2076 : (Cond.instanceMethod ({ cls := "RestMillModel", name := "modulus", desc := "(I)I" } : MethodName)) ∈ WD := wdT9 47 rfl rfl
theorem wd2077 : (Cond.selects "RestMillModel" ({ cls := "RestMillModel", name := "modulus", desc := "(I)I" } : MethodName) ({ cls := "RestMillModel", name := "modulus", desc := "(I)I" } : MethodName)) ∈ WD := wdT9 48 rfl rfl
theorem wd2087 : (Cond.methodLink "RestMillLaw" (173 : Nat) ({ cls := "RestMillModel", name := "inverse", desc := "(II)I" } : MethodName)) ∈ WD := wdT9 58 rfl rfl
theorem wd2088 : (Cond.instanceMethod ({ cls := "RestMillModel", name := "inverse", desc := "(II)I" } : MethodName)) ∈ WD := wdT9 59 rfl rfl
theorem wd2089 : (Cond.selects "RestMillModel" ({ cls := "RestMillModel", name := "inverse", desc := "(II)I" } : MethodName) ({ cls := "RestMillModel", name := "inverse", desc := "(II)I" } : MethodName)) ∈ WD := wdT9 60 rfl rfl
theorem wd2091 : (Cond.methodLink "RestMillLaw" (176 : Nat) ({ cls := "RestMillModel", name := "weight", desc := "(I)J" } : MethodName)) ∈ WD := wdT9 62 rfl rfl
theorem wd2092 : (Cond.instanceMethod ({ cls := "RestMillModel", name := "weight", desc := "(I)J" } : MethodName)) ∈ WD := wdT9 63 rfl rfl
theorem wd2093 : (Cond.selects "RestMillModel" ({ cls := "RestMillModel", name := "weight", desc := "(I)J" } : MethodName) ({ cls := "RestMillModel", name := "weight", desc := "(I)J" } : MethodName)) ∈ WD := wdT9 64 rfl rfl
theorem wd2099 : (Cond.methodLink "RestMillLaw" (179 : Nat) ({ cls := "RestMillModel", name := "rest", desc := "(II)I" } : MethodName)) ∈ WD := wdT9 70 rfl rfl
theorem wd2100 : (Cond.instanceMethod ({ cls := "RestMillModel", name := "rest", desc := "(II)I" } : MethodName)) ∈ WD := wdT9 71 rfl rfl
theorem wd2101 : (Cond.selects "RestMillModel" ({ cls := "RestMillModel", name := "rest", desc := "(II)I" } : MethodName) ({ cls := "RestMillModel", name := "rest", desc := "(II)I" } : MethodName)) ∈ WD := wdT9 72 rfl rfl
theorem wd2111 : (Cond.methodLink "RestMillLaw" (182 : Nat) ({ cls := "RestMillModel", name := "digit", desc := "(II)I" } : MethodName)) ∈ WD := wdT9 82 rfl rfl
theorem wd2112 : (Cond.instanceMethod ({ cls := "RestMillModel", name := "digit", desc := "(II)I" } : MethodName)) ∈ WD := wdT9 83 rfl rfl
theorem wd2113 : (Cond.selects "RestMillModel" ({ cls := "RestMillModel", name := "digit", desc := "(II)I" } : MethodName) ({ cls := "RestMillModel", name := "digit", desc := "(II)I" } : MethodName)) ∈ WD := wdT9 84 rfl rfl
theorem wd2115 : (Cond.methodLink "RestMillLaw" (185 : Nat) ({ cls := "RestMillModel", name := "part", desc := "(II)J" } : MethodName)) ∈ WD := wdT9 86 rfl rfl
theorem wd2116 : (Cond.instanceMethod ({ cls := "RestMillModel", name := "part", desc := "(II)J" } : MethodName)) ∈ WD := wdT9 87 rfl rfl
theorem wd2117 : (Cond.selects "RestMillModel" ({ cls := "RestMillModel", name := "part", desc := "(II)J" } : MethodName) ({ cls := "RestMillModel", name := "part", desc := "(II)J" } : MethodName)) ∈ WD := wdT9 88 rfl rfl
theorem wd2123 : (Cond.methodLink "RestMillLaw" (188 : Nat) ({ cls := "RestMillModel", name := "rank", desc := "(I)I" } : MethodName)) ∈ WD := wdT9 94 rfl rfl
theorem wd2124 : (Cond.instanceMethod ({ cls := "RestMillModel", name := "rank", desc := "(I)I" } : MethodName)) ∈ WD := wdT9 95 rfl rfl
theorem wd2125 : (Cond.selects "RestMillModel" ({ cls := "RestMillModel", name := "rank", desc := "(I)I" } : MethodName) ({ cls := "RestMillModel", name := "rank", desc := "(I)I" } : MethodName)) ∈ WD := wdT9 96 rfl rfl
theorem wd2135 : (Cond.methodLink "RestMillLaw" (191 : Nat) ({ cls := "RestMillModel", name := "value", desc := "(I)J" } : MethodName)) ∈ WD := wdT9 106 rfl rfl
theorem wd2136 : (Cond.instanceMethod ({ cls := "RestMillModel", name := "value", desc := "(I)J" } : MethodName)) ∈ WD := wdT9 107 rfl rfl
theorem wd2137 : (Cond.selects "RestMillModel" ({ cls := "RestMillModel", name := "value", desc := "(I)J" } : MethodName) ({ cls := "RestMillModel", name := "value", desc := "(I)J" } : MethodName)) ∈ WD := wdT9 108 rfl rfl
theorem wd2139 : (Cond.methodLink "RestMillLaw" (194 : Nat) ({ cls := "RestMillModel", name := "number", desc := "(I)J" } : MethodName)) ∈ WD := wdT9 110 rfl rfl
theorem wd2140 : (Cond.instanceMethod ({ cls := "RestMillModel", name := "number", desc := "(I)J" } : MethodName)) ∈ WD := wdT9 111 rfl rfl
theorem wd2141 : (Cond.selects "RestMillModel" ({ cls := "RestMillModel", name := "number", desc := "(I)J" } : MethodName) ({ cls := "RestMillModel", name := "number", desc := "(I)J" } : MethodName)) ∈ WD := wdT9 112 rfl rfl
theorem wd2143 : (Cond.methodLink "RestMillLaw" (197 : Nat) ({ cls := "RestMillModel", name := "isSound", desc := "(I)Z" } : MethodName)) ∈ WD := wdT9 114 rfl rfl
theorem wd2144 : (Cond.instanceMethod ({ cls := "RestMillModel", name := "isSound", desc := "(I)Z" } : MethodName)) ∈ WD := wdT9 115 rfl rfl
theorem wd2145 : (Cond.selects "RestMillModel" ({ cls := "RestMillModel", name := "isSound", desc := "(I)Z" } : MethodName) ({ cls := "RestMillModel", name := "isSound", desc := "(I)Z" } : MethodName)) ∈ WD := wdT9 116 rfl rfl
theorem wd2147 : (Cond.methodLink "RestMillLaw" (200 : Nat) ({ cls := "RestMillModel", name := "compare", desc := "(II)I" } : MethodName)) ∈ WD := wdT9 118 rfl rfl
theorem wd2148 : (Cond.instanceMethod ({ cls := "RestMillModel", name := "compare", desc := "(II)I" } : MethodName)) ∈ WD := wdT9 119 rfl rfl
theorem wd2149 : (Cond.selects "RestMillModel" ({ cls := "RestMillModel", name := "compare", desc := "(II)I" } : MethodName) ({ cls := "RestMillModel", name := "compare", desc := "(II)I" } : MethodName)) ∈ WD := wdT9 120 rfl rfl
theorem wd2159 : (Cond.methodLink "RestMillLaw" (204 : Nat) ({ cls := "RestMillModel", name := "extend", desc := "(IIZ)I" } : MethodName)) ∈ WD := wdT9 130 rfl rfl
theorem wd2160 : (Cond.instanceMethod ({ cls := "RestMillModel", name := "extend", desc := "(IIZ)I" } : MethodName)) ∈ WD := wdT9 131 rfl rfl
theorem wd2161 : (Cond.selects "RestMillModel" ({ cls := "RestMillModel", name := "extend", desc := "(IIZ)I" } : MethodName) ({ cls := "RestMillModel", name := "extend", desc := "(IIZ)I" } : MethodName)) ∈ WD := wdT9 132 rfl rfl
theorem wd2164 : (Cond.methodLink "RestMillLaw" (209 : Nat) ({ cls := "RestMillModel", name := "gap", desc := "()J" } : MethodName)) ∈ WD := wdT9 135 rfl rfl
theorem wd2165 : (Cond.instanceMethod ({ cls := "RestMillModel", name := "gap", desc := "()J" } : MethodName)) ∈ WD := wdT9 136 rfl rfl
theorem wd2166 : (Cond.selects "RestMillModel" ({ cls := "RestMillModel", name := "gap", desc := "()J" } : MethodName) ({ cls := "RestMillModel", name := "gap", desc := "()J" } : MethodName)) ∈ WD := wdT9 137 rfl rfl
theorem wd2168 : (Cond.methodLink "RestMillLaw" (212 : Nat) ({ cls := "RestMillModel", name := "distance", desc := "(II)I" } : MethodName)) ∈ WD := wdT9 139 rfl rfl
theorem wd2169 : (Cond.instanceMethod ({ cls := "RestMillModel", name := "distance", desc := "(II)I" } : MethodName)) ∈ WD := wdT9 140 rfl rfl
theorem wd2170 : (Cond.selects "RestMillModel" ({ cls := "RestMillModel", name := "distance", desc := "(II)I" } : MethodName) ({ cls := "RestMillModel", name := "distance", desc := "(II)I" } : MethodName)) ∈ WD := wdT9 141 rfl rfl
theorem wd2172 : (Cond.methodLink "RestMillLaw" (216 : Nat) ({ cls := "RestMillModel", name := "exact", desc := "(III)J" } : MethodName)) ∈ WD := wdT9 143 rfl rfl
theorem wd2173 : (Cond.instanceMethod ({ cls := "RestMillModel", name := "exact", desc := "(III)J" } : MethodName)) ∈ WD := wdT9 144 rfl rfl
theorem wd2174 : (Cond.selects "RestMillModel" ({ cls := "RestMillModel", name := "exact", desc := "(III)J" } : MethodName) ({ cls := "RestMillModel", name := "exact", desc := "(III)J" } : MethodName)) ∈ WD := wdT9 145 rfl rfl
theorem wd2184 : (Cond.methodLink "RestMillLaw" (219 : Nat) ({ cls := "RestMillModel", name := "why", desc := "(III)I" } : MethodName)) ∈ WD := wdT9 155 rfl rfl
theorem wd2185 : (Cond.instanceMethod ({ cls := "RestMillModel", name := "why", desc := "(III)I" } : MethodName)) ∈ WD := wdT9 156 rfl rfl
theorem wd2186 : (Cond.selects "RestMillModel" ({ cls := "RestMillModel", name := "why", desc := "(III)I" } : MethodName) ({ cls := "RestMillModel", name := "why", desc := "(III)I" } : MethodName)) ∈ WD := wdT9 157 rfl rfl
theorem wd2188 : (Cond.methodLink "RestMillLaw" (222 : Nat) ({ cls := "RestMillModel", name := "faults", desc := "(I)I" } : MethodName)) ∈ WD := wdT9 159 rfl rfl
theorem wd2189 : (Cond.instanceMethod ({ cls := "RestMillModel", name := "faults", desc := "(I)I" } : MethodName)) ∈ WD := wdT9 160 rfl rfl
theorem wd2190 : (Cond.selects "RestMillModel" ({ cls := "RestMillModel", name := "faults", desc := "(I)I" } : MethodName) ({ cls := "RestMillModel", name := "faults", desc := "(I)I" } : MethodName)) ∈ WD := wdT9 161 rfl rfl
theorem wd2192 : (Cond.methodLink "RestMillLaw" (225 : Nat) ({ cls := "RestMillModel", name := "numberWith", desc := "(III)J" } : MethodName)) ∈ WD := wdT9 163 rfl rfl
theorem wd2193 : (Cond.instanceMethod ({ cls := "RestMillModel", name := "numberWith", desc := "(III)J" } : MethodName)) ∈ WD := wdT9 164 rfl rfl
theorem wd2194 : (Cond.selects "RestMillModel" ({ cls := "RestMillModel", name := "numberWith", desc := "(III)J" } : MethodName) ({ cls := "RestMillModel", name := "numberWith", desc := "(III)J" } : MethodName)) ∈ WD := wdT9 165 rfl rfl
theorem wd2200 : (Cond.methodLink "RestMillLaw" (229 : Nat) ({ cls := "RestMillModel", name := "nextModulus", desc := "()I" } : MethodName)) ∈ WD := wdT9 171 rfl rfl
theorem wd2201 : (Cond.instanceMethod ({ cls := "RestMillModel", name := "nextModulus", desc := "()I" } : MethodName)) ∈ WD := wdT9 172 rfl rfl
theorem wd2202 : (Cond.selects "RestMillModel" ({ cls := "RestMillModel", name := "nextModulus", desc := "()I" } : MethodName) ({ cls := "RestMillModel", name := "nextModulus", desc := "()I" } : MethodName)) ∈ WD := wdT9 173 rfl rfl
theorem wd2208 : (Cond.methodLink "RestMillLaw" (233 : Nat) ({ cls := "RestMillModel", name := "spare", desc := "()I" } : MethodName)) ∈ WD := wdT9 179 rfl rfl
theorem wd2209 : (Cond.instanceMethod ({ cls := "RestMillModel", name := "spare", desc := "()I" } : MethodName)) ∈ WD := wdT9 180 rfl rfl
theorem wd2210 : (Cond.selects "RestMillModel" ({ cls := "RestMillModel", name := "spare", desc := "()I" } : MethodName) ({ cls := "RestMillModel", name := "spare", desc := "()I" } : MethodName)) ∈ WD := wdT9 181 rfl rfl
theorem wd2219 : (Cond.methodLink "RestMillLaw" (237 : Nat) ({ cls := "RestMillModel", name := "greatest", desc := "()I" } : MethodName)) ∈ WD := wdT9 190 rfl rfl
theorem wd2220 : (Cond.instanceMethod ({ cls := "RestMillModel", name := "greatest", desc := "()I" } : MethodName)) ∈ WD := wdT9 191 rfl rfl
theorem wd2221 : (Cond.selects "RestMillModel" ({ cls := "RestMillModel", name := "greatest", desc := "()I" } : MethodName) ({ cls := "RestMillModel", name := "greatest", desc := "()I" } : MethodName)) ∈ WD := wdT9 192 rfl rfl
theorem wd2227 : (Cond.methodLink "RestMillLaw" (242 : Nat) ({ cls := "RestMillModel", name := "mean", desc := "()D" } : MethodName)) ∈ WD := wdT9 198 rfl rfl
theorem wd2228 : (Cond.instanceMethod ({ cls := "RestMillModel", name := "mean", desc := "()D" } : MethodName)) ∈ WD := wdT9 199 rfl rfl
theorem wd2229 : (Cond.selects "RestMillModel" ({ cls := "RestMillModel", name := "mean", desc := "()D" } : MethodName) ({ cls := "RestMillModel", name := "mean", desc := "()D" } : MethodName)) ∈ WD := wdT9 200 rfl rfl
theorem wd2231 : (Cond.constantDouble "RestMillModel" (406 : Nat) (4620693217682128896 : UInt64)) ∈ WD := wdT9 202 rfl rfl
theorem wd2232 : (Cond.methodLink "RestMillLaw" (247 : Nat) ({ cls := "RestMillModel", name := "zeroShare", desc := "()F" } : MethodName)) ∈ WD := wdT9 203 rfl rfl
theorem wd2233 : (Cond.instanceMethod ({ cls := "RestMillModel", name := "zeroShare", desc := "()F" } : MethodName)) ∈ WD := wdT9 204 rfl rfl
theorem wd2234 : (Cond.selects "RestMillModel" ({ cls := "RestMillModel", name := "zeroShare", desc := "()F" } : MethodName) ({ cls := "RestMillModel", name := "zeroShare", desc := "()F" } : MethodName)) ∈ WD := wdT9 205 rfl rfl
theorem wd2236 : (Cond.methodLink "RestMillLaw" (250 : Nat) ({ cls := "RestMillModel", name := "set", desc := "(II)I" } : MethodName)) ∈ WD := wdT9 207 rfl rfl
theorem wd2237 : (Cond.instanceMethod ({ cls := "RestMillModel", name := "set", desc := "(II)I" } : MethodName)) ∈ WD := wdT9 208 rfl rfl
theorem wd2238 : (Cond.selects "RestMillModel" ({ cls := "RestMillModel", name := "set", desc := "(II)I" } : MethodName) ({ cls := "RestMillModel", name := "set", desc := "(II)I" } : MethodName)) ∈ WD := wdT9 209 rfl rfl
theorem wd2257 : (Cond.methodLink "RestMillLaw" (253 : Nat) ({ cls := "RestMillModel", name := "hurt", desc := "(III)I" } : MethodName)) ∈ WD := wdT9 228 rfl rfl
theorem wd2258 : (Cond.instanceMethod ({ cls := "RestMillModel", name := "hurt", desc := "(III)I" } : MethodName)) ∈ WD := wdT9 229 rfl rfl
theorem wd2259 : (Cond.selects "RestMillModel" ({ cls := "RestMillModel", name := "hurt", desc := "(III)I" } : MethodName) ({ cls := "RestMillModel", name := "hurt", desc := "(III)I" } : MethodName)) ∈ WD := wdT9 230 rfl rfl
theorem wd2261 : (Cond.methodLink "RestMillLaw" (257 : Nat) ({ cls := "RestMillModel", name := "operate", desc := "(IIII)I" } : MethodName)) ∈ WD := wdT9 232 rfl rfl
theorem wd2262 : (Cond.instanceMethod ({ cls := "RestMillModel", name := "operate", desc := "(IIII)I" } : MethodName)) ∈ WD := wdT9 233 rfl rfl
theorem wd2263 : (Cond.selects "RestMillModel" ({ cls := "RestMillModel", name := "operate", desc := "(IIII)I" } : MethodName) ({ cls := "RestMillModel", name := "operate", desc := "(IIII)I" } : MethodName)) ∈ WD := wdT9 234 rfl rfl
theorem wd2265 : (Cond.methodLink "RestMillLaw" (260 : Nat) ({ cls := "RestMillModel", name := "scale", desc := "(II)I" } : MethodName)) ∈ WD := wdT9 236 rfl rfl
theorem wd2266 : (Cond.instanceMethod ({ cls := "RestMillModel", name := "scale", desc := "(II)I" } : MethodName)) ∈ WD := wdT9 237 rfl rfl
theorem wd2267 : (Cond.selects "RestMillModel" ({ cls := "RestMillModel", name := "scale", desc := "(II)I" } : MethodName) ({ cls := "RestMillModel", name := "scale", desc := "(II)I" } : MethodName)) ∈ WD := wdT9 238 rfl rfl
theorem wd2269 : (Cond.methodLink "RestMillLaw" (263 : Nat) ({ cls := "RestMillModel", name := "mend", desc := "(I)I" } : MethodName)) ∈ WD := wdT10 0 rfl rfl
theorem wd2270 : (Cond.instanceMethod ({ cls := "RestMillModel", name := "mend", desc := "(I)I" } : MethodName)) ∈ WD := wdT10 1 rfl rfl
theorem wd2271 : (Cond.selects "RestMillModel" ({ cls := "RestMillModel", name := "mend", desc := "(I)I" } : MethodName) ({ cls := "RestMillModel", name := "mend", desc := "(I)I" } : MethodName)) ∈ WD := wdT10 2 rfl rfl
theorem wd2273 : (Cond.methodLink "RestMillLaw" (266 : Nat) ({ cls := "RestMillModel", name := "swap", desc := "(II)I" } : MethodName)) ∈ WD := wdT10 4 rfl rfl
theorem wd2274 : (Cond.instanceMethod ({ cls := "RestMillModel", name := "swap", desc := "(II)I" } : MethodName)) ∈ WD := wdT10 5 rfl rfl
theorem wd2275 : (Cond.selects "RestMillModel" ({ cls := "RestMillModel", name := "swap", desc := "(II)I" } : MethodName) ({ cls := "RestMillModel", name := "swap", desc := "(II)I" } : MethodName)) ∈ WD := wdT10 6 rfl rfl
theorem wd2277 : (Cond.methodLink "RestMillLaw" (269 : Nat) ({ cls := "RestMillModel", name := "grow", desc := "(I)I" } : MethodName)) ∈ WD := wdT10 8 rfl rfl
theorem wd2278 : (Cond.instanceMethod ({ cls := "RestMillModel", name := "grow", desc := "(I)I" } : MethodName)) ∈ WD := wdT10 9 rfl rfl
theorem wd2279 : (Cond.selects "RestMillModel" ({ cls := "RestMillModel", name := "grow", desc := "(I)I" } : MethodName) ({ cls := "RestMillModel", name := "grow", desc := "(I)I" } : MethodName)) ∈ WD := wdT10 10 rfl rfl
theorem wd2293 : (Cond.methodLink "RestMillLaw" (272 : Nat) ({ cls := "RestMillModel", name := "drop", desc := "(I)I" } : MethodName)) ∈ WD := wdT10 24 rfl rfl
theorem wd2294 : (Cond.instanceMethod ({ cls := "RestMillModel", name := "drop", desc := "(I)I" } : MethodName)) ∈ WD := wdT10 25 rfl rfl
theorem wd2295 : (Cond.selects "RestMillModel" ({ cls := "RestMillModel", name := "drop", desc := "(I)I" } : MethodName) ({ cls := "RestMillModel", name := "drop", desc := "(I)I" } : MethodName)) ∈ WD := wdT10 26 rfl rfl
theorem wd2301 : (Cond.methodLink "RestMillLaw" (275 : Nat) ({ cls := "RestMillModel", name := "setStrict", desc := "(I)I" } : MethodName)) ∈ WD := wdT10 32 rfl rfl
theorem wd2302 : (Cond.instanceMethod ({ cls := "RestMillModel", name := "setStrict", desc := "(I)I" } : MethodName)) ∈ WD := wdT10 33 rfl rfl
theorem wd2303 : (Cond.selects "RestMillModel" ({ cls := "RestMillModel", name := "setStrict", desc := "(I)I" } : MethodName) ({ cls := "RestMillModel", name := "setStrict", desc := "(I)I" } : MethodName)) ∈ WD := wdT10 34 rfl rfl
theorem wd2305 : (Cond.methodLink "RestMillLaw" (279 : Nat) ({ cls := "RestMillModel", name := "undo", desc := "()I" } : MethodName)) ∈ WD := wdT10 36 rfl rfl
theorem wd2306 : (Cond.instanceMethod ({ cls := "RestMillModel", name := "undo", desc := "()I" } : MethodName)) ∈ WD := wdT10 37 rfl rfl
theorem wd2307 : (Cond.selects "RestMillModel" ({ cls := "RestMillModel", name := "undo", desc := "()I" } : MethodName) ({ cls := "RestMillModel", name := "undo", desc := "()I" } : MethodName)) ∈ WD := wdT10 38 rfl rfl
theorem wd2309 : (Cond.methodLink "RestMillLaw" (282 : Nat) ({ cls := "RestMillModel", name := "printRegister", desc := "(I)I" } : MethodName)) ∈ WD := wdT10 40 rfl rfl
theorem wd2310 : (Cond.instanceMethod ({ cls := "RestMillModel", name := "printRegister", desc := "(I)I" } : MethodName)) ∈ WD := wdT10 41 rfl rfl
theorem wd2311 : (Cond.selects "RestMillModel" ({ cls := "RestMillModel", name := "printRegister", desc := "(I)I" } : MethodName) ({ cls := "RestMillModel", name := "printRegister", desc := "(I)I" } : MethodName)) ∈ WD := wdT10 42 rfl rfl
theorem wd2323 : (Cond.methodLink "RestMillLaw" (286 : Nat) ({ cls := "RestMillModel", name := "printModuli", desc := "()I" } : MethodName)) ∈ WD := wdT10 54 rfl rfl
theorem wd2324 : (Cond.instanceMethod ({ cls := "RestMillModel", name := "printModuli", desc := "()I" } : MethodName)) ∈ WD := wdT10 55 rfl rfl
theorem wd2325 : (Cond.selects "RestMillModel" ({ cls := "RestMillModel", name := "printModuli", desc := "()I" } : MethodName) ({ cls := "RestMillModel", name := "printModuli", desc := "()I" } : MethodName)) ∈ WD := wdT10 56 rfl rfl
theorem wd2327 : (Cond.methodLink "RestMillLaw" (290 : Nat) ({ cls := "RestMillModel", name := "outputByte", desc := "(I)I" } : MethodName)) ∈ WD := wdT10 58 rfl rfl
theorem wd2328 : (Cond.instanceMethod ({ cls := "RestMillModel", name := "outputByte", desc := "(I)I" } : MethodName)) ∈ WD := wdT10 59 rfl rfl
theorem wd2329 : (Cond.selects "RestMillModel" ({ cls := "RestMillModel", name := "outputByte", desc := "(I)I" } : MethodName) ({ cls := "RestMillModel", name := "outputByte", desc := "(I)I" } : MethodName)) ∈ WD := wdT10 60 rfl rfl
theorem wd2331 : (Cond.methodLink "RestMillLaw" (294 : Nat) ({ cls := "RestMillModel", name := "saveState", desc := "()I" } : MethodName)) ∈ WD := wdT10 62 rfl rfl
theorem wd2332 : (Cond.instanceMethod ({ cls := "RestMillModel", name := "saveState", desc := "()I" } : MethodName)) ∈ WD := wdT10 63 rfl rfl
theorem wd2333 : (Cond.selects "RestMillModel" ({ cls := "RestMillModel", name := "saveState", desc := "()I" } : MethodName) ({ cls := "RestMillModel", name := "saveState", desc := "()I" } : MethodName)) ∈ WD := wdT10 64 rfl rfl
theorem wd2335 : (Cond.methodLink "RestMillLaw" (297 : Nat) ({ cls := "RestMillModel", name := "restoreState", desc := "()I" } : MethodName)) ∈ WD := wdT10 66 rfl rfl
theorem wd2336 : (Cond.instanceMethod ({ cls := "RestMillModel", name := "restoreState", desc := "()I" } : MethodName)) ∈ WD := wdT10 67 rfl rfl
theorem wd2337 : (Cond.selects "RestMillModel" ({ cls := "RestMillModel", name := "restoreState", desc := "()I" } : MethodName) ({ cls := "RestMillModel", name := "restoreState", desc := "()I" } : MethodName)) ∈ WD := wdT10 68 rfl rfl
theorem wd2339 : (Cond.sameMethod "java/lang/AbstractStringBuilder" "java/lang/AbstractStringBuilder" "setLength" "(I)V") ∈ WD := wdT10 70 rfl rfl
theorem wd2340 : (Cond.sameMethod "java/lang/AbstractStringBuilder" "java/lang/AbstractStringBuilder" "append" "(Ljava/lang/String;)Ljava/lang/AbstractStringBuilder;") ∈ WD := wdT10 71 rfl rfl
theorem wd2342 : (Cond.sameMethod "java/lang/AbstractStringBuilder" "java/lang/AbstractStringBuilder" "ensureCapacityInternal" "(I)V") ∈ WD := wdT10 73 rfl rfl
theorem wd2343 : (Cond.sameMethod "java/lang/AbstractStringBuilder" "java/lang/AbstractStringBuilder" "newCapacity" "(I)I") ∈ WD := wdT10 74 rfl rfl
theorem wd2344 : (Cond.sameMethod "java/lang/AbstractStringBuilder" "java/lang/AbstractStringBuilder" "putStringAt" "(ILjava/lang/String;)V") ∈ WD := wdT10 75 rfl rfl
theorem wd2345 : (Cond.sameMethod "java/lang/AbstractStringBuilder" "java/lang/AbstractStringBuilder" "inflateIfNeededFor" "(Ljava/lang/String;)V") ∈ WD := wdT10 76 rfl rfl
theorem wd2347 : (Cond.sameMethod "java/lang/AbstractStringBuilder" "java/lang/AbstractStringBuilder" "append" "(I)Ljava/lang/AbstractStringBuilder;") ∈ WD := wdT10 78 rfl rfl
theorem wd2349 : (Cond.sameMethod "java/lang/AbstractStringBuilder" "java/lang/AbstractStringBuilder" "append" "(C)Ljava/lang/AbstractStringBuilder;") ∈ WD := wdT10 80 rfl rfl
theorem wd2351 : (Cond.sameMethod "java/lang/AbstractStringBuilder" "java/lang/AbstractStringBuilder" "charAt" "(I)C") ∈ WD := wdT10 82 rfl rfl
def M_jSB_init : MM := (⟨"java/lang/StringBuilder", "<init>", "()V"⟩, prog_29_method_1_code, 1, none)
theorem q_jSB_init : mOk M_jSB_init 0 := ⟨wd326, wd119, by decide, by decide, by decide +kernel, by decide, tz_jSB rfl⟩
def M_jASB_init : MM := (⟨"java/lang/AbstractStringBuilder", "<init>", "(I)V"⟩, prog_12_method_2_code, 2, none)
theorem q_jASB_init : mOk M_jASB_init 1 := ⟨wd329, wd118, by decide, by decide, by decide +kernel, by decide, tz_jASB rfl⟩
def M_jStr_length : MM := (⟨"java/lang/String", "length", "()I"⟩, prog_28_method_54_code, 1, (some .int))
theorem q_jStr_length : mOk M_jStr_length 0 := ⟨wd474, wd120, by decide, by decide, by decide +kernel, by decide, tz_jStr rfl⟩
def M_jStr_coder : MM := (⟨"java/lang/String", "coder", "()B"⟩, prog_28_method_152_code, 1, (some .byte))
theorem q_jStr_coder : mOk M_jStr_coder 0 := ⟨wd478, wd120, by decide, by decide, by decide +kernel, by decide, tz_jStr rfl⟩
def M_jStr_charAt : MM := (⟨"java/lang/String", "charAt", "(I)C"⟩, prog_28_method_56_code, 2, (some .char))
theorem q_jStr_charAt : mOk M_jStr_charAt 1 := ⟨wd483, wd120, by decide, by decide, by decide +kernel, by decide, tz_jStr rfl⟩
def M_jStr_isLatin1 : MM := (⟨"java/lang/String", "isLatin1", "()Z"⟩, prog_28_method_154_code, 1, (some .boolean))
theorem q_jStr_isLatin1 : mOk M_jStr_isLatin1 0 := ⟨wd487, wd120, by decide, by decide, by decide +kernel, by decide, tz_jStr rfl⟩
def M_jLat_charAt : MM := (⟨"java/lang/StringLatin1", "charAt", "([BI)C"⟩, prog_31_method_2_code, 2, (some .char))
theorem q_jLat_charAt : mOk M_jLat_charAt 2 := ⟨wd490, wd124, by decide, by decide, by decide +kernel, by decide, tz_jLat rfl⟩
def M_jStr_checkIndex : MM := (⟨"java/lang/String", "checkIndex", "(II)V"⟩, prog_28_method_155_code, 2, none)
theorem q_jStr_checkIndex : mOk M_jStr_checkIndex 2 := ⟨wd493, wd120, by decide, by decide, by decide +kernel, by decide, tz_jStr rfl⟩
def M_jPre_checkIndex : MM := (⟨"jdk/internal/util/Preconditions", "checkIndex", "(IILjava/util/function/BiFunction;)I"⟩, prog_40_method_11_code, 3, (some .int))
theorem q_jPre_checkIndex : mOk M_jPre_checkIndex 3 := ⟨wd498, wd125, by decide, by decide, by decide +kernel, by decide, tz_jPre rfl⟩
def M_jStr_indexOf_I : MM := (⟨"java/lang/String", "indexOf", "(I)I"⟩, prog_28_method_79_code, 2, (some .int))
theorem q_jStr_indexOf_I : mOk M_jStr_indexOf_I 1 := ⟨wd535, wd120, by decide, by decide, by decide +kernel, by decide, tz_jStr rfl⟩
def M_jStr_indexOf_II : MM := (⟨"java/lang/String", "indexOf", "(II)I"⟩, prog_28_method_80_code, 3, (some .int))
theorem q_jStr_indexOf_II : mOk M_jStr_indexOf_II 2 := ⟨wd539, wd120, by decide, by decide, by decide +kernel, by decide, tz_jStr rfl⟩
def M_jLat_indexOf : MM := (⟨"java/lang/StringLatin1", "indexOf", "([BIII)I"⟩, prog_31_method_22_code, 4, (some .int))
theorem q_jLat_indexOf : mOk M_jLat_indexOf 4 := ⟨wd543, wd124, by decide, by decide, by decide +kernel, by decide, tz_jLat rfl⟩
def M_jLat_canEncode_I : MM := (⟨"java/lang/StringLatin1", "canEncode", "(I)Z"⟩, prog_31_method_4_code, 1, (some .boolean))
theorem q_jLat_canEncode_I : mOk M_jLat_canEncode_I 1 := ⟨wd546, wd124, by decide, by decide, by decide +kernel, by decide, tz_jLat rfl⟩
def M_jLat_indexOfChar : MM := (⟨"java/lang/StringLatin1", "indexOfChar", "([BIII)I"⟩, prog_31_method_23_code, 6, (some .int))
theorem q_jLat_indexOfChar : mOk M_jLat_indexOfChar 4 := ⟨wd555, wd124, by decide, by decide, by decide +kernel, by decide, tz_jLat rfl⟩
def M_jSB_setLength : MM := (⟨"java/lang/StringBuilder", "setLength", "(I)V"⟩, prog_29_method_89_code, 2, none)
theorem q_jSB_setLength : mOk M_jSB_setLength 1 := ⟨wd955, wd119, by decide, by decide, by decide +kernel, by decide, tz_jSB rfl⟩
def M_jASB_setLength : MM := (⟨"java/lang/AbstractStringBuilder", "setLength", "(I)V"⟩, prog_12_method_13_code, 2, none)
theorem q_jASB_setLength : mOk M_jASB_setLength 1 := ⟨wd958, wd118, by decide, by decide, by decide +kernel, by decide, tz_jASB rfl⟩
def M_jSB_append_LString : MM := (⟨"java/lang/StringBuilder", "append", "(Ljava/lang/String;)Ljava/lang/StringBuilder;"⟩, prog_29_method_7_code, 2, (some (.object "java/lang/StringBuilder")))
theorem q_jSB_append_LString : mOk M_jSB_append_LString 1 := ⟨wd970, wd119, by decide, by decide, by decide +kernel, by decide, tz_jSB rfl⟩
def M_jASB_append_LString : MM := (⟨"java/lang/AbstractStringBuilder", "append", "(Ljava/lang/String;)Ljava/lang/AbstractStringBuilder;"⟩, prog_12_method_22_code, 3, (some (.object "java/lang/AbstractStringBuilder")))
theorem q_jASB_append_LString : mOk M_jASB_append_LString 1 := ⟨wd973, wd118, by decide, by decide, by decide +kernel, by decide, tz_jASB rfl⟩
def M_jASB_ensureCapacityInternal : MM := (⟨"java/lang/AbstractStringBuilder", "ensureCapacityInternal", "(I)V"⟩, prog_12_method_9_code, 3, none)
theorem q_jASB_ensureCapacityInternal : mOk M_jASB_ensureCapacityInternal 1 := ⟨wd981, wd118, by decide, by decide, by decide +kernel, by decide, tz_jASB rfl⟩
def M_jASB_newCapacity : MM := (⟨"java/lang/AbstractStringBuilder", "newCapacity", "(I)I"⟩, prog_12_method_10_code, 6, (some .int))
theorem q_jASB_newCapacity : mOk M_jASB_newCapacity 1 := ⟨wd985, wd118, by decide, by decide, by decide +kernel, by decide, tz_jASB rfl⟩
def M_jAS_newLength : MM := (⟨"jdk/internal/util/ArraysSupport", "newLength", "(III)I"⟩, prog_39_method_27_code, 4, (some .int))
theorem q_jAS_newLength : mOk M_jAS_newLength 3 := ⟨wd988, wd138, by decide, by decide, by decide +kernel, by decide, tz_jAS rfl⟩
def M_jArr_copyOf : MM := (⟨"java/util/Arrays", "copyOf", "([BI)[B"⟩, prog_37_method_121_code, 3, (some (.array .byte)))
theorem q_jArr_copyOf : mOk M_jArr_copyOf 2 := ⟨wd997, wd127, by decide, by decide, by decide +kernel, by decide, tz_jArr rfl⟩
def M_jASB_isLatin1 : MM := (⟨"java/lang/AbstractStringBuilder", "isLatin1", "()Z"⟩, prog_12_method_68_code, 1, (some .boolean))
theorem q_jASB_isLatin1 : mOk M_jASB_isLatin1 0 := ⟨wd1013, wd118, by decide, by decide, by decide +kernel, by decide, tz_jASB rfl⟩
def M_jASB_putStringAt : MM := (⟨"java/lang/AbstractStringBuilder", "putStringAt", "(ILjava/lang/String;)V"⟩, prog_12_method_73_code, 3, none)
theorem q_jASB_putStringAt : mOk M_jASB_putStringAt 2 := ⟨wd1024, wd118, by decide, by decide, by decide +kernel, by decide, tz_jASB rfl⟩
def M_jASB_inflateIfNeededFor : MM := (⟨"java/lang/AbstractStringBuilder", "inflateIfNeededFor", "(Ljava/lang/String;)V"⟩, prog_12_method_71_code, 2, none)
theorem q_jASB_inflateIfNeededFor : mOk M_jASB_inflateIfNeededFor 1 := ⟨wd1028, wd118, by decide, by decide, by decide +kernel, by decide, tz_jASB rfl⟩
def M_jStr_getBytes : MM := (⟨"java/lang/String", "getBytes", "([BIB)V"⟩, prog_28_method_147_code, 4, none)
theorem q_jStr_getBytes : mOk M_jStr_getBytes 3 := ⟨wd1052, wd120, by decide, by decide, by decide +kernel, by decide, tz_jStr rfl⟩
def M_jSB_append_I : MM := (⟨"java/lang/StringBuilder", "append", "(I)Ljava/lang/StringBuilder;"⟩, prog_29_method_15_code, 2, (some (.object "java/lang/StringBuilder")))
theorem q_jSB_append_I : mOk M_jSB_append_I 1 := ⟨wd1058, wd119, by decide, by decide, by decide +kernel, by decide, tz_jSB rfl⟩
def M_jASB_append_I : MM := (⟨"java/lang/AbstractStringBuilder", "append", "(I)Ljava/lang/AbstractStringBuilder;"⟩, prog_12_method_32_code, 4, (some (.object "java/lang/AbstractStringBuilder")))
theorem q_jASB_append_I : mOk M_jASB_append_I 1 := ⟨wd1061, wd118, by decide, by decide, by decide +kernel, by decide, tz_jASB rfl⟩
def M_jInt_stringSize : MM := (⟨"java/lang/Integer", "stringSize", "(I)I"⟩, prog_23_method_13_code, 4, (some .int))
theorem q_jInt_stringSize : mOk M_jInt_stringSize 1 := ⟨wd1064, wd140, by decide, by decide, by decide +kernel, by decide, tz_jInt rfl⟩
def M_jInt_getChars : MM := (⟨"java/lang/Integer", "getChars", "(II[B)I"⟩, prog_23_method_12_code, 7, (some .int))
theorem q_jInt_getChars : mOk M_jInt_getChars 3 := ⟨wd1067, wd140, by decide, by decide, by decide +kernel, by decide, tz_jInt rfl⟩
def M_jSB_length : MM := (⟨"java/lang/StringBuilder", "length", "()I"⟩, prog_29_method_93_code, 1, (some .int))
theorem q_jSB_length : mOk M_jSB_length 0 := ⟨wd1103, wd119, by decide, by decide, by decide +kernel, by decide, tz_jSB rfl⟩
def M_jASB_length : MM := (⟨"java/lang/AbstractStringBuilder", "length", "()I"⟩, prog_12_method_6_code, 1, (some .int))
theorem q_jASB_length : mOk M_jASB_length 0 := ⟨wd1105, wd118, by decide, by decide, by decide +kernel, by decide, tz_jASB rfl⟩
def M_jSB_append_C : MM := (⟨"java/lang/StringBuilder", "append", "(C)Ljava/lang/StringBuilder;"⟩, prog_29_method_14_code, 2, (some (.object "java/lang/StringBuilder")))
theorem q_jSB_append_C : mOk M_jSB_append_C 1 := ⟨wd1265, wd119, by decide, by decide, by decide +kernel, by decide, tz_jSB rfl⟩
def M_jASB_append_C : MM := (⟨"java/lang/AbstractStringBuilder", "append", "(C)Ljava/lang/AbstractStringBuilder;"⟩, prog_12_method_31_code, 2, (some (.object "java/lang/AbstractStringBuilder")))
theorem q_jASB_append_C : mOk M_jASB_append_C 1 := ⟨wd1268, wd118, by decide, by decide, by decide +kernel, by decide, tz_jASB rfl⟩
def M_jLat_canEncode_C : MM := (⟨"java/lang/StringLatin1", "canEncode", "(C)Z"⟩, prog_31_method_3_code, 1, (some .boolean))
theorem q_jLat_canEncode_C : mOk M_jLat_canEncode_C 1 := ⟨wd1271, wd124, by decide, by decide, by decide +kernel, by decide, tz_jLat rfl⟩
def M_jSB_charAt : MM := (⟨"java/lang/StringBuilder", "charAt", "(I)C"⟩, prog_29_method_88_code, 2, (some .char))
theorem q_jSB_charAt : mOk M_jSB_charAt 1 := ⟨wd1286, wd119, by decide, by decide, by decide +kernel, by decide, tz_jSB rfl⟩
def M_jASB_charAt : MM := (⟨"java/lang/AbstractStringBuilder", "charAt", "(I)C"⟩, prog_12_method_14_code, 5, (some .char))
theorem q_jASB_charAt : mOk M_jASB_charAt 1 := ⟨wd1289, wd118, by decide, by decide, by decide +kernel, by decide, tz_jASB rfl⟩
def M_Lw_count : MM := (⟨"RestMillLaw", "count", "(LRestMill;I[J)I"⟩, method_3_code, 4, (some .int))
theorem q_Lw_count : mOkW M_Lw_count 3 := ⟨wd1299, wd109, by decide, by decide, by decide +kernel, by decide⟩
def M_Lw_account : MM := (⟨"RestMillLaw", "account", "(LRestMill;I[J)I"⟩, method_4_code, 4, (some .int))
theorem q_Lw_account : mOkW M_Lw_account 3 := ⟨wd1329, wd109, by decide, by decide, by decide +kernel, by decide⟩
def M_Lw_bound : MM := (⟨"RestMillLaw", "bound", "(LRestMill;I[J)I"⟩, method_5_code, 4, (some .int))
theorem q_Lw_bound : mOkW M_Lw_bound 3 := ⟨wd1340, wd109, by decide, by decide, by decide +kernel, by decide⟩
def M_Lw_modulus : MM := (⟨"RestMillLaw", "modulus", "(LRestMill;I[J)I"⟩, method_6_code, 4, (some .int))
theorem q_Lw_modulus : mOkW M_Lw_modulus 3 := ⟨wd1348, wd109, by decide, by decide, by decide +kernel, by decide⟩
def M_Lw_inverse : MM := (⟨"RestMillLaw", "inverse", "(LRestMill;II[J)I"⟩, method_7_code, 5, (some .int))
theorem q_Lw_inverse : mOkW M_Lw_inverse 4 := ⟨wd1375, wd109, by decide, by decide, by decide +kernel, by decide⟩
def M_Lw_weight : MM := (⟨"RestMillLaw", "weight", "(LRestMill;I[J)I"⟩, method_8_code, 4, (some .int))
theorem q_Lw_weight : mOkW M_Lw_weight 3 := ⟨wd1383, wd109, by decide, by decide, by decide +kernel, by decide⟩
def M_Lw_rest : MM := (⟨"RestMillLaw", "rest", "(LRestMill;II[J)I"⟩, method_9_code, 5, (some .int))
theorem q_Lw_rest : mOkW M_Lw_rest 4 := ⟨wd1391, wd109, by decide, by decide, by decide +kernel, by decide⟩
def M_Lw_digit : MM := (⟨"RestMillLaw", "digit", "(LRestMill;II[J)I"⟩, method_10_code, 5, (some .int))
theorem q_Lw_digit : mOkW M_Lw_digit 4 := ⟨wd1403, wd109, by decide, by decide, by decide +kernel, by decide⟩
def M_Lw_part : MM := (⟨"RestMillLaw", "part", "(LRestMill;II[J)I"⟩, method_11_code, 5, (some .int))
theorem q_Lw_part : mOkW M_Lw_part 4 := ⟨wd1411, wd109, by decide, by decide, by decide +kernel, by decide⟩
def M_Lw_rank : MM := (⟨"RestMillLaw", "rank", "(LRestMill;I[J)I"⟩, method_12_code, 4, (some .int))
theorem q_Lw_rank : mOkW M_Lw_rank 3 := ⟨wd1419, wd109, by decide, by decide, by decide +kernel, by decide⟩
def M_Lw_value : MM := (⟨"RestMillLaw", "value", "(LRestMill;I[J)I"⟩, method_13_code, 4, (some .int))
theorem q_Lw_value : mOkW M_Lw_value 3 := ⟨wd1426, wd109, by decide, by decide, by decide +kernel, by decide⟩
def M_Lw_number : MM := (⟨"RestMillLaw", "number", "(LRestMill;I[J)I"⟩, method_14_code, 4, (some .int))
theorem q_Lw_number : mOkW M_Lw_number 3 := ⟨wd1434, wd109, by decide, by decide, by decide +kernel, by decide⟩
def M_Lw_isSound : MM := (⟨"RestMillLaw", "isSound", "(LRestMill;I[J)I"⟩, method_15_code, 4, (some .int))
theorem q_Lw_isSound : mOkW M_Lw_isSound 3 := ⟨wd1441, wd109, by decide, by decide, by decide +kernel, by decide⟩
def M_Lw_compare : MM := (⟨"RestMillLaw", "compare", "(LRestMill;II[J)I"⟩, method_16_code, 5, (some .int))
theorem q_Lw_compare : mOkW M_Lw_compare 4 := ⟨wd1449, wd109, by decide, by decide, by decide +kernel, by decide⟩
def M_Lw_extend : MM := (⟨"RestMillLaw", "extend", "(LRestMill;IIZ[J)I"⟩, method_17_code, 6, (some .int))
theorem q_Lw_extend : mOkW M_Lw_extend 5 := ⟨wd1460, wd109, by decide, by decide, by decide +kernel, by decide⟩
def M_Lw_distance : MM := (⟨"RestMillLaw", "distance", "(LRestMill;II[J)I"⟩, method_18_code, 5, (some .int))
theorem q_Lw_distance : mOkW M_Lw_distance 4 := ⟨wd1467, wd109, by decide, by decide, by decide +kernel, by decide⟩
def M_Lw_exact : MM := (⟨"RestMillLaw", "exact", "(LRestMill;III[J)I"⟩, method_19_code, 6, (some .int))
theorem q_Lw_exact : mOkW M_Lw_exact 5 := ⟨wd1478, wd109, by decide, by decide, by decide +kernel, by decide⟩
def M_Lw_why : MM := (⟨"RestMillLaw", "why", "(LRestMill;III[J)I"⟩, method_20_code, 6, (some .int))
theorem q_Lw_why : mOkW M_Lw_why 5 := ⟨wd1507, wd109, by decide, by decide, by decide +kernel, by decide⟩
def M_Lw_faults : MM := (⟨"RestMillLaw", "faults", "(LRestMill;I[J)I"⟩, method_21_code, 4, (some .int))
theorem q_Lw_faults : mOkW M_Lw_faults 3 := ⟨wd1516, wd109, by decide, by decide, by decide +kernel, by decide⟩
def M_Lw_numberWith : MM := (⟨"RestMillLaw", "numberWith", "(LRestMill;III[J)I"⟩, method_22_code, 6, (some .int))
theorem q_Lw_numberWith : mOkW M_Lw_numberWith 5 := ⟨wd1527, wd109, by decide, by decide, by decide +kernel, by decide⟩
def M_Lw_set : MM := (⟨"RestMillLaw", "set", "(LRestMill;II[J)I"⟩, method_23_code, 5, (some .int))
theorem q_Lw_set : mOkW M_Lw_set 4 := ⟨wd1539, wd109, by decide, by decide, by decide +kernel, by decide⟩
def M_Lw_hurt : MM := (⟨"RestMillLaw", "hurt", "(LRestMill;III[J)I"⟩, method_24_code, 6, (some .int))
theorem q_Lw_hurt : mOkW M_Lw_hurt 5 := ⟨wd1557, wd109, by decide, by decide, by decide +kernel, by decide⟩
def M_Lw_operate : MM := (⟨"RestMillLaw", "operate", "(LRestMill;IIII[J)I"⟩, method_25_code, 7, (some .int))
theorem q_Lw_operate : mOkW M_Lw_operate 6 := ⟨wd1565, wd109, by decide, by decide, by decide +kernel, by decide⟩
def M_Lw_scale : MM := (⟨"RestMillLaw", "scale", "(LRestMill;II[J)I"⟩, method_26_code, 5, (some .int))
theorem q_Lw_scale : mOkW M_Lw_scale 4 := ⟨wd1577, wd109, by decide, by decide, by decide +kernel, by decide⟩
def M_Lw_mend : MM := (⟨"RestMillLaw", "mend", "(LRestMill;I[J)I"⟩, method_27_code, 4, (some .int))
theorem q_Lw_mend : mOkW M_Lw_mend 3 := ⟨wd1585, wd109, by decide, by decide, by decide +kernel, by decide⟩
def M_Lw_swap : MM := (⟨"RestMillLaw", "swap", "(LRestMill;II[J)I"⟩, method_28_code, 5, (some .int))
theorem q_Lw_swap : mOkW M_Lw_swap 4 := ⟨wd1593, wd109, by decide, by decide, by decide +kernel, by decide⟩
def M_Lw_grow : MM := (⟨"RestMillLaw", "grow", "(LRestMill;I[J)I"⟩, method_29_code, 4, (some .int))
theorem q_Lw_grow : mOkW M_Lw_grow 3 := ⟨wd1601, wd109, by decide, by decide, by decide +kernel, by decide⟩
def M_Lw_drop : MM := (⟨"RestMillLaw", "drop", "(LRestMill;I[J)I"⟩, method_30_code, 4, (some .int))
theorem q_Lw_drop : mOkW M_Lw_drop 3 := ⟨wd1614, wd109, by decide, by decide, by decide +kernel, by decide⟩
def M_Lw_setStrict : MM := (⟨"RestMillLaw", "setStrict", "(LRestMill;I[J)I"⟩, method_31_code, 4, (some .int))
theorem q_Lw_setStrict : mOkW M_Lw_setStrict 3 := ⟨wd1630, wd109, by decide, by decide, by decide +kernel, by decide⟩
def M_Lw_undo : MM := (⟨"RestMillLaw", "undo", "(LRestMill;[J)I"⟩, method_32_code, 3, (some .int))
theorem q_Lw_undo : mOkW M_Lw_undo 2 := ⟨wd1637, wd109, by decide, by decide, by decide +kernel, by decide⟩
def M_Lw_printRegister : MM := (⟨"RestMillLaw", "printRegister", "(LRestMill;I[J)I"⟩, method_33_code, 4, (some .int))
theorem q_Lw_printRegister : mOkW M_Lw_printRegister 3 := ⟨wd1664, wd109, by decide, by decide, by decide +kernel, by decide⟩
def M_Lw_restoreState : MM := (⟨"RestMillLaw", "restoreState", "(LRestMill;[J)I"⟩, method_34_code, 3, (some .int))
theorem q_Lw_restoreState : mOkW M_Lw_restoreState 2 := ⟨wd1674, wd109, by decide, by decide, by decide +kernel, by decide⟩
def M_jASB_appendNull : MM := (⟨"java/lang/AbstractStringBuilder", "appendNull", "()Ljava/lang/AbstractStringBuilder;"⟩, prog_12_method_26_code, 3, (some (.object "java/lang/AbstractStringBuilder")))
theorem q_jASB_appendNull : mOk M_jASB_appendNull 0 := ⟨wd977, wd118, by decide, by decide, by decide +kernel, by decide, tz_jASB rfl⟩
def M_jASB_inflate : MM := (⟨"java/lang/AbstractStringBuilder", "inflate", "()V"⟩, prog_12_method_11_code, 2, none)
theorem q_jASB_inflate : mOk M_jASB_inflate 0 := ⟨wd1033, wd118, by decide, by decide, by decide +kernel, by decide, tz_jASB rfl⟩
def M_jLat_fillNull : MM := (⟨"java/lang/StringLatin1", "fillNull", "([BII)V"⟩, prog_31_method_48_code, 3, none)
theorem q_jLat_fillNull : mOk M_jLat_fillNull 3 := ⟨wd1225, wd124, by decide, by decide, by decide +kernel, by decide, tz_jLat rfl⟩
def M_jLat_inflate : MM := (⟨"java/lang/StringLatin1", "inflate", "([BI[BII)V"⟩, prog_31_method_50_code, 5, none)
theorem q_jLat_inflate : mOk M_jLat_inflate 5 := ⟨wd1036, wd124, by decide, by decide, by decide +kernel, by decide, tz_jLat rfl⟩
def M_jU16_charAt : MM := (⟨"java/lang/StringUTF16", "charAt", "([BI)C"⟩, prog_32_method_83_code, 2, (some .char))
theorem q_jU16_charAt : mOk M_jU16_charAt 2 := ⟨wd501, wd121, by decide, by decide, by decide +kernel, by decide, tz_jU16 rfl⟩
def M_jU16_fillNull : MM := (⟨"java/lang/StringUTF16", "fillNull", "([BII)V"⟩, prog_32_method_70_code, 3, none)
theorem q_jU16_fillNull : mOk M_jU16_fillNull 3 := ⟨wd1260, wd121, by decide, by decide, by decide +kernel, by decide, tz_jU16 rfl⟩
def M_jU16_getChar : MM := (⟨"java/lang/StringUTF16", "getChar", "([BI)C"⟩, prog_32_method_5_code, 2, (some .char))
theorem q_jU16_getChar : mOk M_jU16_getChar 2 := ⟨wd511, wd121, by decide, by decide, by decide +kernel, by decide, tz_jU16 rfl⟩
def M_jU16_getChars_IIIAB : MM := (⟨"java/lang/StringUTF16", "getChars", "(III[B)I"⟩, prog_32_method_77_code, 5, (some .int))
theorem q_jU16_getChars_IIIAB : mOk M_jU16_getChars_IIIAB 4 := ⟨wd1074, wd121, by decide, by decide, by decide +kernel, by decide, tz_jU16 rfl⟩
def M_jU16_indexOf : MM := (⟨"java/lang/StringUTF16", "indexOf", "([BIII)I"⟩, prog_32_method_40_code, 4, (some .int))
theorem q_jU16_indexOf : mOk M_jU16_indexOf 4 := ⟨wd558, wd121, by decide, by decide, by decide +kernel, by decide, tz_jU16 rfl⟩
def M_jU16_newBytesFor : MM := (⟨"java/lang/StringUTF16", "newBytesFor", "(I)[B"⟩, prog_32_method_2_code, 1, (some (.array .byte)))
theorem q_jU16_newBytesFor : mOk M_jU16_newBytesFor 1 := ⟨wd335, wd121, by decide, by decide, by decide +kernel, by decide, tz_jU16 rfl⟩
def M_jU16_putCharSB : MM := (⟨"java/lang/StringUTF16", "putCharSB", "([BII)V"⟩, prog_32_method_71_code, 3, none)
theorem q_jU16_putCharSB : mOk M_jU16_putCharSB 3 := ⟨wd1274, wd121, by decide, by decide, by decide +kernel, by decide, tz_jU16 rfl⟩
def M_jAS_hugeLength : MM := (⟨"jdk/internal/util/ArraysSupport", "hugeLength", "(II)I"⟩, prog_39_method_28_code, 3, (some .int))
theorem q_jAS_hugeLength : mOk M_jAS_hugeLength 2 := ⟨wd993, wd138, by decide, by decide, by decide +kernel, by decide, tz_jAS rfl⟩
theorem s_alt {M : MM} {pc : Nat} {o1 o2 : OP} (h1 : SO M pc o1) (h2 : SO M pc o2) : SO M pc (o_alt o1 o2) := by
  intro d mc ms ls st w K KX Kn gp hK h
  rcases h with h | h
  · exact h1 _ _ _ _ _ _ _ _ _ _ hK h
  · exact h2 _ _ _ _ _ _ _ _ _ _ hK h
