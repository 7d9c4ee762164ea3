-- words and sites
theorem mw_1 : (Jvm.Cond.initialized "MosaicFloor") ∈ mm_gw := mm_gwI 46 (by decide +kernel) (by decide +kernel)
theorem mw_2 : (Jvm.Cond.initialized "MosaicFloor$State") ∈ mm_gw := mm_gwI 47 (by decide +kernel) (by decide +kernel)
theorem mw_3 : (Jvm.Cond.initialized "MosaicFloor$Plan") ∈ mm_gw := mm_gwI 48 (by decide +kernel) (by decide +kernel)
theorem mw_4 : (Jvm.Cond.initialized "java/util/Arrays") ∈ mm_gw := mm_gwI 49 (by decide +kernel) (by decide +kernel)
theorem mw_5 : (Jvm.Cond.initialized "MosaicFloor$Stock") ∈ mm_gw := mm_gwI 50 (by decide +kernel) (by decide +kernel)
theorem mw_6 : (Jvm.Cond.initialized "MosaicFloor$Strip") ∈ mm_gw := mm_gwI 51 (by decide +kernel) (by decide +kernel)
theorem mw_7 : (Jvm.Cond.initialized "MosaicFloor$History") ∈ mm_gw := mm_gwI 52 (by decide +kernel) (by decide +kernel)
theorem mw_8 : (Jvm.Cond.initialized "MosaicFloor$Text") ∈ mm_gw := mm_gwI 53 (by decide +kernel) (by decide +kernel)
theorem mw_9 : (Jvm.Cond.initialized "MosaicFloorModel") ∈ mm_gw := mm_gwI 54 (by decide +kernel) (by decide +kernel)
theorem mw_10 : (Jvm.Cond.initialized "java/lang/System") ∈ mm_gw := mm_gwI 55 (by decide +kernel) (by decide +kernel)
theorem mw_11 : (Jvm.Cond.initialized "java/lang/Math") ∈ mm_gw := mm_gwI 56 (by decide +kernel) (by decide +kernel)
theorem mw_17 : (Jvm.Cond.methodLink "MosaicFloor" (1 : Nat) ({ cls := "java/lang/Object", name := "<init>", desc := "()V" } : Jvm.MethodName)) ∈ mm_gw := mm_gwI 62 (by decide +kernel) (by decide +kernel)
theorem mw_18 : (Jvm.Cond.instanceMethod ({ cls := "java/lang/Object", name := "<init>", desc := "()V" } : Jvm.MethodName)) ∈ mm_gw := mm_gwI 63 (by decide +kernel) (by decide +kernel)
theorem mw_20 : (Jvm.Cond.classLink "MosaicFloor" (7 : Nat) "MosaicFloor$State") ∈ mm_gw := mm_gwI 65 (by decide +kernel) (by decide +kernel)
theorem mw_21 : (Jvm.Cond.instantiable "MosaicFloor$State" (4 : Nat)) ∈ mm_gw := mm_gwI 66 (by decide +kernel) (by decide +kernel)
theorem mw_22 : (Jvm.Cond.methodLink "MosaicFloor" (9 : Nat) ({ cls := "MosaicFloor$State", name := "<init>", desc := "()V" } : Jvm.MethodName)) ∈ mm_gw := mm_gwI 67 (by decide +kernel) (by decide +kernel)
theorem mw_23 : (Jvm.Cond.instanceMethod ({ cls := "MosaicFloor$State", name := "<init>", desc := "()V" } : Jvm.MethodName)) ∈ mm_gw := mm_gwI 68 (by decide +kernel) (by decide +kernel)
theorem mw_24 : (Jvm.Cond.code ({ cls := "MosaicFloor$State", name := "<init>", desc := "()V" } : Jvm.MethodName) prog_4_method_1_code (1 : Nat) (Option.none : Option Jvm.ClassFile.FieldType)) ∈ mm_gw := mm_gwI 69 (by decide +kernel) (by decide +kernel)
theorem mw_25 : (Jvm.Cond.methodLink "MosaicFloor$State" (3 : Nat) ({ cls := "java/lang/Object", name := "<init>", desc := "()V" } : Jvm.MethodName)) ∈ mm_gw := mm_gwI 70 (by decide +kernel) (by decide +kernel)
theorem mw_26 : (Jvm.Cond.classLink "MosaicFloor$State" (9 : Nat) "MosaicFloor$Plan") ∈ mm_gw := mm_gwI 71 (by decide +kernel) (by decide +kernel)
theorem mw_27 : (Jvm.Cond.instantiable "MosaicFloor$Plan" (6 : Nat)) ∈ mm_gw := mm_gwI 72 (by decide +kernel) (by decide +kernel)
theorem mw_28 : (Jvm.Cond.methodLink "MosaicFloor$State" (11 : Nat) ({ cls := "MosaicFloor$Plan", name := "<init>", desc := "()V" } : Jvm.MethodName)) ∈ mm_gw := mm_gwI 73 (by decide +kernel) (by decide +kernel)
theorem mw_29 : (Jvm.Cond.instanceMethod ({ cls := "MosaicFloor$Plan", name := "<init>", desc := "()V" } : Jvm.MethodName)) ∈ mm_gw := mm_gwI 74 (by decide +kernel) (by decide +kernel)
theorem mw_30 : (Jvm.Cond.code ({ cls := "MosaicFloor$Plan", name := "<init>", desc := "()V" } : Jvm.MethodName) prog_3_method_1_code (1 : Nat) (Option.none : Option Jvm.ClassFile.FieldType)) ∈ mm_gw := mm_gwI 75 (by decide +kernel) (by decide +kernel)
theorem mw_31 : (Jvm.Cond.methodLink "MosaicFloor$Plan" (3 : Nat) ({ cls := "java/lang/Object", name := "<init>", desc := "()V" } : Jvm.MethodName)) ∈ mm_gw := mm_gwI 76 (by decide +kernel) (by decide +kernel)
theorem mw_32 : (Jvm.Cond.methodLink "MosaicFloor$Plan" (25 : Nat) ({ cls := "MosaicFloor$Plan", name := "begin", desc := "(II)V" } : Jvm.MethodName)) ∈ mm_gw := mm_gwI 77 (by decide +kernel) (by decide +kernel)
theorem mw_33 : (Jvm.Cond.instanceMethod ({ cls := "MosaicFloor$Plan", name := "begin", desc := "(II)V" } : Jvm.MethodName)) ∈ mm_gw := mm_gwI 78 (by decide +kernel) (by decide +kernel)
theorem mw_35 : (Jvm.Cond.code ({ cls := "MosaicFloor$Plan", name := "begin", desc := "(II)V" } : Jvm.MethodName) prog_3_method_2_code (3 : Nat) (Option.none : Option Jvm.ClassFile.FieldType)) ∈ mm_gw := mm_gwI 80 (by decide +kernel) (by decide +kernel)
theorem mw_36 : (Jvm.Cond.methodLink "MosaicFloor$Plan" (35 : Nat) ({ cls := "java/util/Arrays", name := "fill", desc := "([II)V" } : Jvm.MethodName)) ∈ mm_gw := mm_gwI 81 (by decide +kernel) (by decide +kernel)
theorem mw_37 : (Jvm.Cond.static ({ cls := "java/util/Arrays", name := "fill", desc := "([II)V" } : Jvm.MethodName)) ∈ mm_gw := mm_gwI 82 (by decide +kernel) (by decide +kernel)
theorem mw_38 : (Jvm.Cond.code ({ cls := "java/util/Arrays", name := "fill", desc := "([II)V" } : Jvm.MethodName) prog_12_method_103_code (4 : Nat) (Option.none : Option Jvm.ClassFile.FieldType)) ∈ mm_gw := mm_gwI 83 (by decide +kernel) (by decide +kernel)
theorem mw_39 : (Jvm.Cond.fieldLink "MosaicFloor$Plan" (9 : Nat) "MosaicFloor$Plan" "fieldShades" "[I") ∈ mm_gw := mm_gwI 84 (by decide +kernel) (by decide +kernel)
theorem mw_40 : (Jvm.Cond.fieldLink "MosaicFloor$Plan" (15 : Nat) "MosaicFloor$Plan" "patternShades" "[I") ∈ mm_gw := mm_gwI 85 (by decide +kernel) (by decide +kernel)
theorem mw_41 : (Jvm.Cond.fieldLink "MosaicFloor$Plan" (18 : Nat) "MosaicFloor$Plan" "patternLength" "I") ∈ mm_gw := mm_gwI 86 (by decide +kernel) (by decide +kernel)
theorem mw_42 : (Jvm.Cond.fieldLink "MosaicFloor" (113 : Nat) "MosaicFloor$Plan" "patternLength" "I") ∈ mm_gw := mm_gwI 87 (by decide +kernel) (by decide +kernel)
theorem mw_43 : (Jvm.Cond.fieldLink "MosaicFloor$Plan" (22 : Nat) "MosaicFloor$Plan" "way" "I") ∈ mm_gw := mm_gwI 88 (by decide +kernel) (by decide +kernel)
theorem mw_44 : (Jvm.Cond.fieldLink "MosaicFloor" (69 : Nat) "MosaicFloor$Plan" "way" "I") ∈ mm_gw := mm_gwI 89 (by decide +kernel) (by decide +kernel)
theorem mw_45 : (Jvm.Cond.fieldLink "MosaicFloor$Plan" (29 : Nat) "MosaicFloor$Plan" "columns" "I") ∈ mm_gw := mm_gwI 90 (by decide +kernel) (by decide +kernel)
theorem mw_46 : (Jvm.Cond.fieldLink "MosaicFloor$State" (75 : Nat) "MosaicFloor$Plan" "columns" "I") ∈ mm_gw := mm_gwI 91 (by decide +kernel) (by decide +kernel)
theorem mw_47 : (Jvm.Cond.fieldLink "MosaicFloor" (220 : Nat) "MosaicFloor$Plan" "columns" "I") ∈ mm_gw := mm_gwI 92 (by decide +kernel) (by decide +kernel)
theorem mw_48 : (Jvm.Cond.fieldLink "MosaicFloor$Plan" (32 : Nat) "MosaicFloor$Plan" "rows" "I") ∈ mm_gw := mm_gwI 93 (by decide +kernel) (by decide +kernel)
theorem mw_49 : (Jvm.Cond.fieldLink "MosaicFloor$State" (72 : Nat) "MosaicFloor$Plan" "rows" "I") ∈ mm_gw := mm_gwI 94 (by decide +kernel) (by decide +kernel)
theorem mw_50 : (Jvm.Cond.fieldLink "MosaicFloor" (223 : Nat) "MosaicFloor$Plan" "rows" "I") ∈ mm_gw := mm_gwI 95 (by decide +kernel) (by decide +kernel)
theorem mw_64 : (Jvm.Cond.arrayClass Jvm.ClassFile.FieldType.int) ∈ mm_gw := mm_gwI 109 (by decide +kernel) (by decide +kernel)
theorem mw_65 : (Jvm.Cond.classLink "MosaicFloor$State" (18 : Nat) "MosaicFloor$Stock") ∈ mm_gw := mm_gwI 110 (by decide +kernel) (by decide +kernel)
theorem mw_66 : (Jvm.Cond.instantiable "MosaicFloor$Stock" (9 : Nat)) ∈ mm_gw := mm_gwI 111 (by decide +kernel) (by decide +kernel)
theorem mw_67 : (Jvm.Cond.methodLink "MosaicFloor$State" (20 : Nat) ({ cls := "MosaicFloor$Stock", name := "<init>", desc := "()V" } : Jvm.MethodName)) ∈ mm_gw := mm_gwI 112 (by decide +kernel) (by decide +kernel)
theorem mw_68 : (Jvm.Cond.instanceMethod ({ cls := "MosaicFloor$Stock", name := "<init>", desc := "()V" } : Jvm.MethodName)) ∈ mm_gw := mm_gwI 113 (by decide +kernel) (by decide +kernel)
theorem mw_69 : (Jvm.Cond.code ({ cls := "MosaicFloor$Stock", name := "<init>", desc := "()V" } : Jvm.MethodName) prog_5_method_1_code (2 : Nat) (Option.none : Option Jvm.ClassFile.FieldType)) ∈ mm_gw := mm_gwI 114 (by decide +kernel) (by decide +kernel)
theorem mw_70 : (Jvm.Cond.methodLink "MosaicFloor$Stock" (3 : Nat) ({ cls := "java/lang/Object", name := "<init>", desc := "()V" } : Jvm.MethodName)) ∈ mm_gw := mm_gwI 115 (by decide +kernel) (by decide +kernel)
theorem mw_71 : (Jvm.Cond.classLink "MosaicFloor$Stock" (9 : Nat) "MosaicFloor$Strip") ∈ mm_gw := mm_gwI 116 (by decide +kernel) (by decide +kernel)
theorem mw_73 : (Jvm.Cond.instantiable "MosaicFloor$Strip" (6 : Nat)) ∈ mm_gw := mm_gwI 118 (by decide +kernel) (by decide +kernel)
theorem mw_75 : (Jvm.Cond.instanceMethod ({ cls := "MosaicFloor$Strip", name := "<init>", desc := "()V" } : Jvm.MethodName)) ∈ mm_gw := mm_gwI 120 (by decide +kernel) (by decide +kernel)
theorem mw_76 : (Jvm.Cond.code ({ cls := "MosaicFloor$Strip", name := "<init>", desc := "()V" } : Jvm.MethodName) prog_6_method_1_code (1 : Nat) (Option.none : Option Jvm.ClassFile.FieldType)) ∈ mm_gw := mm_gwI 121 (by decide +kernel) (by decide +kernel)
theorem mw_77 : (Jvm.Cond.methodLink "MosaicFloor$Strip" (3 : Nat) ({ cls := "java/lang/Object", name := "<init>", desc := "()V" } : Jvm.MethodName)) ∈ mm_gw := mm_gwI 122 (by decide +kernel) (by decide +kernel)
theorem mw_78 : (Jvm.Cond.fieldLink "MosaicFloor$Strip" (9 : Nat) "MosaicFloor$Strip" "flaws" "[I") ∈ mm_gw := mm_gwI 123 (by decide +kernel) (by decide +kernel)
theorem mw_79 : (Jvm.Cond.fieldLink "MosaicFloor$Strip" (25 : Nat) "MosaicFloor$Strip" "flawCount" "I") ∈ mm_gw := mm_gwI 124 (by decide +kernel) (by decide +kernel)
theorem mw_80 : (Jvm.Cond.fieldLink "MosaicFloor" (152 : Nat) "MosaicFloor$Strip" "flawCount" "I") ∈ mm_gw := mm_gwI 125 (by decide +kernel) (by decide +kernel)
theorem mw_81 : (Jvm.Cond.fieldLink "MosaicFloor$Strip" (15 : Nat) "MosaicFloor$Strip" "length" "I") ∈ mm_gw := mm_gwI 126 (by decide +kernel) (by decide +kernel)
theorem mw_82 : (Jvm.Cond.fieldLink "MosaicFloor$Stock" (58 : Nat) "MosaicFloor$Strip" "length" "I") ∈ mm_gw := mm_gwI 127 (by decide +kernel) (by decide +kernel)
theorem mw_83 : (Jvm.Cond.fieldLink "MosaicFloor" (146 : Nat) "MosaicFloor$Strip" "length" "I") ∈ mm_gw := mm_gwI 128 (by decide +kernel) (by decide +kernel)
theorem mw_84 : (Jvm.Cond.fieldLink "MosaicFloor$Strip" (19 : Nat) "MosaicFloor$Strip" "shade" "I") ∈ mm_gw := mm_gwI 129 (by decide +kernel) (by decide +kernel)
theorem mw_85 : (Jvm.Cond.fieldLink "MosaicFloor$Stock" (82 : Nat) "MosaicFloor$Strip" "shade" "I") ∈ mm_gw := mm_gwI 130 (by decide +kernel) (by decide +kernel)
theorem mw_86 : (Jvm.Cond.fieldLink "MosaicFloor" (169 : Nat) "MosaicFloor$Strip" "shade" "I") ∈ mm_gw := mm_gwI 131 (by decide +kernel) (by decide +kernel)
theorem mw_87 : (Jvm.Cond.fieldLink "MosaicFloor$Strip" (22 : Nat) "MosaicFloor$Strip" "start" "I") ∈ mm_gw := mm_gwI 132 (by decide +kernel) (by decide +kernel)
theorem mw_88 : (Jvm.Cond.fieldLink "MosaicFloor" (141 : Nat) "MosaicFloor$Strip" "start" "I") ∈ mm_gw := mm_gwI 133 (by decide +kernel) (by decide +kernel)
theorem mw_89 : (Jvm.Cond.fieldLink "MosaicFloor$Strip" (28 : Nat) "MosaicFloor$Strip" "goodCut" "I") ∈ mm_gw := mm_gwI 134 (by decide +kernel) (by decide +kernel)
theorem mw_90 : (Jvm.Cond.fieldLink "MosaicFloor" (181 : Nat) "MosaicFloor$Strip" "goodCut" "I") ∈ mm_gw := mm_gwI 135 (by decide +kernel) (by decide +kernel)
theorem mw_104 : (Jvm.Cond.fieldLink "MosaicFloor$Stock" (11 : Nat) "MosaicFloor$Stock" "strips" "[LMosaicFloor$Strip;") ∈ mm_gw := mm_gwI 149 (by decide +kernel) (by decide +kernel)
theorem mw_105 : (Jvm.Cond.fieldLink "MosaicFloor$Stock" (17 : Nat) "MosaicFloor$Stock" "atHand" "[I") ∈ mm_gw := mm_gwI 150 (by decide +kernel) (by decide +kernel)
theorem mw_106 : (Jvm.Cond.fieldLink "MosaicFloor$Stock" (39 : Nat) "MosaicFloor$Stock" "stripCount" "I") ∈ mm_gw := mm_gwI 151 (by decide +kernel) (by decide +kernel)
theorem mw_107 : (Jvm.Cond.fieldLink "MosaicFloor" (129 : Nat) "MosaicFloor$Stock" "stripCount" "I") ∈ mm_gw := mm_gwI 152 (by decide +kernel) (by decide +kernel)
theorem mw_108 : (Jvm.Cond.fieldLink "MosaicFloor$Stock" (21 : Nat) "MosaicFloor$Stock" "size" "I") ∈ mm_gw := mm_gwI 153 (by decide +kernel) (by decide +kernel)
theorem mw_109 : (Jvm.Cond.fieldLink "MosaicFloor" (162 : Nat) "MosaicFloor$Stock" "size" "I") ∈ mm_gw := mm_gwI 154 (by decide +kernel) (by decide +kernel)
theorem mw_110 : (Jvm.Cond.fieldLink "MosaicFloor$Stock" (25 : Nat) "MosaicFloor$Stock" "loss" "I") ∈ mm_gw := mm_gwI 155 (by decide +kernel) (by decide +kernel)
theorem mw_111 : (Jvm.Cond.fieldLink "MosaicFloor" (172 : Nat) "MosaicFloor$Stock" "loss" "I") ∈ mm_gw := mm_gwI 156 (by decide +kernel) (by decide +kernel)
theorem mw_112 : (Jvm.Cond.fieldLink "MosaicFloor$Stock" (42 : Nat) "MosaicFloor$Stock" "brokenCount" "I") ∈ mm_gw := mm_gwI 157 (by decide +kernel) (by decide +kernel)
theorem mw_113 : (Jvm.Cond.fieldLink "MosaicFloor" (239 : Nat) "MosaicFloor$Stock" "brokenCount" "I") ∈ mm_gw := mm_gwI 158 (by decide +kernel) (by decide +kernel)
theorem mw_114 : (Jvm.Cond.fieldLink "MosaicFloor$Stock" (45 : Nat) "MosaicFloor$Stock" "brokenLength" "I") ∈ mm_gw := mm_gwI 159 (by decide +kernel) (by decide +kernel)
theorem mw_115 : (Jvm.Cond.fieldLink "MosaicFloor" (251 : Nat) "MosaicFloor$Stock" "brokenLength" "I") ∈ mm_gw := mm_gwI 160 (by decide +kernel) (by decide +kernel)
theorem mw_116 : (Jvm.Cond.fieldLink "MosaicFloor$Stock" (48 : Nat) "MosaicFloor$Stock" "sawnLength" "I") ∈ mm_gw := mm_gwI 161 (by decide +kernel) (by decide +kernel)
theorem mw_117 : (Jvm.Cond.fieldLink "MosaicFloor" (254 : Nat) "MosaicFloor$Stock" "sawnLength" "I") ∈ mm_gw := mm_gwI 162 (by decide +kernel) (by decide +kernel)
theorem mw_118 : (Jvm.Cond.fieldLink "MosaicFloor$Stock" (51 : Nat) "MosaicFloor$Stock" "thrownLength" "I") ∈ mm_gw := mm_gwI 163 (by decide +kernel) (by decide +kernel)
theorem mw_119 : (Jvm.Cond.fieldLink "MosaicFloor" (257 : Nat) "MosaicFloor$Stock" "thrownLength" "I") ∈ mm_gw := mm_gwI 164 (by decide +kernel) (by decide +kernel)
theorem mw_139 : (Jvm.Cond.methodLink "MosaicFloor$State" (29 : Nat) ({ cls := "java/util/Arrays", name := "fill", desc := "([II)V" } : Jvm.MethodName)) ∈ mm_gw := mm_gwI 184 (by decide +kernel) (by decide +kernel)
theorem mw_140 : (Jvm.Cond.fieldLink "MosaicFloor$State" (12 : Nat) "MosaicFloor$State" "plan" "LMosaicFloor$Plan;") ∈ mm_gw := mm_gwI 185 (by decide +kernel) (by decide +kernel)
theorem mw_141 : (Jvm.Cond.fieldLink "MosaicFloor" (45 : Nat) "MosaicFloor$State" "plan" "LMosaicFloor$Plan;") ∈ mm_gw := mm_gwI 186 (by decide +kernel) (by decide +kernel)
theorem mw_142 : (Jvm.Cond.fieldLink "MosaicFloor$State" (21 : Nat) "MosaicFloor$State" "stock" "LMosaicFloor$Stock;") ∈ mm_gw := mm_gwI 187 (by decide +kernel) (by decide +kernel)
theorem mw_143 : (Jvm.Cond.fieldLink "MosaicFloor" (125 : Nat) "MosaicFloor$State" "stock" "LMosaicFloor$Stock;") ∈ mm_gw := mm_gwI 188 (by decide +kernel) (by decide +kernel)
theorem mw_144 : (Jvm.Cond.fieldLink "MosaicFloor$State" (25 : Nat) "MosaicFloor$State" "laid" "[I") ∈ mm_gw := mm_gwI 189 (by decide +kernel) (by decide +kernel)
theorem mw_145 : (Jvm.Cond.fieldLink "MosaicFloor$State" (48 : Nat) "MosaicFloor$State" "liftedCount" "I") ∈ mm_gw := mm_gwI 190 (by decide +kernel) (by decide +kernel)
theorem mw_146 : (Jvm.Cond.fieldLink "MosaicFloor" (242 : Nat) "MosaicFloor$State" "liftedCount" "I") ∈ mm_gw := mm_gwI 191 (by decide +kernel) (by decide +kernel)
theorem mw_156 : (Jvm.Cond.classLink "MosaicFloor" (19 : Nat) "MosaicFloor$History") ∈ mm_gw := mm_gwI 201 (by decide +kernel) (by decide +kernel)
theorem mw_157 : (Jvm.Cond.instantiable "MosaicFloor$History" (2 : Nat)) ∈ mm_gw := mm_gwI 202 (by decide +kernel) (by decide +kernel)
theorem mw_158 : (Jvm.Cond.methodLink "MosaicFloor" (21 : Nat) ({ cls := "MosaicFloor$History", name := "<init>", desc := "()V" } : Jvm.MethodName)) ∈ mm_gw := mm_gwI 203 (by decide +kernel) (by decide +kernel)
theorem mw_159 : (Jvm.Cond.instanceMethod ({ cls := "MosaicFloor$History", name := "<init>", desc := "()V" } : Jvm.MethodName)) ∈ mm_gw := mm_gwI 204 (by decide +kernel) (by decide +kernel)
theorem mw_160 : (Jvm.Cond.code ({ cls := "MosaicFloor$History", name := "<init>", desc := "()V" } : Jvm.MethodName) prog_2_method_1_code (2 : Nat) (Option.none : Option Jvm.ClassFile.FieldType)) ∈ mm_gw := mm_gwI 205 (by decide +kernel) (by decide +kernel)
theorem mw_161 : (Jvm.Cond.methodLink "MosaicFloor$History" (3 : Nat) ({ cls := "java/lang/Object", name := "<init>", desc := "()V" } : Jvm.MethodName)) ∈ mm_gw := mm_gwI 206 (by decide +kernel) (by decide +kernel)
theorem mw_162 : (Jvm.Cond.classLink "MosaicFloor$History" (9 : Nat) "MosaicFloor$State") ∈ mm_gw := mm_gwI 207 (by decide +kernel) (by decide +kernel)
theorem mw_164 : (Jvm.Cond.methodLink "MosaicFloor$History" (17 : Nat) ({ cls := "MosaicFloor$State", name := "<init>", desc := "()V" } : Jvm.MethodName)) ∈ mm_gw := mm_gwI 209 (by decide +kernel) (by decide +kernel)
theorem mw_165 : (Jvm.Cond.fieldLink "MosaicFloor$History" (11 : Nat) "MosaicFloor$History" "states" "[LMosaicFloor$State;") ∈ mm_gw := mm_gwI 210 (by decide +kernel) (by decide +kernel)
theorem mw_166 : (Jvm.Cond.fieldLink "MosaicFloor$History" (18 : Nat) "MosaicFloor$History" "used" "I") ∈ mm_gw := mm_gwI 211 (by decide +kernel) (by decide +kernel)
theorem mw_172 : (Jvm.Cond.classLink "MosaicFloor" (26 : Nat) "MosaicFloor$Text") ∈ mm_gw := mm_gwI 217 (by decide +kernel) (by decide +kernel)
theorem mw_173 : (Jvm.Cond.instantiable "MosaicFloor$Text" (2 : Nat)) ∈ mm_gw := mm_gwI 218 (by decide +kernel) (by decide +kernel)
theorem mw_175 : (Jvm.Cond.instanceMethod ({ cls := "MosaicFloor$Text", name := "<init>", desc := "()V" } : Jvm.MethodName)) ∈ mm_gw := mm_gwI 220 (by decide +kernel) (by decide +kernel)
theorem mw_176 : (Jvm.Cond.code ({ cls := "MosaicFloor$Text", name := "<init>", desc := "()V" } : Jvm.MethodName) prog_7_method_1_code (1 : Nat) (Option.none : Option Jvm.ClassFile.FieldType)) ∈ mm_gw := mm_gwI 221 (by decide +kernel) (by decide +kernel)
theorem mw_177 : (Jvm.Cond.methodLink "MosaicFloor$Text" (3 : Nat) ({ cls := "java/lang/Object", name := "<init>", desc := "()V" } : Jvm.MethodName)) ∈ mm_gw := mm_gwI 222 (by decide +kernel) (by decide +kernel)
theorem mw_178 : (Jvm.Cond.fieldLink "MosaicFloor$Text" (9 : Nat) "MosaicFloor$Text" "characters" "[C") ∈ mm_gw := mm_gwI 223 (by decide +kernel) (by decide +kernel)
theorem mw_179 : (Jvm.Cond.fieldLink "MosaicFloor$Text" (15 : Nat) "MosaicFloor$Text" "length" "I") ∈ mm_gw := mm_gwI 224 (by decide +kernel) (by decide +kernel)
theorem mw_180 : (Jvm.Cond.fieldLink "MosaicFloor" (213 : Nat) "MosaicFloor$Text" "length" "I") ∈ mm_gw := mm_gwI 225 (by decide +kernel) (by decide +kernel)
theorem mw_186 : (Jvm.Cond.arrayClass Jvm.ClassFile.FieldType.char) ∈ mm_gw := mm_gwI 231 (by decide +kernel) (by decide +kernel)
theorem mw_187 : (Jvm.Cond.fieldLink "MosaicFloor" (10 : Nat) "MosaicFloor" "now" "LMosaicFloor$State;") ∈ mm_gw := mm_gwI 232 (by decide +kernel) (by decide +kernel)
theorem mw_188 : (Jvm.Cond.fieldLink "MosaicFloor" (16 : Nat) "MosaicFloor" "trial" "LMosaicFloor$State;") ∈ mm_gw := mm_gwI 233 (by decide +kernel) (by decide +kernel)
theorem mw_189 : (Jvm.Cond.fieldLink "MosaicFloor" (22 : Nat) "MosaicFloor" "history" "LMosaicFloor$History;") ∈ mm_gw := mm_gwI 234 (by decide +kernel) (by decide +kernel)
theorem mw_190 : (Jvm.Cond.fieldLink "MosaicFloor" (29 : Nat) "MosaicFloor" "text" "LMosaicFloor$Text;") ∈ mm_gw := mm_gwI 235 (by decide +kernel) (by decide +kernel)
theorem mw_204 : (Jvm.Cond.methodLink "MosaicFloor" (33 : Nat) ({ cls := "MosaicFloor", name := "isWithin", desc := "(III)Z" } : Jvm.MethodName)) ∈ mm_gw := mm_gwI 249 (by decide +kernel) (by decide +kernel)
theorem mw_205 : (Jvm.Cond.static ({ cls := "MosaicFloor", name := "isWithin", desc := "(III)Z" } : Jvm.MethodName)) ∈ mm_gw := mm_gwI 250 (by decide +kernel) (by decide +kernel)
theorem mw_206 : (Jvm.Cond.code ({ cls := "MosaicFloor", name := "isWithin", desc := "(III)Z" } : Jvm.MethodName) prog_1_method_26_code (3 : Nat) (Option.some Jvm.ClassFile.FieldType.boolean)) ∈ mm_gw := mm_gwI 251 (by decide +kernel) (by decide +kernel)
theorem mw_207 : (Jvm.Cond.methodLink "MosaicFloor" (37 : Nat) ({ cls := "MosaicFloor$State", name := "laidCells", desc := "()I" } : Jvm.MethodName)) ∈ mm_gw := mm_gwI 252 (by decide +kernel) (by decide +kernel)
theorem mw_208 : (Jvm.Cond.instanceMethod ({ cls := "MosaicFloor$State", name := "laidCells", desc := "()I" } : Jvm.MethodName)) ∈ mm_gw := mm_gwI 253 (by decide +kernel) (by decide +kernel)
theorem mw_210 : (Jvm.Cond.code ({ cls := "MosaicFloor$State", name := "laidCells", desc := "()I" } : Jvm.MethodName) prog_4_method_7_code (6 : Nat) (Option.some Jvm.ClassFile.FieldType.int)) ∈ mm_gw := mm_gwI 255 (by decide +kernel) (by decide +kernel)
theorem mw_211 : (Jvm.Cond.methodLink "MosaicFloor" (41 : Nat) ({ cls := "MosaicFloor$History", name := "keep", desc := "(LMosaicFloor$State;)V" } : Jvm.MethodName)) ∈ mm_gw := mm_gwI 256 (by decide +kernel) (by decide +kernel)
theorem mw_212 : (Jvm.Cond.instanceMethod ({ cls := "MosaicFloor$History", name := "keep", desc := "(LMosaicFloor$State;)V" } : Jvm.MethodName)) ∈ mm_gw := mm_gwI 257 (by decide +kernel) (by decide +kernel)
theorem mw_214 : (Jvm.Cond.code ({ cls := "MosaicFloor$History", name := "keep", desc := "(LMosaicFloor$State;)V" } : Jvm.MethodName) prog_2_method_3_code (2 : Nat) (Option.none : Option Jvm.ClassFile.FieldType)) ∈ mm_gw := mm_gwI 259 (by decide +kernel) (by decide +kernel)
theorem mw_215 : (Jvm.Cond.methodLink "MosaicFloor$History" (22 : Nat) ({ cls := "MosaicFloor$History", name := "dropOldest", desc := "()V" } : Jvm.MethodName)) ∈ mm_gw := mm_gwI 260 (by decide +kernel) (by decide +kernel)
theorem mw_217 : (Jvm.Cond.instanceMethod ({ cls := "MosaicFloor$History", name := "dropOldest", desc := "()V" } : Jvm.MethodName)) ∈ mm_gw := mm_gwI 262 (by decide +kernel) (by decide +kernel)
theorem mw_218 : (Jvm.Cond.code ({ cls := "MosaicFloor$History", name := "dropOldest", desc := "()V" } : Jvm.MethodName) prog_2_method_4_code (3 : Nat) (Option.none : Option Jvm.ClassFile.FieldType)) ∈ mm_gw := mm_gwI 263 (by decide +kernel) (by decide +kernel)
theorem mw_219 : (Jvm.Cond.methodLink "MosaicFloor$History" (25 : Nat) ({ cls := "MosaicFloor$State", name := "copyFrom", desc := "(LMosaicFloor$State;)V" } : Jvm.MethodName)) ∈ mm_gw := mm_gwI 264 (by decide +kernel) (by decide +kernel)
theorem mw_220 : (Jvm.Cond.instanceMethod ({ cls := "MosaicFloor$State", name := "copyFrom", desc := "(LMosaicFloor$State;)V" } : Jvm.MethodName)) ∈ mm_gw := mm_gwI 265 (by decide +kernel) (by decide +kernel)
theorem mw_222 : (Jvm.Cond.code ({ cls := "MosaicFloor$State", name := "copyFrom", desc := "(LMosaicFloor$State;)V" } : Jvm.MethodName) prog_4_method_2_code (2 : Nat) (Option.none : Option Jvm.ClassFile.FieldType)) ∈ mm_gw := mm_gwI 267 (by decide +kernel) (by decide +kernel)
theorem mw_223 : (Jvm.Cond.methodLink "MosaicFloor$State" (35 : Nat) ({ cls := "MosaicFloor$Plan", name := "copyFrom", desc := "(LMosaicFloor$Plan;)V" } : Jvm.MethodName)) ∈ mm_gw := mm_gwI 268 (by decide +kernel) (by decide +kernel)
theorem mw_224 : (Jvm.Cond.instanceMethod ({ cls := "MosaicFloor$Plan", name := "copyFrom", desc := "(LMosaicFloor$Plan;)V" } : Jvm.MethodName)) ∈ mm_gw := mm_gwI 269 (by decide +kernel) (by decide +kernel)
theorem mw_226 : (Jvm.Cond.code ({ cls := "MosaicFloor$Plan", name := "copyFrom", desc := "(LMosaicFloor$Plan;)V" } : Jvm.MethodName) prog_3_method_3_code (2 : Nat) (Option.none : Option Jvm.ClassFile.FieldType)) ∈ mm_gw := mm_gwI 271 (by decide +kernel) (by decide +kernel)
theorem mw_227 : (Jvm.Cond.methodLink "MosaicFloor$Plan" (41 : Nat) ({ cls := "java/lang/System", name := "arraycopy", desc := "(Ljava/lang/Object;ILjava/lang/Object;II)V" } : Jvm.MethodName)) ∈ mm_gw := mm_gwI 272 (by decide +kernel) (by decide +kernel)
theorem mw_228 : (Jvm.Cond.static ({ cls := "java/lang/System", name := "arraycopy", desc := "(Ljava/lang/Object;ILjava/lang/Object;II)V" } : Jvm.MethodName)) ∈ mm_gw := mm_gwI 273 (by decide +kernel) (by decide +kernel)
theorem mw_229 : (Jvm.Cond.native ({ cls := "java/lang/System", name := "arraycopy", desc := "(Ljava/lang/Object;ILjava/lang/Object;II)V" } : Jvm.MethodName)) ∈ mm_gw := mm_gwI 274 (by decide +kernel) (by decide +kernel)
theorem mw_230 : (Jvm.Cond.methodLink "MosaicFloor$State" (39 : Nat) ({ cls := "MosaicFloor$Stock", name := "copyFrom", desc := "(LMosaicFloor$Stock;)V" } : Jvm.MethodName)) ∈ mm_gw := mm_gwI 275 (by decide +kernel) (by decide +kernel)
theorem mw_231 : (Jvm.Cond.instanceMethod ({ cls := "MosaicFloor$Stock", name := "copyFrom", desc := "(LMosaicFloor$Stock;)V" } : Jvm.MethodName)) ∈ mm_gw := mm_gwI 276 (by decide +kernel) (by decide +kernel)
theorem mw_233 : (Jvm.Cond.code ({ cls := "MosaicFloor$Stock", name := "copyFrom", desc := "(LMosaicFloor$Stock;)V" } : Jvm.MethodName) prog_5_method_2_code (3 : Nat) (Option.none : Option Jvm.ClassFile.FieldType)) ∈ mm_gw := mm_gwI 278 (by decide +kernel) (by decide +kernel)
theorem mw_234 : (Jvm.Cond.methodLink "MosaicFloor$Stock" (29 : Nat) ({ cls := "MosaicFloor$Strip", name := "copyFrom", desc := "(LMosaicFloor$Strip;)V" } : Jvm.MethodName)) ∈ mm_gw := mm_gwI 279 (by decide +kernel) (by decide +kernel)
theorem mw_235 : (Jvm.Cond.instanceMethod ({ cls := "MosaicFloor$Strip", name := "copyFrom", desc := "(LMosaicFloor$Strip;)V" } : Jvm.MethodName)) ∈ mm_gw := mm_gwI 280 (by decide +kernel) (by decide +kernel)
theorem mw_237 : (Jvm.Cond.code ({ cls := "MosaicFloor$Strip", name := "copyFrom", desc := "(LMosaicFloor$Strip;)V" } : Jvm.MethodName) prog_6_method_3_code (2 : Nat) (Option.none : Option Jvm.ClassFile.FieldType)) ∈ mm_gw := mm_gwI 282 (by decide +kernel) (by decide +kernel)
theorem mw_238 : (Jvm.Cond.methodLink "MosaicFloor$Strip" (31 : Nat) ({ cls := "java/lang/System", name := "arraycopy", desc := "(Ljava/lang/Object;ILjava/lang/Object;II)V" } : Jvm.MethodName)) ∈ mm_gw := mm_gwI 283 (by decide +kernel) (by decide +kernel)
theorem mw_239 : (Jvm.Cond.methodLink "MosaicFloor$Stock" (33 : Nat) ({ cls := "java/lang/System", name := "arraycopy", desc := "(Ljava/lang/Object;ILjava/lang/Object;II)V" } : Jvm.MethodName)) ∈ mm_gw := mm_gwI 284 (by decide +kernel) (by decide +kernel)
theorem mw_240 : (Jvm.Cond.methodLink "MosaicFloor$State" (42 : Nat) ({ cls := "java/lang/System", name := "arraycopy", desc := "(Ljava/lang/Object;ILjava/lang/Object;II)V" } : Jvm.MethodName)) ∈ mm_gw := mm_gwI 285 (by decide +kernel) (by decide +kernel)
theorem mw_241 : (Jvm.Cond.methodLink "MosaicFloor" (49 : Nat) ({ cls := "MosaicFloor$Plan", name := "begin", desc := "(II)V" } : Jvm.MethodName)) ∈ mm_gw := mm_gwI 286 (by decide +kernel) (by decide +kernel)
theorem mw_246 : (Jvm.Cond.methodLink "MosaicFloor" (55 : Nat) ({ cls := "MosaicFloor", name := "changeSize", desc := "(I)I" } : Jvm.MethodName)) ∈ mm_gw := mm_gwI 291 (by decide +kernel) (by decide +kernel)
theorem mw_248 : (Jvm.Cond.instanceMethod ({ cls := "MosaicFloor", name := "changeSize", desc := "(I)I" } : Jvm.MethodName)) ∈ mm_gw := mm_gwI 293 (by decide +kernel) (by decide +kernel)
theorem mw_249 : (Jvm.Cond.code ({ cls := "MosaicFloor", name := "changeSize", desc := "(I)I" } : Jvm.MethodName) prog_1_method_28_code (3 : Nat) (Option.some Jvm.ClassFile.FieldType.int)) ∈ mm_gw := mm_gwI 294 (by decide +kernel) (by decide +kernel)
theorem mw_250 : (Jvm.Cond.methodLink "MosaicFloor" (217 : Nat) ({ cls := "MosaicFloor$Stock", name := "throwAway", desc := "()V" } : Jvm.MethodName)) ∈ mm_gw := mm_gwI 295 (by decide +kernel) (by decide +kernel)
theorem mw_251 : (Jvm.Cond.instanceMethod ({ cls := "MosaicFloor$Stock", name := "throwAway", desc := "()V" } : Jvm.MethodName)) ∈ mm_gw := mm_gwI 296 (by decide +kernel) (by decide +kernel)
theorem mw_253 : (Jvm.Cond.code ({ cls := "MosaicFloor$Stock", name := "throwAway", desc := "()V" } : Jvm.MethodName) prog_5_method_12_code (1 : Nat) (Option.none : Option Jvm.ClassFile.FieldType)) ∈ mm_gw := mm_gwI 298 (by decide +kernel) (by decide +kernel)
theorem mw_254 : (Jvm.Cond.methodLink "MosaicFloor$Stock" (73 : Nat) ({ cls := "MosaicFloor$Stock", name := "tesseraeAtHand", desc := "()I" } : Jvm.MethodName)) ∈ mm_gw := mm_gwI 299 (by decide +kernel) (by decide +kernel)
theorem mw_255 : (Jvm.Cond.instanceMethod ({ cls := "MosaicFloor$Stock", name := "tesseraeAtHand", desc := "()I" } : Jvm.MethodName)) ∈ mm_gw := mm_gwI 300 (by decide +kernel) (by decide +kernel)
theorem mw_257 : (Jvm.Cond.code ({ cls := "MosaicFloor$Stock", name := "tesseraeAtHand", desc := "()I" } : Jvm.MethodName) prog_5_method_7_code (6 : Nat) (Option.some Jvm.ClassFile.FieldType.int)) ∈ mm_gw := mm_gwI 302 (by decide +kernel) (by decide +kernel)
theorem mw_258 : (Jvm.Cond.methodLink "MosaicFloor$Stock" (76 : Nat) ({ cls := "java/util/Arrays", name := "fill", desc := "([II)V" } : Jvm.MethodName)) ∈ mm_gw := mm_gwI 303 (by decide +kernel) (by decide +kernel)
theorem mw_259 : (Jvm.Cond.methodLink "MosaicFloor" (59 : Nat) ({ cls := "MosaicFloor", name := "changeLoss", desc := "(I)I" } : Jvm.MethodName)) ∈ mm_gw := mm_gwI 304 (by decide +kernel) (by decide +kernel)
theorem mw_261 : (Jvm.Cond.instanceMethod ({ cls := "MosaicFloor", name := "changeLoss", desc := "(I)I" } : Jvm.MethodName)) ∈ mm_gw := mm_gwI 306 (by decide +kernel) (by decide +kernel)
theorem mw_262 : (Jvm.Cond.code ({ cls := "MosaicFloor", name := "changeLoss", desc := "(I)I" } : Jvm.MethodName) prog_1_method_29_code (3 : Nat) (Option.some Jvm.ClassFile.FieldType.int)) ∈ mm_gw := mm_gwI 307 (by decide +kernel) (by decide +kernel)
theorem mw_267 : (Jvm.Cond.methodLink "MosaicFloor" (62 : Nat) ({ cls := "MosaicFloor$Text", name := "firstFaultOrNone", desc := "()I" } : Jvm.MethodName)) ∈ mm_gw := mm_gwI 312 (by decide +kernel) (by decide +kernel)
theorem mw_268 : (Jvm.Cond.instanceMethod ({ cls := "MosaicFloor$Text", name := "firstFaultOrNone", desc := "()I" } : Jvm.MethodName)) ∈ mm_gw := mm_gwI 313 (by decide +kernel) (by decide +kernel)
theorem mw_270 : (Jvm.Cond.code ({ cls := "MosaicFloor$Text", name := "firstFaultOrNone", desc := "()I" } : Jvm.MethodName) prog_7_method_3_code (5 : Nat) (Option.some Jvm.ClassFile.FieldType.int)) ∈ mm_gw := mm_gwI 315 (by decide +kernel) (by decide +kernel)
theorem mw_271 : (Jvm.Cond.methodLink "MosaicFloor$Text" (19 : Nat) ({ cls := "MosaicFloor$Text", name := "isDigit", desc := "(C)Z" } : Jvm.MethodName)) ∈ mm_gw := mm_gwI 316 (by decide +kernel) (by decide +kernel)
theorem mw_272 : (Jvm.Cond.static ({ cls := "MosaicFloor$Text", name := "isDigit", desc := "(C)Z" } : Jvm.MethodName)) ∈ mm_gw := mm_gwI 317 (by decide +kernel) (by decide +kernel)
theorem mw_273 : (Jvm.Cond.code ({ cls := "MosaicFloor$Text", name := "isDigit", desc := "(C)Z" } : Jvm.MethodName) prog_7_method_5_code (1 : Nat) (Option.some Jvm.ClassFile.FieldType.boolean)) ∈ mm_gw := mm_gwI 318 (by decide +kernel) (by decide +kernel)
theorem mw_274 : (Jvm.Cond.methodLink "MosaicFloor" (65 : Nat) ({ cls := "MosaicFloor$Plan", name := "takePattern", desc := "(LMosaicFloor$Text;)I" } : Jvm.MethodName)) ∈ mm_gw := mm_gwI 319 (by decide +kernel) (by decide +kernel)
theorem mw_275 : (Jvm.Cond.instanceMethod ({ cls := "MosaicFloor$Plan", name := "takePattern", desc := "(LMosaicFloor$Text;)I" } : Jvm.MethodName)) ∈ mm_gw := mm_gwI 320 (by decide +kernel) (by decide +kernel)
theorem mw_277 : (Jvm.Cond.code ({ cls := "MosaicFloor$Plan", name := "takePattern", desc := "(LMosaicFloor$Text;)I" } : Jvm.MethodName) prog_3_method_4_code (2 : Nat) (Option.some Jvm.ClassFile.FieldType.int)) ∈ mm_gw := mm_gwI 322 (by decide +kernel) (by decide +kernel)
theorem mw_278 : (Jvm.Cond.methodLink "MosaicFloor$Plan" (47 : Nat) ({ cls := "MosaicFloor$Text", name := "readShades", desc := "([I)I" } : Jvm.MethodName)) ∈ mm_gw := mm_gwI 323 (by decide +kernel) (by decide +kernel)
theorem mw_279 : (Jvm.Cond.instanceMethod ({ cls := "MosaicFloor$Text", name := "readShades", desc := "([I)I" } : Jvm.MethodName)) ∈ mm_gw := mm_gwI 324 (by decide +kernel) (by decide +kernel)
theorem mw_281 : (Jvm.Cond.code ({ cls := "MosaicFloor$Text", name := "readShades", desc := "([I)I" } : Jvm.MethodName) prog_7_method_4_code (5 : Nat) (Option.some Jvm.ClassFile.FieldType.int)) ∈ mm_gw := mm_gwI 326 (by decide +kernel) (by decide +kernel)
theorem mw_282 : (Jvm.Cond.methodLink "MosaicFloor$Text" (23 : Nat) ({ cls := "java/lang/Math", name := "min", desc := "(II)I" } : Jvm.MethodName)) ∈ mm_gw := mm_gwI 327 (by decide +kernel) (by decide +kernel)
theorem mw_283 : (Jvm.Cond.static ({ cls := "java/lang/Math", name := "min", desc := "(II)I" } : Jvm.MethodName)) ∈ mm_gw := mm_gwI 328 (by decide +kernel) (by decide +kernel)
theorem mw_293 : (Jvm.Cond.methodLink "MosaicFloor" (73 : Nat) ({ cls := "MosaicFloor$Plan", name := "hasCell", desc := "(II)Z" } : Jvm.MethodName)) ∈ mm_gw := mm_gwI 338 (by decide +kernel) (by decide +kernel)
theorem mw_294 : (Jvm.Cond.instanceMethod ({ cls := "MosaicFloor$Plan", name := "hasCell", desc := "(II)Z" } : Jvm.MethodName)) ∈ mm_gw := mm_gwI 339 (by decide +kernel) (by decide +kernel)
theorem mw_296 : (Jvm.Cond.code ({ cls := "MosaicFloor$Plan", name := "hasCell", desc := "(II)Z" } : Jvm.MethodName) prog_3_method_5_code (3 : Nat) (Option.some Jvm.ClassFile.FieldType.boolean)) ∈ mm_gw := mm_gwI 341 (by decide +kernel) (by decide +kernel)
theorem mw_297 : (Jvm.Cond.methodLink "MosaicFloor" (77 : Nat) ({ cls := "MosaicFloor", name := "isShade", desc := "(I)Z" } : Jvm.MethodName)) ∈ mm_gw := mm_gwI 342 (by decide +kernel) (by decide +kernel)
theorem mw_298 : (Jvm.Cond.static ({ cls := "MosaicFloor", name := "isShade", desc := "(I)Z" } : Jvm.MethodName)) ∈ mm_gw := mm_gwI 343 (by decide +kernel) (by decide +kernel)
theorem mw_299 : (Jvm.Cond.code ({ cls := "MosaicFloor", name := "isShade", desc := "(I)Z" } : Jvm.MethodName) prog_1_method_27_code (1 : Nat) (Option.some Jvm.ClassFile.FieldType.boolean)) ∈ mm_gw := mm_gwI 344 (by decide +kernel) (by decide +kernel)
theorem mw_300 : (Jvm.Cond.methodLink "MosaicFloor" (81 : Nat) ({ cls := "MosaicFloor$Plan", name := "isBorder", desc := "(II)Z" } : Jvm.MethodName)) ∈ mm_gw := mm_gwI 345 (by decide +kernel) (by decide +kernel)
theorem mw_301 : (Jvm.Cond.instanceMethod ({ cls := "MosaicFloor$Plan", name := "isBorder", desc := "(II)Z" } : Jvm.MethodName)) ∈ mm_gw := mm_gwI 346 (by decide +kernel) (by decide +kernel)
theorem mw_303 : (Jvm.Cond.code ({ cls := "MosaicFloor$Plan", name := "isBorder", desc := "(II)Z" } : Jvm.MethodName) prog_3_method_6_code (3 : Nat) (Option.some Jvm.ClassFile.FieldType.boolean)) ∈ mm_gw := mm_gwI 348 (by decide +kernel) (by decide +kernel)
theorem mw_304 : (Jvm.Cond.methodLink "MosaicFloor" (84 : Nat) ({ cls := "MosaicFloor$State", name := "isLaid", desc := "(II)Z" } : Jvm.MethodName)) ∈ mm_gw := mm_gwI 349 (by decide +kernel) (by decide +kernel)
theorem mw_305 : (Jvm.Cond.instanceMethod ({ cls := "MosaicFloor$State", name := "isLaid", desc := "(II)Z" } : Jvm.MethodName)) ∈ mm_gw := mm_gwI 350 (by decide +kernel) (by decide +kernel)
theorem mw_307 : (Jvm.Cond.code ({ cls := "MosaicFloor$State", name := "isLaid", desc := "(II)Z" } : Jvm.MethodName) prog_4_method_5_code (3 : Nat) (Option.some Jvm.ClassFile.FieldType.boolean)) ∈ mm_gw := mm_gwI 352 (by decide +kernel) (by decide +kernel)
theorem mw_308 : (Jvm.Cond.methodLink "MosaicFloor$State" (56 : Nat) ({ cls := "MosaicFloor$State", name := "laidOrNone", desc := "(II)I" } : Jvm.MethodName)) ∈ mm_gw := mm_gwI 353 (by decide +kernel) (by decide +kernel)
theorem mw_309 : (Jvm.Cond.instanceMethod ({ cls := "MosaicFloor$State", name := "laidOrNone", desc := "(II)I" } : Jvm.MethodName)) ∈ mm_gw := mm_gwI 354 (by decide +kernel) (by decide +kernel)
theorem mw_311 : (Jvm.Cond.code ({ cls := "MosaicFloor$State", name := "laidOrNone", desc := "(II)I" } : Jvm.MethodName) prog_4_method_3_code (3 : Nat) (Option.some Jvm.ClassFile.FieldType.int)) ∈ mm_gw := mm_gwI 356 (by decide +kernel) (by decide +kernel)
theorem mw_312 : (Jvm.Cond.methodLink "MosaicFloor$State" (52 : Nat) ({ cls := "MosaicFloor$Plan", name := "hasCell", desc := "(II)Z" } : Jvm.MethodName)) ∈ mm_gw := mm_gwI 357 (by decide +kernel) (by decide +kernel)
theorem mw_313 : (Jvm.Cond.methodLink "MosaicFloor" (87 : Nat) ({ cls := "MosaicFloor$Plan", name := "wantedAt", desc := "(II)I" } : Jvm.MethodName)) ∈ mm_gw := mm_gwI 358 (by decide +kernel) (by decide +kernel)
theorem mw_314 : (Jvm.Cond.instanceMethod ({ cls := "MosaicFloor$Plan", name := "wantedAt", desc := "(II)I" } : Jvm.MethodName)) ∈ mm_gw := mm_gwI 359 (by decide +kernel) (by decide +kernel)
theorem mw_316 : (Jvm.Cond.code ({ cls := "MosaicFloor$Plan", name := "wantedAt", desc := "(II)I" } : Jvm.MethodName) prog_3_method_12_code (3 : Nat) (Option.some Jvm.ClassFile.FieldType.int)) ∈ mm_gw := mm_gwI 361 (by decide +kernel) (by decide +kernel)
theorem mw_317 : (Jvm.Cond.methodLink "MosaicFloor$Plan" (69 : Nat) ({ cls := "MosaicFloor$Plan", name := "hasCell", desc := "(II)Z" } : Jvm.MethodName)) ∈ mm_gw := mm_gwI 362 (by decide +kernel) (by decide +kernel)
theorem mw_318 : (Jvm.Cond.methodLink "MosaicFloor$Plan" (73 : Nat) ({ cls := "MosaicFloor$Plan", name := "isBorder", desc := "(II)Z" } : Jvm.MethodName)) ∈ mm_gw := mm_gwI 363 (by decide +kernel) (by decide +kernel)
theorem mw_319 : (Jvm.Cond.methodLink "MosaicFloor$Plan" (76 : Nat) ({ cls := "MosaicFloor$Plan", name := "borderNumberAt", desc := "(II)I" } : Jvm.MethodName)) ∈ mm_gw := mm_gwI 364 (by decide +kernel) (by decide +kernel)
theorem mw_320 : (Jvm.Cond.instanceMethod ({ cls := "MosaicFloor$Plan", name := "borderNumberAt", desc := "(II)I" } : Jvm.MethodName)) ∈ mm_gw := mm_gwI 365 (by decide +kernel) (by decide +kernel)
theorem mw_322 : (Jvm.Cond.code ({ cls := "MosaicFloor$Plan", name := "borderNumberAt", desc := "(II)I" } : Jvm.MethodName) prog_3_method_9_code (3 : Nat) (Option.some Jvm.ClassFile.FieldType.int)) ∈ mm_gw := mm_gwI 367 (by decide +kernel) (by decide +kernel)
theorem mw_323 : (Jvm.Cond.methodLink "MosaicFloor$Plan" (53 : Nat) ({ cls := "MosaicFloor$Plan", name := "halfOfBorder", desc := "()I" } : Jvm.MethodName)) ∈ mm_gw := mm_gwI 368 (by decide +kernel) (by decide +kernel)
theorem mw_325 : (Jvm.Cond.instanceMethod ({ cls := "MosaicFloor$Plan", name := "halfOfBorder", desc := "()I" } : Jvm.MethodName)) ∈ mm_gw := mm_gwI 370 (by decide +kernel) (by decide +kernel)
theorem mw_326 : (Jvm.Cond.code ({ cls := "MosaicFloor$Plan", name := "halfOfBorder", desc := "()I" } : Jvm.MethodName) prog_3_method_8_code (1 : Nat) (Option.some Jvm.ClassFile.FieldType.int)) ∈ mm_gw := mm_gwI 371 (by decide +kernel) (by decide +kernel)
theorem mw_327 : (Jvm.Cond.methodLink "MosaicFloor$Plan" (79 : Nat) ({ cls := "MosaicFloor$Plan", name := "wantedInBorder", desc := "(I)I" } : Jvm.MethodName)) ∈ mm_gw := mm_gwI 372 (by decide +kernel) (by decide +kernel)
theorem mw_329 : (Jvm.Cond.instanceMethod ({ cls := "MosaicFloor$Plan", name := "wantedInBorder", desc := "(I)I" } : Jvm.MethodName)) ∈ mm_gw := mm_gwI 374 (by decide +kernel) (by decide +kernel)
theorem mw_330 : (Jvm.Cond.code ({ cls := "MosaicFloor$Plan", name := "wantedInBorder", desc := "(I)I" } : Jvm.MethodName) prog_3_method_14_code (6 : Nat) (Option.some Jvm.ClassFile.FieldType.int)) ∈ mm_gw := mm_gwI 375 (by decide +kernel) (by decide +kernel)
theorem mw_331 : (Jvm.Cond.methodLink "MosaicFloor$Plan" (57 : Nat) ({ cls := "java/lang/Math", name := "min", desc := "(II)I" } : Jvm.MethodName)) ∈ mm_gw := mm_gwI 376 (by decide +kernel) (by decide +kernel)
theorem mw_332 : (Jvm.Cond.methodLink "MosaicFloor$Plan" (83 : Nat) ({ cls := "MosaicFloor$Plan", name := "patternShade", desc := "(I)I" } : Jvm.MethodName)) ∈ mm_gw := mm_gwI 377 (by decide +kernel) (by decide +kernel)
theorem mw_333 : (Jvm.Cond.instanceMethod ({ cls := "MosaicFloor$Plan", name := "patternShade", desc := "(I)I" } : Jvm.MethodName)) ∈ mm_gw := mm_gwI 378 (by decide +kernel) (by decide +kernel)
theorem mw_335 : (Jvm.Cond.code ({ cls := "MosaicFloor$Plan", name := "patternShade", desc := "(I)I" } : Jvm.MethodName) prog_3_method_16_code (3 : Nat) (Option.some Jvm.ClassFile.FieldType.int)) ∈ mm_gw := mm_gwI 380 (by decide +kernel) (by decide +kernel)
theorem mw_336 : (Jvm.Cond.methodLink "MosaicFloor$Plan" (86 : Nat) ({ cls := "MosaicFloor$Plan", name := "cellsOfWholePatterns", desc := "(I)I" } : Jvm.MethodName)) ∈ mm_gw := mm_gwI 381 (by decide +kernel) (by decide +kernel)
theorem mw_338 : (Jvm.Cond.instanceMethod ({ cls := "MosaicFloor$Plan", name := "cellsOfWholePatterns", desc := "(I)I" } : Jvm.MethodName)) ∈ mm_gw := mm_gwI 383 (by decide +kernel) (by decide +kernel)
theorem mw_339 : (Jvm.Cond.code ({ cls := "MosaicFloor$Plan", name := "cellsOfWholePatterns", desc := "(I)I" } : Jvm.MethodName) prog_3_method_15_code (2 : Nat) (Option.some Jvm.ClassFile.FieldType.int)) ∈ mm_gw := mm_gwI 384 (by decide +kernel) (by decide +kernel)
theorem mw_340 : (Jvm.Cond.methodLink "MosaicFloor" (91 : Nat) ({ cls := "MosaicFloor$Plan", name := "wantInField", desc := "(III)V" } : Jvm.MethodName)) ∈ mm_gw := mm_gwI 385 (by decide +kernel) (by decide +kernel)
theorem mw_341 : (Jvm.Cond.instanceMethod ({ cls := "MosaicFloor$Plan", name := "wantInField", desc := "(III)V" } : Jvm.MethodName)) ∈ mm_gw := mm_gwI 386 (by decide +kernel) (by decide +kernel)
theorem mw_343 : (Jvm.Cond.code ({ cls := "MosaicFloor$Plan", name := "wantInField", desc := "(III)V" } : Jvm.MethodName) prog_3_method_13_code (4 : Nat) (Option.none : Option Jvm.ClassFile.FieldType)) ∈ mm_gw := mm_gwI 388 (by decide +kernel) (by decide +kernel)
theorem mw_348 : (Jvm.Cond.methodLink "MosaicFloor" (95 : Nat) ({ cls := "MosaicFloor$State", name := "laidOrNone", desc := "(II)I" } : Jvm.MethodName)) ∈ mm_gw := mm_gwI 393 (by decide +kernel) (by decide +kernel)
theorem mw_349 : (Jvm.Cond.methodLink "MosaicFloor" (98 : Nat) ({ cls := "MosaicFloor$State", name := "differenceAt", desc := "(II)I" } : Jvm.MethodName)) ∈ mm_gw := mm_gwI 394 (by decide +kernel) (by decide +kernel)
theorem mw_350 : (Jvm.Cond.instanceMethod ({ cls := "MosaicFloor$State", name := "differenceAt", desc := "(II)I" } : Jvm.MethodName)) ∈ mm_gw := mm_gwI 395 (by decide +kernel) (by decide +kernel)
theorem mw_352 : (Jvm.Cond.code ({ cls := "MosaicFloor$State", name := "differenceAt", desc := "(II)I" } : Jvm.MethodName) prog_4_method_6_code (3 : Nat) (Option.some Jvm.ClassFile.FieldType.int)) ∈ mm_gw := mm_gwI 397 (by decide +kernel) (by decide +kernel)
theorem mw_353 : (Jvm.Cond.methodLink "MosaicFloor$State" (60 : Nat) ({ cls := "MosaicFloor$State", name := "isLaid", desc := "(II)Z" } : Jvm.MethodName)) ∈ mm_gw := mm_gwI 398 (by decide +kernel) (by decide +kernel)
theorem mw_354 : (Jvm.Cond.methodLink "MosaicFloor$State" (63 : Nat) ({ cls := "MosaicFloor$Plan", name := "wantedAt", desc := "(II)I" } : Jvm.MethodName)) ∈ mm_gw := mm_gwI 399 (by decide +kernel) (by decide +kernel)
theorem mw_355 : (Jvm.Cond.methodLink "MosaicFloor$State" (66 : Nat) ({ cls := "java/lang/Math", name := "abs", desc := "(I)I" } : Jvm.MethodName)) ∈ mm_gw := mm_gwI 400 (by decide +kernel) (by decide +kernel)
theorem mw_356 : (Jvm.Cond.static ({ cls := "java/lang/Math", name := "abs", desc := "(I)I" } : Jvm.MethodName)) ∈ mm_gw := mm_gwI 401 (by decide +kernel) (by decide +kernel)
theorem mw_358 : (Jvm.Cond.methodLink "MosaicFloor" (101 : Nat) ({ cls := "MosaicFloor$Plan", name := "borderNumberAt", desc := "(II)I" } : Jvm.MethodName)) ∈ mm_gw := mm_gwI 403 (by decide +kernel) (by decide +kernel)
theorem mw_363 : (Jvm.Cond.methodLink "MosaicFloor" (104 : Nat) ({ cls := "MosaicFloor", name := "countOfPlan", desc := "(I)I" } : Jvm.MethodName)) ∈ mm_gw := mm_gwI 408 (by decide +kernel) (by decide +kernel)
theorem mw_365 : (Jvm.Cond.instanceMethod ({ cls := "MosaicFloor", name := "countOfPlan", desc := "(I)I" } : Jvm.MethodName)) ∈ mm_gw := mm_gwI 410 (by decide +kernel) (by decide +kernel)
theorem mw_366 : (Jvm.Cond.code ({ cls := "MosaicFloor", name := "countOfPlan", desc := "(I)I" } : Jvm.MethodName) prog_1_method_30_code (2 : Nat) (Option.some Jvm.ClassFile.FieldType.int)) ∈ mm_gw := mm_gwI 411 (by decide +kernel) (by decide +kernel)
theorem mw_367 : (Jvm.Cond.methodLink "MosaicFloor" (226 : Nat) ({ cls := "MosaicFloor$Plan", name := "borderCells", desc := "()I" } : Jvm.MethodName)) ∈ mm_gw := mm_gwI 412 (by decide +kernel) (by decide +kernel)
theorem mw_368 : (Jvm.Cond.instanceMethod ({ cls := "MosaicFloor$Plan", name := "borderCells", desc := "()I" } : Jvm.MethodName)) ∈ mm_gw := mm_gwI 413 (by decide +kernel) (by decide +kernel)
theorem mw_370 : (Jvm.Cond.code ({ cls := "MosaicFloor$Plan", name := "borderCells", desc := "()I" } : Jvm.MethodName) prog_3_method_7_code (1 : Nat) (Option.some Jvm.ClassFile.FieldType.int)) ∈ mm_gw := mm_gwI 415 (by decide +kernel) (by decide +kernel)
theorem mw_371 : (Jvm.Cond.methodLink "MosaicFloor" (229 : Nat) ({ cls := "MosaicFloor$Plan", name := "borderMeets", desc := "()Z" } : Jvm.MethodName)) ∈ mm_gw := mm_gwI 416 (by decide +kernel) (by decide +kernel)
theorem mw_372 : (Jvm.Cond.instanceMethod ({ cls := "MosaicFloor$Plan", name := "borderMeets", desc := "()Z" } : Jvm.MethodName)) ∈ mm_gw := mm_gwI 417 (by decide +kernel) (by decide +kernel)
theorem mw_374 : (Jvm.Cond.code ({ cls := "MosaicFloor$Plan", name := "borderMeets", desc := "()Z" } : Jvm.MethodName) prog_3_method_17_code (4 : Nat) (Option.some Jvm.ClassFile.FieldType.boolean)) ∈ mm_gw := mm_gwI 419 (by decide +kernel) (by decide +kernel)
theorem mw_375 : (Jvm.Cond.methodLink "MosaicFloor$Plan" (89 : Nat) ({ cls := "MosaicFloor$Plan", name := "patternHasOneShade", desc := "()Z" } : Jvm.MethodName)) ∈ mm_gw := mm_gwI 420 (by decide +kernel) (by decide +kernel)
theorem mw_377 : (Jvm.Cond.instanceMethod ({ cls := "MosaicFloor$Plan", name := "patternHasOneShade", desc := "()Z" } : Jvm.MethodName)) ∈ mm_gw := mm_gwI 422 (by decide +kernel) (by decide +kernel)
theorem mw_378 : (Jvm.Cond.code ({ cls := "MosaicFloor$Plan", name := "patternHasOneShade", desc := "()Z" } : Jvm.MethodName) prog_3_method_18_code (2 : Nat) (Option.some Jvm.ClassFile.FieldType.boolean)) ∈ mm_gw := mm_gwI 423 (by decide +kernel) (by decide +kernel)
theorem mw_379 : (Jvm.Cond.methodLink "MosaicFloor$Plan" (66 : Nat) ({ cls := "MosaicFloor$Plan", name := "borderCells", desc := "()I" } : Jvm.MethodName)) ∈ mm_gw := mm_gwI 424 (by decide +kernel) (by decide +kernel)
theorem mw_380 : (Jvm.Cond.methodLink "MosaicFloor" (107 : Nat) ({ cls := "MosaicFloor", name := "countOfWork", desc := "(I)I" } : Jvm.MethodName)) ∈ mm_gw := mm_gwI 425 (by decide +kernel) (by decide +kernel)
theorem mw_382 : (Jvm.Cond.instanceMethod ({ cls := "MosaicFloor", name := "countOfWork", desc := "(I)I" } : Jvm.MethodName)) ∈ mm_gw := mm_gwI 427 (by decide +kernel) (by decide +kernel)
theorem mw_383 : (Jvm.Cond.code ({ cls := "MosaicFloor", name := "countOfWork", desc := "(I)I" } : Jvm.MethodName) prog_1_method_31_code (2 : Nat) (Option.some Jvm.ClassFile.FieldType.int)) ∈ mm_gw := mm_gwI 428 (by decide +kernel) (by decide +kernel)
theorem mw_384 : (Jvm.Cond.methodLink "MosaicFloor" (210 : Nat) ({ cls := "MosaicFloor$State", name := "sumOfDifferences", desc := "()I" } : Jvm.MethodName)) ∈ mm_gw := mm_gwI 429 (by decide +kernel) (by decide +kernel)
theorem mw_385 : (Jvm.Cond.instanceMethod ({ cls := "MosaicFloor$State", name := "sumOfDifferences", desc := "()I" } : Jvm.MethodName)) ∈ mm_gw := mm_gwI 430 (by decide +kernel) (by decide +kernel)
theorem mw_387 : (Jvm.Cond.code ({ cls := "MosaicFloor$State", name := "sumOfDifferences", desc := "()I" } : Jvm.MethodName) prog_4_method_8_code (4 : Nat) (Option.some Jvm.ClassFile.FieldType.int)) ∈ mm_gw := mm_gwI 432 (by decide +kernel) (by decide +kernel)
theorem mw_388 : (Jvm.Cond.methodLink "MosaicFloor$State" (78 : Nat) ({ cls := "MosaicFloor$State", name := "differenceAt", desc := "(II)I" } : Jvm.MethodName)) ∈ mm_gw := mm_gwI 433 (by decide +kernel) (by decide +kernel)
theorem mw_389 : (Jvm.Cond.methodLink "MosaicFloor" (233 : Nat) ({ cls := "MosaicFloor$State", name := "greatestDifference", desc := "()I" } : Jvm.MethodName)) ∈ mm_gw := mm_gwI 434 (by decide +kernel) (by decide +kernel)
theorem mw_390 : (Jvm.Cond.instanceMethod ({ cls := "MosaicFloor$State", name := "greatestDifference", desc := "()I" } : Jvm.MethodName)) ∈ mm_gw := mm_gwI 435 (by decide +kernel) (by decide +kernel)
theorem mw_392 : (Jvm.Cond.code ({ cls := "MosaicFloor$State", name := "greatestDifference", desc := "()I" } : Jvm.MethodName) prog_4_method_9_code (4 : Nat) (Option.some Jvm.ClassFile.FieldType.int)) ∈ mm_gw := mm_gwI 437 (by decide +kernel) (by decide +kernel)
theorem mw_393 : (Jvm.Cond.methodLink "MosaicFloor$State" (81 : Nat) ({ cls := "java/lang/Math", name := "max", desc := "(II)I" } : Jvm.MethodName)) ∈ mm_gw := mm_gwI 438 (by decide +kernel) (by decide +kernel)
theorem mw_394 : (Jvm.Cond.static ({ cls := "java/lang/Math", name := "max", desc := "(II)I" } : Jvm.MethodName)) ∈ mm_gw := mm_gwI 439 (by decide +kernel) (by decide +kernel)
theorem mw_396 : (Jvm.Cond.methodLink "MosaicFloor" (236 : Nat) ({ cls := "MosaicFloor$Stock", name := "tesseraeAtHand", desc := "()I" } : Jvm.MethodName)) ∈ mm_gw := mm_gwI 441 (by decide +kernel) (by decide +kernel)
theorem mw_397 : (Jvm.Cond.methodLink "MosaicFloor" (119 : Nat) ({ cls := "MosaicFloor$History", name := "states", desc := "()I" } : Jvm.MethodName)) ∈ mm_gw := mm_gwI 442 (by decide +kernel) (by decide +kernel)
theorem mw_398 : (Jvm.Cond.instanceMethod ({ cls := "MosaicFloor$History", name := "states", desc := "()I" } : Jvm.MethodName)) ∈ mm_gw := mm_gwI 443 (by decide +kernel) (by decide +kernel)
theorem mw_400 : (Jvm.Cond.code ({ cls := "MosaicFloor$History", name := "states", desc := "()I" } : Jvm.MethodName) prog_2_method_2_code (1 : Nat) (Option.some Jvm.ClassFile.FieldType.int)) ∈ mm_gw := mm_gwI 445 (by decide +kernel) (by decide +kernel)
theorem mw_401 : (Jvm.Cond.methodLink "MosaicFloor" (110 : Nat) ({ cls := "MosaicFloor", name := "account", desc := "(I)I" } : Jvm.MethodName)) ∈ mm_gw := mm_gwI 446 (by decide +kernel) (by decide +kernel)
theorem mw_403 : (Jvm.Cond.instanceMethod ({ cls := "MosaicFloor", name := "account", desc := "(I)I" } : Jvm.MethodName)) ∈ mm_gw := mm_gwI 448 (by decide +kernel) (by decide +kernel)
theorem mw_404 : (Jvm.Cond.code ({ cls := "MosaicFloor", name := "account", desc := "(I)I" } : Jvm.MethodName) prog_1_method_32_code (2 : Nat) (Option.some Jvm.ClassFile.FieldType.int)) ∈ mm_gw := mm_gwI 449 (by decide +kernel) (by decide +kernel)
theorem mw_405 : (Jvm.Cond.methodLink "MosaicFloor" (245 : Nat) ({ cls := "MosaicFloor$Stock", name := "lengthOfStrips", desc := "()I" } : Jvm.MethodName)) ∈ mm_gw := mm_gwI 450 (by decide +kernel) (by decide +kernel)
theorem mw_406 : (Jvm.Cond.instanceMethod ({ cls := "MosaicFloor$Stock", name := "lengthOfStrips", desc := "()I" } : Jvm.MethodName)) ∈ mm_gw := mm_gwI 451 (by decide +kernel) (by decide +kernel)
theorem mw_408 : (Jvm.Cond.code ({ cls := "MosaicFloor$Stock", name := "lengthOfStrips", desc := "()I" } : Jvm.MethodName) prog_5_method_5_code (6 : Nat) (Option.some Jvm.ClassFile.FieldType.int)) ∈ mm_gw := mm_gwI 453 (by decide +kernel) (by decide +kernel)
theorem mw_409 : (Jvm.Cond.methodLink "MosaicFloor" (248 : Nat) ({ cls := "MosaicFloor$Stock", name := "leftOfStrips", desc := "()I" } : Jvm.MethodName)) ∈ mm_gw := mm_gwI 454 (by decide +kernel) (by decide +kernel)
theorem mw_410 : (Jvm.Cond.instanceMethod ({ cls := "MosaicFloor$Stock", name := "leftOfStrips", desc := "()I" } : Jvm.MethodName)) ∈ mm_gw := mm_gwI 455 (by decide +kernel) (by decide +kernel)
theorem mw_412 : (Jvm.Cond.code ({ cls := "MosaicFloor$Stock", name := "leftOfStrips", desc := "()I" } : Jvm.MethodName) prog_5_method_6_code (6 : Nat) (Option.some Jvm.ClassFile.FieldType.int)) ∈ mm_gw := mm_gwI 457 (by decide +kernel) (by decide +kernel)
theorem mw_413 : (Jvm.Cond.methodLink "MosaicFloor$Stock" (61 : Nat) ({ cls := "MosaicFloor$Strip", name := "left", desc := "()I" } : Jvm.MethodName)) ∈ mm_gw := mm_gwI 458 (by decide +kernel) (by decide +kernel)
theorem mw_414 : (Jvm.Cond.instanceMethod ({ cls := "MosaicFloor$Strip", name := "left", desc := "()I" } : Jvm.MethodName)) ∈ mm_gw := mm_gwI 459 (by decide +kernel) (by decide +kernel)
theorem mw_416 : (Jvm.Cond.code ({ cls := "MosaicFloor$Strip", name := "left", desc := "()I" } : Jvm.MethodName) prog_6_method_4_code (1 : Nat) (Option.some Jvm.ClassFile.FieldType.int)) ∈ mm_gw := mm_gwI 461 (by decide +kernel) (by decide +kernel)
theorem mw_421 : (Jvm.Cond.methodLink "MosaicFloor" (116 : Nat) ({ cls := "MosaicFloor$Plan", name := "patternShade", desc := "(I)I" } : Jvm.MethodName)) ∈ mm_gw := mm_gwI 466 (by decide +kernel) (by decide +kernel)
theorem mw_426 : (Jvm.Cond.methodLink "MosaicFloor" (122 : Nat) ({ cls := "MosaicFloor$History", name := "restore", desc := "(LMosaicFloor$State;)V" } : Jvm.MethodName)) ∈ mm_gw := mm_gwI 471 (by decide +kernel) (by decide +kernel)
theorem mw_427 : (Jvm.Cond.instanceMethod ({ cls := "MosaicFloor$History", name := "restore", desc := "(LMosaicFloor$State;)V" } : Jvm.MethodName)) ∈ mm_gw := mm_gwI 472 (by decide +kernel) (by decide +kernel)
theorem mw_429 : (Jvm.Cond.code ({ cls := "MosaicFloor$History", name := "restore", desc := "(LMosaicFloor$State;)V" } : Jvm.MethodName) prog_2_method_5_code (2 : Nat) (Option.none : Option Jvm.ClassFile.FieldType)) ∈ mm_gw := mm_gwI 474 (by decide +kernel) (by decide +kernel)
theorem mw_434 : (Jvm.Cond.methodLink "MosaicFloor" (134 : Nat) ({ cls := "MosaicFloor$Stock", name := "addStrip", desc := "(II)I" } : Jvm.MethodName)) ∈ mm_gw := mm_gwI 479 (by decide +kernel) (by decide +kernel)
theorem mw_435 : (Jvm.Cond.instanceMethod ({ cls := "MosaicFloor$Stock", name := "addStrip", desc := "(II)I" } : Jvm.MethodName)) ∈ mm_gw := mm_gwI 480 (by decide +kernel) (by decide +kernel)
theorem mw_437 : (Jvm.Cond.code ({ cls := "MosaicFloor$Stock", name := "addStrip", desc := "(II)I" } : Jvm.MethodName) prog_5_method_3_code (4 : Nat) (Option.some Jvm.ClassFile.FieldType.int)) ∈ mm_gw := mm_gwI 482 (by decide +kernel) (by decide +kernel)
theorem mw_438 : (Jvm.Cond.methodLink "MosaicFloor$Stock" (54 : Nat) ({ cls := "MosaicFloor$Strip", name := "begin", desc := "(II)V" } : Jvm.MethodName)) ∈ mm_gw := mm_gwI 483 (by decide +kernel) (by decide +kernel)
theorem mw_439 : (Jvm.Cond.instanceMethod ({ cls := "MosaicFloor$Strip", name := "begin", desc := "(II)V" } : Jvm.MethodName)) ∈ mm_gw := mm_gwI 484 (by decide +kernel) (by decide +kernel)
theorem mw_441 : (Jvm.Cond.code ({ cls := "MosaicFloor$Strip", name := "begin", desc := "(II)V" } : Jvm.MethodName) prog_6_method_2_code (3 : Nat) (Option.none : Option Jvm.ClassFile.FieldType)) ∈ mm_gw := mm_gwI 486 (by decide +kernel) (by decide +kernel)
theorem mw_446 : (Jvm.Cond.methodLink "MosaicFloor" (137 : Nat) ({ cls := "MosaicFloor$Stock", name := "stripOrNull", desc := "(I)LMosaicFloor$Strip;" } : Jvm.MethodName)) ∈ mm_gw := mm_gwI 491 (by decide +kernel) (by decide +kernel)
theorem mw_447 : (Jvm.Cond.instanceMethod ({ cls := "MosaicFloor$Stock", name := "stripOrNull", desc := "(I)LMosaicFloor$Strip;" } : Jvm.MethodName)) ∈ mm_gw := mm_gwI 492 (by decide +kernel) (by decide +kernel)
theorem mw_449 : (Jvm.Cond.code ({ cls := "MosaicFloor$Stock", name := "stripOrNull", desc := "(I)LMosaicFloor$Strip;" } : Jvm.MethodName) prog_5_method_4_code (2 : Nat) (Option.some (Jvm.ClassFile.FieldType.object "MosaicFloor$Strip"))) ∈ mm_gw := mm_gwI 494 (by decide +kernel) (by decide +kernel)
theorem mw_450 : (Jvm.Cond.methodLink "MosaicFloor" (149 : Nat) ({ cls := "MosaicFloor$Strip", name := "hasFlawIn", desc := "(II)Z" } : Jvm.MethodName)) ∈ mm_gw := mm_gwI 495 (by decide +kernel) (by decide +kernel)
theorem mw_451 : (Jvm.Cond.instanceMethod ({ cls := "MosaicFloor$Strip", name := "hasFlawIn", desc := "(II)Z" } : Jvm.MethodName)) ∈ mm_gw := mm_gwI 496 (by decide +kernel) (by decide +kernel)
theorem mw_453 : (Jvm.Cond.code ({ cls := "MosaicFloor$Strip", name := "hasFlawIn", desc := "(II)Z" } : Jvm.MethodName) prog_6_method_6_code (4 : Nat) (Option.some Jvm.ClassFile.FieldType.boolean)) ∈ mm_gw := mm_gwI 498 (by decide +kernel) (by decide +kernel)
theorem mw_454 : (Jvm.Cond.methodLink "MosaicFloor" (155 : Nat) ({ cls := "MosaicFloor$Strip", name := "addFlaw", desc := "(I)V" } : Jvm.MethodName)) ∈ mm_gw := mm_gwI 499 (by decide +kernel) (by decide +kernel)
theorem mw_455 : (Jvm.Cond.instanceMethod ({ cls := "MosaicFloor$Strip", name := "addFlaw", desc := "(I)V" } : Jvm.MethodName)) ∈ mm_gw := mm_gwI 500 (by decide +kernel) (by decide +kernel)
theorem mw_457 : (Jvm.Cond.code ({ cls := "MosaicFloor$Strip", name := "addFlaw", desc := "(I)V" } : Jvm.MethodName) prog_6_method_5_code (2 : Nat) (Option.none : Option Jvm.ClassFile.FieldType)) ∈ mm_gw := mm_gwI 502 (by decide +kernel) (by decide +kernel)
theorem mw_462 : (Jvm.Cond.methodLink "MosaicFloor" (159 : Nat) ({ cls := "MosaicFloor$Strip", name := "left", desc := "()I" } : Jvm.MethodName)) ∈ mm_gw := mm_gwI 507 (by decide +kernel) (by decide +kernel)
theorem mw_463 : (Jvm.Cond.methodLink "MosaicFloor" (165 : Nat) ({ cls := "MosaicFloor$Stock", name := "cutFrom", desc := "(LMosaicFloor$Strip;)Z" } : Jvm.MethodName)) ∈ mm_gw := mm_gwI 508 (by decide +kernel) (by decide +kernel)
theorem mw_464 : (Jvm.Cond.instanceMethod ({ cls := "MosaicFloor$Stock", name := "cutFrom", desc := "(LMosaicFloor$Strip;)Z" } : Jvm.MethodName)) ∈ mm_gw := mm_gwI 509 (by decide +kernel) (by decide +kernel)
theorem mw_466 : (Jvm.Cond.code ({ cls := "MosaicFloor$Stock", name := "cutFrom", desc := "(LMosaicFloor$Strip;)Z" } : Jvm.MethodName) prog_5_method_18_code (4 : Nat) (Option.some Jvm.ClassFile.FieldType.boolean)) ∈ mm_gw := mm_gwI 511 (by decide +kernel) (by decide +kernel)
theorem mw_467 : (Jvm.Cond.methodLink "MosaicFloor$Stock" (116 : Nat) ({ cls := "MosaicFloor$Strip", name := "cutOff", desc := "(II)Z" } : Jvm.MethodName)) ∈ mm_gw := mm_gwI 512 (by decide +kernel) (by decide +kernel)
theorem mw_468 : (Jvm.Cond.instanceMethod ({ cls := "MosaicFloor$Strip", name := "cutOff", desc := "(II)Z" } : Jvm.MethodName)) ∈ mm_gw := mm_gwI 513 (by decide +kernel) (by decide +kernel)
theorem mw_470 : (Jvm.Cond.code ({ cls := "MosaicFloor$Strip", name := "cutOff", desc := "(II)Z" } : Jvm.MethodName) prog_6_method_10_code (4 : Nat) (Option.some Jvm.ClassFile.FieldType.boolean)) ∈ mm_gw := mm_gwI 515 (by decide +kernel) (by decide +kernel)
theorem mw_471 : (Jvm.Cond.methodLink "MosaicFloor$Strip" (41 : Nat) ({ cls := "MosaicFloor$Strip", name := "hasFlawIn", desc := "(II)Z" } : Jvm.MethodName)) ∈ mm_gw := mm_gwI 516 (by decide +kernel) (by decide +kernel)
theorem mw_472 : (Jvm.Cond.methodLink "MosaicFloor$Strip" (45 : Nat) ({ cls := "java/lang/Math", name := "min", desc := "(II)I" } : Jvm.MethodName)) ∈ mm_gw := mm_gwI 517 (by decide +kernel) (by decide +kernel)
theorem mw_473 : (Jvm.Cond.methodLink "MosaicFloor$Stock" (119 : Nat) ({ cls := "MosaicFloor$Stock", name := "putAtHand", desc := "(I)V" } : Jvm.MethodName)) ∈ mm_gw := mm_gwI 518 (by decide +kernel) (by decide +kernel)
theorem mw_474 : (Jvm.Cond.instanceMethod ({ cls := "MosaicFloor$Stock", name := "putAtHand", desc := "(I)V" } : Jvm.MethodName)) ∈ mm_gw := mm_gwI 519 (by decide +kernel) (by decide +kernel)
theorem mw_476 : (Jvm.Cond.code ({ cls := "MosaicFloor$Stock", name := "putAtHand", desc := "(I)V" } : Jvm.MethodName) prog_5_method_9_code (2 : Nat) (Option.none : Option Jvm.ClassFile.FieldType)) ∈ mm_gw := mm_gwI 521 (by decide +kernel) (by decide +kernel)
theorem mw_478 : (Jvm.Cond.methodLink "MosaicFloor$Stock" (123 : Nat) ({ cls := "MosaicFloor$Stock", name := "addBroken", desc := "()V" } : Jvm.MethodName)) ∈ mm_gw := mm_gwI 523 (by decide +kernel) (by decide +kernel)
theorem mw_479 : (Jvm.Cond.instanceMethod ({ cls := "MosaicFloor$Stock", name := "addBroken", desc := "()V" } : Jvm.MethodName)) ∈ mm_gw := mm_gwI 524 (by decide +kernel) (by decide +kernel)
theorem mw_481 : (Jvm.Cond.code ({ cls := "MosaicFloor$Stock", name := "addBroken", desc := "()V" } : Jvm.MethodName) prog_5_method_11_code (1 : Nat) (Option.none : Option Jvm.ClassFile.FieldType)) ∈ mm_gw := mm_gwI 526 (by decide +kernel) (by decide +kernel)
theorem mw_486 : (Jvm.Cond.methodLink "MosaicFloor" (175 : Nat) ({ cls := "MosaicFloor$Strip", name := "tesseraeAhead", desc := "(II)I" } : Jvm.MethodName)) ∈ mm_gw := mm_gwI 531 (by decide +kernel) (by decide +kernel)
theorem mw_487 : (Jvm.Cond.instanceMethod ({ cls := "MosaicFloor$Strip", name := "tesseraeAhead", desc := "(II)I" } : Jvm.MethodName)) ∈ mm_gw := mm_gwI 532 (by decide +kernel) (by decide +kernel)
theorem mw_489 : (Jvm.Cond.code ({ cls := "MosaicFloor$Strip", name := "tesseraeAhead", desc := "(II)I" } : Jvm.MethodName) prog_6_method_7_code (5 : Nat) (Option.some Jvm.ClassFile.FieldType.int)) ∈ mm_gw := mm_gwI 534 (by decide +kernel) (by decide +kernel)
theorem mw_490 : (Jvm.Cond.methodLink "MosaicFloor" (178 : Nat) ({ cls := "MosaicFloor$Strip", name := "goodTesseraeAhead", desc := "(II)I" } : Jvm.MethodName)) ∈ mm_gw := mm_gwI 535 (by decide +kernel) (by decide +kernel)
theorem mw_491 : (Jvm.Cond.instanceMethod ({ cls := "MosaicFloor$Strip", name := "goodTesseraeAhead", desc := "(II)I" } : Jvm.MethodName)) ∈ mm_gw := mm_gwI 536 (by decide +kernel) (by decide +kernel)
theorem mw_493 : (Jvm.Cond.code ({ cls := "MosaicFloor$Strip", name := "goodTesseraeAhead", desc := "(II)I" } : Jvm.MethodName) prog_6_method_8_code (7 : Nat) (Option.some Jvm.ClassFile.FieldType.int)) ∈ mm_gw := mm_gwI 538 (by decide +kernel) (by decide +kernel)
theorem mw_494 : (Jvm.Cond.methodLink "MosaicFloor$Strip" (37 : Nat) ({ cls := "MosaicFloor$Strip", name := "tesseraeAhead", desc := "(II)I" } : Jvm.MethodName)) ∈ mm_gw := mm_gwI 539 (by decide +kernel) (by decide +kernel)
theorem mw_499 : (Jvm.Cond.methodLink "MosaicFloor" (184 : Nat) ({ cls := "MosaicFloor$State", name := "shadeForOrNone", desc := "(II)I" } : Jvm.MethodName)) ∈ mm_gw := mm_gwI 544 (by decide +kernel) (by decide +kernel)
theorem mw_500 : (Jvm.Cond.instanceMethod ({ cls := "MosaicFloor$State", name := "shadeForOrNone", desc := "(II)I" } : Jvm.MethodName)) ∈ mm_gw := mm_gwI 545 (by decide +kernel) (by decide +kernel)
theorem mw_502 : (Jvm.Cond.code ({ cls := "MosaicFloor$State", name := "shadeForOrNone", desc := "(II)I" } : Jvm.MethodName) prog_4_method_10_code (3 : Nat) (Option.some Jvm.ClassFile.FieldType.int)) ∈ mm_gw := mm_gwI 547 (by decide +kernel) (by decide +kernel)
theorem mw_503 : (Jvm.Cond.methodLink "MosaicFloor$State" (84 : Nat) ({ cls := "MosaicFloor$Stock", name := "nearestShadeOrNone", desc := "(I)I" } : Jvm.MethodName)) ∈ mm_gw := mm_gwI 548 (by decide +kernel) (by decide +kernel)
theorem mw_504 : (Jvm.Cond.instanceMethod ({ cls := "MosaicFloor$Stock", name := "nearestShadeOrNone", desc := "(I)I" } : Jvm.MethodName)) ∈ mm_gw := mm_gwI 549 (by decide +kernel) (by decide +kernel)
theorem mw_506 : (Jvm.Cond.code ({ cls := "MosaicFloor$Stock", name := "nearestShadeOrNone", desc := "(I)I" } : Jvm.MethodName) prog_5_method_14_code (7 : Nat) (Option.some Jvm.ClassFile.FieldType.int)) ∈ mm_gw := mm_gwI 551 (by decide +kernel) (by decide +kernel)
theorem mw_507 : (Jvm.Cond.methodLink "MosaicFloor$Stock" (89 : Nat) ({ cls := "MosaicFloor$Stock", name := "nearer", desc := "(III)I" } : Jvm.MethodName)) ∈ mm_gw := mm_gwI 552 (by decide +kernel) (by decide +kernel)
theorem mw_508 : (Jvm.Cond.static ({ cls := "MosaicFloor$Stock", name := "nearer", desc := "(III)I" } : Jvm.MethodName)) ∈ mm_gw := mm_gwI 553 (by decide +kernel) (by decide +kernel)
theorem mw_509 : (Jvm.Cond.code ({ cls := "MosaicFloor$Stock", name := "nearer", desc := "(III)I" } : Jvm.MethodName) prog_5_method_15_code (5 : Nat) (Option.some Jvm.ClassFile.FieldType.int)) ∈ mm_gw := mm_gwI 554 (by decide +kernel) (by decide +kernel)
theorem mw_510 : (Jvm.Cond.methodLink "MosaicFloor$Stock" (97 : Nat) ({ cls := "java/lang/Math", name := "abs", desc := "(I)I" } : Jvm.MethodName)) ∈ mm_gw := mm_gwI 555 (by decide +kernel) (by decide +kernel)
theorem mw_511 : (Jvm.Cond.methodLink "MosaicFloor$Stock" (102 : Nat) ({ cls := "java/lang/Math", name := "min", desc := "(II)I" } : Jvm.MethodName)) ∈ mm_gw := mm_gwI 556 (by decide +kernel) (by decide +kernel)
theorem mw_512 : (Jvm.Cond.methodLink "MosaicFloor$Stock" (93 : Nat) ({ cls := "MosaicFloor$Strip", name := "givesGood", desc := "(II)Z" } : Jvm.MethodName)) ∈ mm_gw := mm_gwI 557 (by decide +kernel) (by decide +kernel)
theorem mw_513 : (Jvm.Cond.instanceMethod ({ cls := "MosaicFloor$Strip", name := "givesGood", desc := "(II)Z" } : Jvm.MethodName)) ∈ mm_gw := mm_gwI 558 (by decide +kernel) (by decide +kernel)
theorem mw_515 : (Jvm.Cond.code ({ cls := "MosaicFloor$Strip", name := "givesGood", desc := "(II)Z" } : Jvm.MethodName) prog_6_method_9_code (6 : Nat) (Option.some Jvm.ClassFile.FieldType.boolean)) ∈ mm_gw := mm_gwI 560 (by decide +kernel) (by decide +kernel)
theorem mw_516 : (Jvm.Cond.methodLink "MosaicFloor" (187 : Nat) ({ cls := "MosaicFloor$State", name := "layCellIfPossible", desc := "(II)V" } : Jvm.MethodName)) ∈ mm_gw := mm_gwI 561 (by decide +kernel) (by decide +kernel)
theorem mw_517 : (Jvm.Cond.instanceMethod ({ cls := "MosaicFloor$State", name := "layCellIfPossible", desc := "(II)V" } : Jvm.MethodName)) ∈ mm_gw := mm_gwI 562 (by decide +kernel) (by decide +kernel)
theorem mw_519 : (Jvm.Cond.code ({ cls := "MosaicFloor$State", name := "layCellIfPossible", desc := "(II)V" } : Jvm.MethodName) prog_4_method_11_code (4 : Nat) (Option.none : Option Jvm.ClassFile.FieldType)) ∈ mm_gw := mm_gwI 564 (by decide +kernel) (by decide +kernel)
theorem mw_520 : (Jvm.Cond.methodLink "MosaicFloor$State" (87 : Nat) ({ cls := "MosaicFloor$State", name := "shadeForOrNone", desc := "(II)I" } : Jvm.MethodName)) ∈ mm_gw := mm_gwI 565 (by decide +kernel) (by decide +kernel)
theorem mw_521 : (Jvm.Cond.methodLink "MosaicFloor$State" (90 : Nat) ({ cls := "MosaicFloor$Stock", name := "bringToHand", desc := "(I)V" } : Jvm.MethodName)) ∈ mm_gw := mm_gwI 566 (by decide +kernel) (by decide +kernel)
theorem mw_522 : (Jvm.Cond.instanceMethod ({ cls := "MosaicFloor$Stock", name := "bringToHand", desc := "(I)V" } : Jvm.MethodName)) ∈ mm_gw := mm_gwI 567 (by decide +kernel) (by decide +kernel)
theorem mw_524 : (Jvm.Cond.code ({ cls := "MosaicFloor$Stock", name := "bringToHand", desc := "(I)V" } : Jvm.MethodName) prog_5_method_16_code (5 : Nat) (Option.none : Option Jvm.ClassFile.FieldType)) ∈ mm_gw := mm_gwI 569 (by decide +kernel) (by decide +kernel)
theorem mw_525 : (Jvm.Cond.methodLink "MosaicFloor$Stock" (69 : Nat) ({ cls := "MosaicFloor$Stock", name := "atHandOf", desc := "(I)I" } : Jvm.MethodName)) ∈ mm_gw := mm_gwI 570 (by decide +kernel) (by decide +kernel)
theorem mw_527 : (Jvm.Cond.instanceMethod ({ cls := "MosaicFloor$Stock", name := "atHandOf", desc := "(I)I" } : Jvm.MethodName)) ∈ mm_gw := mm_gwI 572 (by decide +kernel) (by decide +kernel)
theorem mw_528 : (Jvm.Cond.code ({ cls := "MosaicFloor$Stock", name := "atHandOf", desc := "(I)I" } : Jvm.MethodName) prog_5_method_8_code (2 : Nat) (Option.some Jvm.ClassFile.FieldType.int)) ∈ mm_gw := mm_gwI 573 (by decide +kernel) (by decide +kernel)
theorem mw_529 : (Jvm.Cond.methodLink "MosaicFloor$Stock" (105 : Nat) ({ cls := "MosaicFloor$Stock", name := "firstStripGivingOrNull", desc := "(I)LMosaicFloor$Strip;" } : Jvm.MethodName)) ∈ mm_gw := mm_gwI 574 (by decide +kernel) (by decide +kernel)
theorem mw_531 : (Jvm.Cond.instanceMethod ({ cls := "MosaicFloor$Stock", name := "firstStripGivingOrNull", desc := "(I)LMosaicFloor$Strip;" } : Jvm.MethodName)) ∈ mm_gw := mm_gwI 576 (by decide +kernel) (by decide +kernel)
theorem mw_532 : (Jvm.Cond.code ({ cls := "MosaicFloor$Stock", name := "firstStripGivingOrNull", desc := "(I)LMosaicFloor$Strip;" } : Jvm.MethodName) prog_5_method_17_code (6 : Nat) (Option.some (Jvm.ClassFile.FieldType.object "MosaicFloor$Strip"))) ∈ mm_gw := mm_gwI 577 (by decide +kernel) (by decide +kernel)
theorem mw_533 : (Jvm.Cond.methodLink "MosaicFloor$Stock" (109 : Nat) ({ cls := "MosaicFloor$Strip", name := "tesseraeAhead", desc := "(II)I" } : Jvm.MethodName)) ∈ mm_gw := mm_gwI 578 (by decide +kernel) (by decide +kernel)
theorem mw_534 : (Jvm.Cond.methodLink "MosaicFloor$Stock" (112 : Nat) ({ cls := "MosaicFloor$Stock", name := "cutFrom", desc := "(LMosaicFloor$Strip;)Z" } : Jvm.MethodName)) ∈ mm_gw := mm_gwI 579 (by decide +kernel) (by decide +kernel)
theorem mw_535 : (Jvm.Cond.methodLink "MosaicFloor$State" (94 : Nat) ({ cls := "MosaicFloor$Stock", name := "takeFromHand", desc := "(I)V" } : Jvm.MethodName)) ∈ mm_gw := mm_gwI 580 (by decide +kernel) (by decide +kernel)
theorem mw_536 : (Jvm.Cond.instanceMethod ({ cls := "MosaicFloor$Stock", name := "takeFromHand", desc := "(I)V" } : Jvm.MethodName)) ∈ mm_gw := mm_gwI 581 (by decide +kernel) (by decide +kernel)
theorem mw_538 : (Jvm.Cond.code ({ cls := "MosaicFloor$Stock", name := "takeFromHand", desc := "(I)V" } : Jvm.MethodName) prog_5_method_10_code (2 : Nat) (Option.none : Option Jvm.ClassFile.FieldType)) ∈ mm_gw := mm_gwI 583 (by decide +kernel) (by decide +kernel)
theorem mw_539 : (Jvm.Cond.methodLink "MosaicFloor$State" (97 : Nat) ({ cls := "MosaicFloor$State", name := "putAt", desc := "(III)V" } : Jvm.MethodName)) ∈ mm_gw := mm_gwI 584 (by decide +kernel) (by decide +kernel)
theorem mw_541 : (Jvm.Cond.instanceMethod ({ cls := "MosaicFloor$State", name := "putAt", desc := "(III)V" } : Jvm.MethodName)) ∈ mm_gw := mm_gwI 586 (by decide +kernel) (by decide +kernel)
theorem mw_542 : (Jvm.Cond.code ({ cls := "MosaicFloor$State", name := "putAt", desc := "(III)V" } : Jvm.MethodName) prog_4_method_4_code (4 : Nat) (Option.none : Option Jvm.ClassFile.FieldType)) ∈ mm_gw := mm_gwI 587 (by decide +kernel) (by decide +kernel)
theorem mw_547 : (Jvm.Cond.methodLink "MosaicFloor" (190 : Nat) ({ cls := "MosaicFloor$State", name := "layEmptyCells", desc := "()I" } : Jvm.MethodName)) ∈ mm_gw := mm_gwI 592 (by decide +kernel) (by decide +kernel)
theorem mw_548 : (Jvm.Cond.instanceMethod ({ cls := "MosaicFloor$State", name := "layEmptyCells", desc := "()I" } : Jvm.MethodName)) ∈ mm_gw := mm_gwI 593 (by decide +kernel) (by decide +kernel)
theorem mw_550 : (Jvm.Cond.code ({ cls := "MosaicFloor$State", name := "layEmptyCells", desc := "()I" } : Jvm.MethodName) prog_4_method_12_code (4 : Nat) (Option.some Jvm.ClassFile.FieldType.int)) ∈ mm_gw := mm_gwI 595 (by decide +kernel) (by decide +kernel)
theorem mw_551 : (Jvm.Cond.methodLink "MosaicFloor$State" (101 : Nat) ({ cls := "MosaicFloor$State", name := "laidCells", desc := "()I" } : Jvm.MethodName)) ∈ mm_gw := mm_gwI 596 (by decide +kernel) (by decide +kernel)
theorem mw_552 : (Jvm.Cond.methodLink "MosaicFloor$State" (105 : Nat) ({ cls := "MosaicFloor$Plan", name := "borderCells", desc := "()I" } : Jvm.MethodName)) ∈ mm_gw := mm_gwI 597 (by decide +kernel) (by decide +kernel)
theorem mw_553 : (Jvm.Cond.methodLink "MosaicFloor$State" (108 : Nat) ({ cls := "MosaicFloor$Plan", name := "columnOf", desc := "(I)I" } : Jvm.MethodName)) ∈ mm_gw := mm_gwI 598 (by decide +kernel) (by decide +kernel)
theorem mw_554 : (Jvm.Cond.instanceMethod ({ cls := "MosaicFloor$Plan", name := "columnOf", desc := "(I)I" } : Jvm.MethodName)) ∈ mm_gw := mm_gwI 599 (by decide +kernel) (by decide +kernel)
theorem mw_556 : (Jvm.Cond.code ({ cls := "MosaicFloor$Plan", name := "columnOf", desc := "(I)I" } : Jvm.MethodName) prog_3_method_10_code (2 : Nat) (Option.some Jvm.ClassFile.FieldType.int)) ∈ mm_gw := mm_gwI 601 (by decide +kernel) (by decide +kernel)
theorem mw_557 : (Jvm.Cond.methodLink "MosaicFloor$Plan" (63 : Nat) ({ cls := "java/lang/Math", name := "max", desc := "(II)I" } : Jvm.MethodName)) ∈ mm_gw := mm_gwI 602 (by decide +kernel) (by decide +kernel)
theorem mw_558 : (Jvm.Cond.methodLink "MosaicFloor$State" (111 : Nat) ({ cls := "MosaicFloor$Plan", name := "rowOf", desc := "(I)I" } : Jvm.MethodName)) ∈ mm_gw := mm_gwI 603 (by decide +kernel) (by decide +kernel)
theorem mw_559 : (Jvm.Cond.instanceMethod ({ cls := "MosaicFloor$Plan", name := "rowOf", desc := "(I)I" } : Jvm.MethodName)) ∈ mm_gw := mm_gwI 604 (by decide +kernel) (by decide +kernel)
theorem mw_561 : (Jvm.Cond.code ({ cls := "MosaicFloor$Plan", name := "rowOf", desc := "(I)I" } : Jvm.MethodName) prog_3_method_11_code (2 : Nat) (Option.some Jvm.ClassFile.FieldType.int)) ∈ mm_gw := mm_gwI 606 (by decide +kernel) (by decide +kernel)
theorem mw_562 : (Jvm.Cond.methodLink "MosaicFloor$State" (114 : Nat) ({ cls := "MosaicFloor$State", name := "layCellIfPossible", desc := "(II)V" } : Jvm.MethodName)) ∈ mm_gw := mm_gwI 607 (by decide +kernel) (by decide +kernel)
theorem mw_567 : (Jvm.Cond.methodLink "MosaicFloor" (193 : Nat) ({ cls := "MosaicFloor$State", name := "liftToHand", desc := "(II)Z" } : Jvm.MethodName)) ∈ mm_gw := mm_gwI 612 (by decide +kernel) (by decide +kernel)
theorem mw_568 : (Jvm.Cond.instanceMethod ({ cls := "MosaicFloor$State", name := "liftToHand", desc := "(II)Z" } : Jvm.MethodName)) ∈ mm_gw := mm_gwI 613 (by decide +kernel) (by decide +kernel)
theorem mw_570 : (Jvm.Cond.code ({ cls := "MosaicFloor$State", name := "liftToHand", desc := "(II)Z" } : Jvm.MethodName) prog_4_method_13_code (4 : Nat) (Option.some Jvm.ClassFile.FieldType.boolean)) ∈ mm_gw := mm_gwI 615 (by decide +kernel) (by decide +kernel)
theorem mw_571 : (Jvm.Cond.methodLink "MosaicFloor$State" (118 : Nat) ({ cls := "MosaicFloor$Stock", name := "addBroken", desc := "()V" } : Jvm.MethodName)) ∈ mm_gw := mm_gwI 616 (by decide +kernel) (by decide +kernel)
theorem mw_572 : (Jvm.Cond.methodLink "MosaicFloor$State" (121 : Nat) ({ cls := "MosaicFloor$Stock", name := "putAtHand", desc := "(I)V" } : Jvm.MethodName)) ∈ mm_gw := mm_gwI 617 (by decide +kernel) (by decide +kernel)
theorem mw_581 : (Jvm.Cond.methodLink "MosaicFloor" (196 : Nat) ({ cls := "MosaicFloor$Stock", name := "readyOf", desc := "(I)I" } : Jvm.MethodName)) ∈ mm_gw := mm_gwI 626 (by decide +kernel) (by decide +kernel)
theorem mw_582 : (Jvm.Cond.instanceMethod ({ cls := "MosaicFloor$Stock", name := "readyOf", desc := "(I)I" } : Jvm.MethodName)) ∈ mm_gw := mm_gwI 627 (by decide +kernel) (by decide +kernel)
theorem mw_584 : (Jvm.Cond.code ({ cls := "MosaicFloor$Stock", name := "readyOf", desc := "(I)I" } : Jvm.MethodName) prog_5_method_13_code (7 : Nat) (Option.some Jvm.ClassFile.FieldType.int)) ∈ mm_gw := mm_gwI 629 (by decide +kernel) (by decide +kernel)
theorem mw_585 : (Jvm.Cond.methodLink "MosaicFloor$Stock" (85 : Nat) ({ cls := "MosaicFloor$Strip", name := "goodTesseraeAhead", desc := "(II)I" } : Jvm.MethodName)) ∈ mm_gw := mm_gwI 630 (by decide +kernel) (by decide +kernel)
theorem mw_590 : (Jvm.Cond.methodLink "MosaicFloor" (199 : Nat) ({ cls := "MosaicFloor$State", name := "lackOf", desc := "(I)I" } : Jvm.MethodName)) ∈ mm_gw := mm_gwI 635 (by decide +kernel) (by decide +kernel)
theorem mw_591 : (Jvm.Cond.instanceMethod ({ cls := "MosaicFloor$State", name := "lackOf", desc := "(I)I" } : Jvm.MethodName)) ∈ mm_gw := mm_gwI 636 (by decide +kernel) (by decide +kernel)
theorem mw_593 : (Jvm.Cond.code ({ cls := "MosaicFloor$State", name := "lackOf", desc := "(I)I" } : Jvm.MethodName) prog_4_method_14_code (5 : Nat) (Option.some Jvm.ClassFile.FieldType.int)) ∈ mm_gw := mm_gwI 638 (by decide +kernel) (by decide +kernel)
theorem mw_594 : (Jvm.Cond.methodLink "MosaicFloor$State" (124 : Nat) ({ cls := "MosaicFloor$Stock", name := "readyOf", desc := "(I)I" } : Jvm.MethodName)) ∈ mm_gw := mm_gwI 639 (by decide +kernel) (by decide +kernel)
theorem mw_599 : (Jvm.Cond.methodLink "MosaicFloor" (202 : Nat) ({ cls := "java/lang/Math", name := "max", desc := "(II)I" } : Jvm.MethodName)) ∈ mm_gw := mm_gwI 644 (by decide +kernel) (by decide +kernel)
theorem mw_604 : (Jvm.Cond.methodLink "MosaicFloor" (207 : Nat) ({ cls := "MosaicFloor$State", name := "copyFrom", desc := "(LMosaicFloor$State;)V" } : Jvm.MethodName)) ∈ mm_gw := mm_gwI 649 (by decide +kernel) (by decide +kernel)
theorem mw_609 : (Jvm.Cond.methodLink "MosaicFloor" (214 : Nat) ({ cls := "MosaicFloor$Text", name := "append", desc := "(I)V" } : Jvm.MethodName)) ∈ mm_gw := mm_gwI 654 (by decide +kernel) (by decide +kernel)
theorem mw_610 : (Jvm.Cond.instanceMethod ({ cls := "MosaicFloor$Text", name := "append", desc := "(I)V" } : Jvm.MethodName)) ∈ mm_gw := mm_gwI 655 (by decide +kernel) (by decide +kernel)
theorem mw_612 : (Jvm.Cond.code ({ cls := "MosaicFloor$Text", name := "append", desc := "(I)V" } : Jvm.MethodName) prog_7_method_2_code (2 : Nat) (Option.none : Option Jvm.ClassFile.FieldType)) ∈ mm_gw := mm_gwI 657 (by decide +kernel) (by decide +kernel)
theorem mw_626 : (Jvm.Cond.methodLink "MosaicFloorModel" (1 : Nat) ({ cls := "java/lang/Object", name := "<init>", desc := "()V" } : Jvm.MethodName)) ∈ mm_gw := mm_gwI 671 (by decide +kernel) (by decide +kernel)
theorem mw_627 : (Jvm.Cond.methodLink "MosaicFloorModel" (25 : Nat) ({ cls := "MosaicFloorModel", name := "beginWith", desc := "(II)V" } : Jvm.MethodName)) ∈ mm_gw := mm_gwI 672 (by decide +kernel) (by decide +kernel)
theorem mw_629 : (Jvm.Cond.instanceMethod ({ cls := "MosaicFloorModel", name := "beginWith", desc := "(II)V" } : Jvm.MethodName)) ∈ mm_gw := mm_gwI 674 (by decide +kernel) (by decide +kernel)
theorem mw_630 : (Jvm.Cond.code ({ cls := "MosaicFloorModel", name := "beginWith", desc := "(II)V" } : Jvm.MethodName) prog_9_method_7_code (4 : Nat) (Option.none : Option Jvm.ClassFile.FieldType)) ∈ mm_gw := mm_gwI 675 (by decide +kernel) (by decide +kernel)
theorem mw_631 : (Jvm.Cond.fieldLink "MosaicFloorModel" (7 : Nat) "MosaicFloorModel" "m" "[I") ∈ mm_gw := mm_gwI 676 (by decide +kernel) (by decide +kernel)
theorem mw_632 : (Jvm.Cond.fieldLink "MosaicFloorModel" (13 : Nat) "MosaicFloorModel" "spare" "[I") ∈ mm_gw := mm_gwI 677 (by decide +kernel) (by decide +kernel)
theorem mw_633 : (Jvm.Cond.fieldLink "MosaicFloorModel" (16 : Nat) "MosaicFloorModel" "saved" "[I") ∈ mm_gw := mm_gwI 678 (by decide +kernel) (by decide +kernel)
theorem mw_634 : (Jvm.Cond.fieldLink "MosaicFloorModel" (29 : Nat) "MosaicFloorModel" "savedCount" "I") ∈ mm_gw := mm_gwI 679 (by decide +kernel) (by decide +kernel)
theorem mw_635 : (Jvm.Cond.fieldLink "MosaicFloorModel" (19 : Nat) "MosaicFloorModel" "text" "[I") ∈ mm_gw := mm_gwI 680 (by decide +kernel) (by decide +kernel)
theorem mw_636 : (Jvm.Cond.fieldLink "MosaicFloorModel" (99 : Nat) "MosaicFloorModel" "textLength" "I") ∈ mm_gw := mm_gwI 681 (by decide +kernel) (by decide +kernel)
theorem mw_637 : (Jvm.Cond.fieldLink "MosaicFloorModel" (22 : Nat) "MosaicFloorModel" "read" "[I") ∈ mm_gw := mm_gwI 682 (by decide +kernel) (by decide +kernel)
theorem mw_638 : (Jvm.Cond.fieldLink "MosaicFloorModel" (150 : Nat) "MosaicFloorModel" "readCount" "I") ∈ mm_gw := mm_gwI 683 (by decide +kernel) (by decide +kernel)
theorem mw_660 : (Jvm.Cond.methodLink "MosaicFloorModel" (37 : Nat) ({ cls := "MosaicFloorModel", name := "in", desc := "(III)Z" } : Jvm.MethodName)) ∈ mm_gw := mm_gwI 705 (by decide +kernel) (by decide +kernel)
theorem mw_661 : (Jvm.Cond.static ({ cls := "MosaicFloorModel", name := "in", desc := "(III)Z" } : Jvm.MethodName)) ∈ mm_gw := mm_gwI 706 (by decide +kernel) (by decide +kernel)
theorem mw_662 : (Jvm.Cond.code ({ cls := "MosaicFloorModel", name := "in", desc := "(III)Z" } : Jvm.MethodName) prog_9_method_2_code (3 : Nat) (Option.some Jvm.ClassFile.FieldType.boolean)) ∈ mm_gw := mm_gwI 707 (by decide +kernel) (by decide +kernel)
theorem mw_663 : (Jvm.Cond.methodLink "MosaicFloorModel" (59 : Nat) ({ cls := "MosaicFloorModel", name := "laidCells", desc := "()I" } : Jvm.MethodName)) ∈ mm_gw := mm_gwI 708 (by decide +kernel) (by decide +kernel)
theorem mw_665 : (Jvm.Cond.instanceMethod ({ cls := "MosaicFloorModel", name := "laidCells", desc := "()I" } : Jvm.MethodName)) ∈ mm_gw := mm_gwI 710 (by decide +kernel) (by decide +kernel)
theorem mw_666 : (Jvm.Cond.code ({ cls := "MosaicFloorModel", name := "laidCells", desc := "()I" } : Jvm.MethodName) prog_9_method_10_code (3 : Nat) (Option.some Jvm.ClassFile.FieldType.int)) ∈ mm_gw := mm_gwI 711 (by decide +kernel) (by decide +kernel)
theorem mw_667 : (Jvm.Cond.methodLink "MosaicFloorModel" (41 : Nat) ({ cls := "MosaicFloorModel", name := "cells", desc := "()I" } : Jvm.MethodName)) ∈ mm_gw := mm_gwI 712 (by decide +kernel) (by decide +kernel)
theorem mw_669 : (Jvm.Cond.instanceMethod ({ cls := "MosaicFloorModel", name := "cells", desc := "()I" } : Jvm.MethodName)) ∈ mm_gw := mm_gwI 714 (by decide +kernel) (by decide +kernel)
theorem mw_670 : (Jvm.Cond.code ({ cls := "MosaicFloorModel", name := "cells", desc := "()I" } : Jvm.MethodName) prog_9_method_9_code (1 : Nat) (Option.some Jvm.ClassFile.FieldType.int)) ∈ mm_gw := mm_gwI 715 (by decide +kernel) (by decide +kernel)
theorem mw_671 : (Jvm.Cond.methodLink "MosaicFloorModel" (62 : Nat) ({ cls := "MosaicFloorModel", name := "keep", desc := "()V" } : Jvm.MethodName)) ∈ mm_gw := mm_gwI 716 (by decide +kernel) (by decide +kernel)
theorem mw_673 : (Jvm.Cond.instanceMethod ({ cls := "MosaicFloorModel", name := "keep", desc := "()V" } : Jvm.MethodName)) ∈ mm_gw := mm_gwI 718 (by decide +kernel) (by decide +kernel)
theorem mw_674 : (Jvm.Cond.code ({ cls := "MosaicFloorModel", name := "keep", desc := "()V" } : Jvm.MethodName) prog_9_method_6_code (2 : Nat) (Option.none : Option Jvm.ClassFile.FieldType)) ∈ mm_gw := mm_gwI 719 (by decide +kernel) (by decide +kernel)
theorem mw_675 : (Jvm.Cond.methodLink "MosaicFloorModel" (33 : Nat) ({ cls := "MosaicFloorModel", name := "bring", desc := "([II[II)V" } : Jvm.MethodName)) ∈ mm_gw := mm_gwI 720 (by decide +kernel) (by decide +kernel)
theorem mw_676 : (Jvm.Cond.static ({ cls := "MosaicFloorModel", name := "bring", desc := "([II[II)V" } : Jvm.MethodName)) ∈ mm_gw := mm_gwI 721 (by decide +kernel) (by decide +kernel)
theorem mw_677 : (Jvm.Cond.code ({ cls := "MosaicFloorModel", name := "bring", desc := "([II[II)V" } : Jvm.MethodName) prog_9_method_5_code (5 : Nat) (Option.none : Option Jvm.ClassFile.FieldType)) ∈ mm_gw := mm_gwI 722 (by decide +kernel) (by decide +kernel)
theorem mw_682 : (Jvm.Cond.methodLink "MosaicFloorModel" (65 : Nat) ({ cls := "MosaicFloorModel", name := "atHand", desc := "()I" } : Jvm.MethodName)) ∈ mm_gw := mm_gwI 727 (by decide +kernel) (by decide +kernel)
theorem mw_684 : (Jvm.Cond.instanceMethod ({ cls := "MosaicFloorModel", name := "atHand", desc := "()I" } : Jvm.MethodName)) ∈ mm_gw := mm_gwI 729 (by decide +kernel) (by decide +kernel)
theorem mw_685 : (Jvm.Cond.code ({ cls := "MosaicFloorModel", name := "atHand", desc := "()I" } : Jvm.MethodName) prog_9_method_17_code (3 : Nat) (Option.some Jvm.ClassFile.FieldType.int)) ∈ mm_gw := mm_gwI 730 (by decide +kernel) (by decide +kernel)
theorem mw_694 : (Jvm.Cond.methodLink "MosaicFloorModel" (68 : Nat) ({ cls := "MosaicFloorModel", name := "isCell", desc := "(II)Z" } : Jvm.MethodName)) ∈ mm_gw := mm_gwI 739 (by decide +kernel) (by decide +kernel)
theorem mw_696 : (Jvm.Cond.instanceMethod ({ cls := "MosaicFloorModel", name := "isCell", desc := "(II)Z" } : Jvm.MethodName)) ∈ mm_gw := mm_gwI 741 (by decide +kernel) (by decide +kernel)
theorem mw_697 : (Jvm.Cond.code ({ cls := "MosaicFloorModel", name := "isCell", desc := "(II)Z" } : Jvm.MethodName) prog_9_method_8_code (3 : Nat) (Option.some Jvm.ClassFile.FieldType.boolean)) ∈ mm_gw := mm_gwI 742 (by decide +kernel) (by decide +kernel)
theorem mw_698 : (Jvm.Cond.methodLink "MosaicFloorModel" (49 : Nat) ({ cls := "MosaicFloorModel", name := "borderOf", desc := "(II)I" } : Jvm.MethodName)) ∈ mm_gw := mm_gwI 743 (by decide +kernel) (by decide +kernel)
theorem mw_700 : (Jvm.Cond.instanceMethod ({ cls := "MosaicFloorModel", name := "borderOf", desc := "(II)I" } : Jvm.MethodName)) ∈ mm_gw := mm_gwI 745 (by decide +kernel) (by decide +kernel)
theorem mw_701 : (Jvm.Cond.code ({ cls := "MosaicFloorModel", name := "borderOf", desc := "(II)I" } : Jvm.MethodName) prog_9_method_12_code (5 : Nat) (Option.some Jvm.ClassFile.FieldType.int)) ∈ mm_gw := mm_gwI 746 (by decide +kernel) (by decide +kernel)
theorem mw_706 : (Jvm.Cond.methodLink "MosaicFloorModel" (81 : Nat) ({ cls := "MosaicFloorModel", name := "cellOf", desc := "(III)I" } : Jvm.MethodName)) ∈ mm_gw := mm_gwI 751 (by decide +kernel) (by decide +kernel)
theorem mw_708 : (Jvm.Cond.instanceMethod ({ cls := "MosaicFloorModel", name := "cellOf", desc := "(III)I" } : Jvm.MethodName)) ∈ mm_gw := mm_gwI 753 (by decide +kernel) (by decide +kernel)
theorem mw_709 : (Jvm.Cond.code ({ cls := "MosaicFloorModel", name := "cellOf", desc := "(III)I" } : Jvm.MethodName) prog_9_method_22_code (5 : Nat) (Option.some Jvm.ClassFile.FieldType.int)) ∈ mm_gw := mm_gwI 754 (by decide +kernel) (by decide +kernel)
theorem mw_710 : (Jvm.Cond.methodLink "MosaicFloorModel" (72 : Nat) ({ cls := "MosaicFloorModel", name := "wanted", desc := "(I)I" } : Jvm.MethodName)) ∈ mm_gw := mm_gwI 755 (by decide +kernel) (by decide +kernel)
theorem mw_712 : (Jvm.Cond.instanceMethod ({ cls := "MosaicFloorModel", name := "wanted", desc := "(I)I" } : Jvm.MethodName)) ∈ mm_gw := mm_gwI 757 (by decide +kernel) (by decide +kernel)
theorem mw_713 : (Jvm.Cond.code ({ cls := "MosaicFloorModel", name := "wanted", desc := "(I)I" } : Jvm.MethodName) prog_9_method_14_code (3 : Nat) (Option.some Jvm.ClassFile.FieldType.int)) ∈ mm_gw := mm_gwI 758 (by decide +kernel) (by decide +kernel)
theorem mw_714 : (Jvm.Cond.methodLink "MosaicFloorModel" (52 : Nat) ({ cls := "MosaicFloorModel", name := "borderWants", desc := "(I)I" } : Jvm.MethodName)) ∈ mm_gw := mm_gwI 759 (by decide +kernel) (by decide +kernel)
theorem mw_716 : (Jvm.Cond.instanceMethod ({ cls := "MosaicFloorModel", name := "borderWants", desc := "(I)I" } : Jvm.MethodName)) ∈ mm_gw := mm_gwI 761 (by decide +kernel) (by decide +kernel)
theorem mw_717 : (Jvm.Cond.code ({ cls := "MosaicFloorModel", name := "borderWants", desc := "(I)I" } : Jvm.MethodName) prog_9_method_13_code (6 : Nat) (Option.some Jvm.ClassFile.FieldType.int)) ∈ mm_gw := mm_gwI 762 (by decide +kernel) (by decide +kernel)
theorem mw_718 : (Jvm.Cond.methodLink "MosaicFloorModel" (45 : Nat) ({ cls := "MosaicFloorModel", name := "lesser", desc := "(II)I" } : Jvm.MethodName)) ∈ mm_gw := mm_gwI 763 (by decide +kernel) (by decide +kernel)
theorem mw_719 : (Jvm.Cond.static ({ cls := "MosaicFloorModel", name := "lesser", desc := "(II)I" } : Jvm.MethodName)) ∈ mm_gw := mm_gwI 764 (by decide +kernel) (by decide +kernel)
theorem mw_720 : (Jvm.Cond.code ({ cls := "MosaicFloorModel", name := "lesser", desc := "(II)I" } : Jvm.MethodName) prog_9_method_3_code (2 : Nat) (Option.some Jvm.ClassFile.FieldType.int)) ∈ mm_gw := mm_gwI 765 (by decide +kernel) (by decide +kernel)
theorem mw_721 : (Jvm.Cond.methodLink "MosaicFloorModel" (78 : Nat) ({ cls := "MosaicFloorModel", name := "difference", desc := "(I)I" } : Jvm.MethodName)) ∈ mm_gw := mm_gwI 766 (by decide +kernel) (by decide +kernel)
theorem mw_723 : (Jvm.Cond.instanceMethod ({ cls := "MosaicFloorModel", name := "difference", desc := "(I)I" } : Jvm.MethodName)) ∈ mm_gw := mm_gwI 768 (by decide +kernel) (by decide +kernel)
theorem mw_724 : (Jvm.Cond.code ({ cls := "MosaicFloorModel", name := "difference", desc := "(I)I" } : Jvm.MethodName) prog_9_method_21_code (2 : Nat) (Option.some Jvm.ClassFile.FieldType.int)) ∈ mm_gw := mm_gwI 769 (by decide +kernel) (by decide +kernel)
theorem mw_725 : (Jvm.Cond.methodLink "MosaicFloorModel" (75 : Nat) ({ cls := "MosaicFloorModel", name := "size", desc := "(I)I" } : Jvm.MethodName)) ∈ mm_gw := mm_gwI 770 (by decide +kernel) (by decide +kernel)
theorem mw_726 : (Jvm.Cond.static ({ cls := "MosaicFloorModel", name := "size", desc := "(I)I" } : Jvm.MethodName)) ∈ mm_gw := mm_gwI 771 (by decide +kernel) (by decide +kernel)
theorem mw_727 : (Jvm.Cond.code ({ cls := "MosaicFloorModel", name := "size", desc := "(I)I" } : Jvm.MethodName) prog_9_method_4_code (1 : Nat) (Option.some Jvm.ClassFile.FieldType.int)) ∈ mm_gw := mm_gwI 772 (by decide +kernel) (by decide +kernel)
theorem mw_732 : (Jvm.Cond.methodLink "MosaicFloorModel" (56 : Nat) ({ cls := "MosaicFloorModel", name := "around", desc := "()I" } : Jvm.MethodName)) ∈ mm_gw := mm_gwI 777 (by decide +kernel) (by decide +kernel)
theorem mw_734 : (Jvm.Cond.instanceMethod ({ cls := "MosaicFloorModel", name := "around", desc := "()I" } : Jvm.MethodName)) ∈ mm_gw := mm_gwI 779 (by decide +kernel) (by decide +kernel)
theorem mw_735 : (Jvm.Cond.code ({ cls := "MosaicFloorModel", name := "around", desc := "()I" } : Jvm.MethodName) prog_9_method_11_code (1 : Nat) (Option.some Jvm.ClassFile.FieldType.int)) ∈ mm_gw := mm_gwI 780 (by decide +kernel) (by decide +kernel)
theorem mw_736 : (Jvm.Cond.methodLink "MosaicFloorModel" (91 : Nat) ({ cls := "MosaicFloorModel", name := "meets", desc := "()Z" } : Jvm.MethodName)) ∈ mm_gw := mm_gwI 781 (by decide +kernel) (by decide +kernel)
theorem mw_738 : (Jvm.Cond.instanceMethod ({ cls := "MosaicFloorModel", name := "meets", desc := "()Z" } : Jvm.MethodName)) ∈ mm_gw := mm_gwI 783 (by decide +kernel) (by decide +kernel)
theorem mw_739 : (Jvm.Cond.code ({ cls := "MosaicFloorModel", name := "meets", desc := "()Z" } : Jvm.MethodName) prog_9_method_15_code (4 : Nat) (Option.some Jvm.ClassFile.FieldType.boolean)) ∈ mm_gw := mm_gwI 784 (by decide +kernel) (by decide +kernel)
theorem mw_740 : (Jvm.Cond.methodLink "MosaicFloorModel" (95 : Nat) ({ cls := "MosaicFloorModel", name := "differences", desc := "(Z)I" } : Jvm.MethodName)) ∈ mm_gw := mm_gwI 785 (by decide +kernel) (by decide +kernel)
theorem mw_742 : (Jvm.Cond.instanceMethod ({ cls := "MosaicFloorModel", name := "differences", desc := "(Z)I" } : Jvm.MethodName)) ∈ mm_gw := mm_gwI 787 (by decide +kernel) (by decide +kernel)
theorem mw_743 : (Jvm.Cond.code ({ cls := "MosaicFloorModel", name := "differences", desc := "(Z)I" } : Jvm.MethodName) prog_9_method_24_code (5 : Nat) (Option.some Jvm.ClassFile.FieldType.int)) ∈ mm_gw := mm_gwI 788 (by decide +kernel) (by decide +kernel)
theorem mw_744 : (Jvm.Cond.methodLink "MosaicFloorModel" (102 : Nat) ({ cls := "MosaicFloorModel", name := "account", desc := "(I)I" } : Jvm.MethodName)) ∈ mm_gw := mm_gwI 789 (by decide +kernel) (by decide +kernel)
theorem mw_746 : (Jvm.Cond.instanceMethod ({ cls := "MosaicFloorModel", name := "account", desc := "(I)I" } : Jvm.MethodName)) ∈ mm_gw := mm_gwI 791 (by decide +kernel) (by decide +kernel)
theorem mw_747 : (Jvm.Cond.code ({ cls := "MosaicFloorModel", name := "account", desc := "(I)I" } : Jvm.MethodName) prog_9_method_25_code (5 : Nat) (Option.some Jvm.ClassFile.FieldType.int)) ∈ mm_gw := mm_gwI 792 (by decide +kernel) (by decide +kernel)
theorem mw_748 : (Jvm.Cond.methodLink "MosaicFloorModel" (85 : Nat) ({ cls := "MosaicFloorModel", name := "of", desc := "(II)I" } : Jvm.MethodName)) ∈ mm_gw := mm_gwI 793 (by decide +kernel) (by decide +kernel)
theorem mw_750 : (Jvm.Cond.instanceMethod ({ cls := "MosaicFloorModel", name := "of", desc := "(II)I" } : Jvm.MethodName)) ∈ mm_gw := mm_gwI 795 (by decide +kernel) (by decide +kernel)
theorem mw_751 : (Jvm.Cond.code ({ cls := "MosaicFloorModel", name := "of", desc := "(II)I" } : Jvm.MethodName) prog_9_method_29_code (3 : Nat) (Option.some Jvm.ClassFile.FieldType.int)) ∈ mm_gw := mm_gwI 796 (by decide +kernel) (by decide +kernel)
theorem mw_752 : (Jvm.Cond.methodLink "MosaicFloorModel" (88 : Nat) ({ cls := "MosaicFloorModel", name := "left", desc := "(I)I" } : Jvm.MethodName)) ∈ mm_gw := mm_gwI 797 (by decide +kernel) (by decide +kernel)
theorem mw_754 : (Jvm.Cond.instanceMethod ({ cls := "MosaicFloorModel", name := "left", desc := "(I)I" } : Jvm.MethodName)) ∈ mm_gw := mm_gwI 799 (by decide +kernel) (by decide +kernel)
theorem mw_755 : (Jvm.Cond.code ({ cls := "MosaicFloorModel", name := "left", desc := "(I)I" } : Jvm.MethodName) prog_9_method_32_code (2 : Nat) (Option.some Jvm.ClassFile.FieldType.int)) ∈ mm_gw := mm_gwI 800 (by decide +kernel) (by decide +kernel)
theorem mw_768 : (Jvm.Cond.methodLink "MosaicFloorModel" (105 : Nat) ({ cls := "MosaicFloorModel", name := "put", desc := "(III)V" } : Jvm.MethodName)) ∈ mm_gw := mm_gwI 813 (by decide +kernel) (by decide +kernel)
theorem mw_770 : (Jvm.Cond.instanceMethod ({ cls := "MosaicFloorModel", name := "put", desc := "(III)V" } : Jvm.MethodName)) ∈ mm_gw := mm_gwI 815 (by decide +kernel) (by decide +kernel)
theorem mw_771 : (Jvm.Cond.code ({ cls := "MosaicFloorModel", name := "put", desc := "(III)V" } : Jvm.MethodName) prog_9_method_30_code (4 : Nat) (Option.none : Option Jvm.ClassFile.FieldType)) ∈ mm_gw := mm_gwI 816 (by decide +kernel) (by decide +kernel)
theorem mw_776 : (Jvm.Cond.methodLink "MosaicFloorModel" (109 : Nat) ({ cls := "MosaicFloorModel", name := "isStrip", desc := "(I)Z" } : Jvm.MethodName)) ∈ mm_gw := mm_gwI 821 (by decide +kernel) (by decide +kernel)
theorem mw_778 : (Jvm.Cond.instanceMethod ({ cls := "MosaicFloorModel", name := "isStrip", desc := "(I)Z" } : Jvm.MethodName)) ∈ mm_gw := mm_gwI 823 (by decide +kernel) (by decide +kernel)
theorem mw_779 : (Jvm.Cond.code ({ cls := "MosaicFloorModel", name := "isStrip", desc := "(I)Z" } : Jvm.MethodName) prog_9_method_31_code (2 : Nat) (Option.some Jvm.ClassFile.FieldType.boolean)) ∈ mm_gw := mm_gwI 824 (by decide +kernel) (by decide +kernel)
theorem mw_780 : (Jvm.Cond.methodLink "MosaicFloorModel" (113 : Nat) ({ cls := "MosaicFloorModel", name := "hasFlaw", desc := "(III)Z" } : Jvm.MethodName)) ∈ mm_gw := mm_gwI 825 (by decide +kernel) (by decide +kernel)
theorem mw_782 : (Jvm.Cond.instanceMethod ({ cls := "MosaicFloorModel", name := "hasFlaw", desc := "(III)Z" } : Jvm.MethodName)) ∈ mm_gw := mm_gwI 827 (by decide +kernel) (by decide +kernel)
theorem mw_783 : (Jvm.Cond.code ({ cls := "MosaicFloorModel", name := "hasFlaw", desc := "(III)Z" } : Jvm.MethodName) prog_9_method_34_code (6 : Nat) (Option.some Jvm.ClassFile.FieldType.boolean)) ∈ mm_gw := mm_gwI 828 (by decide +kernel) (by decide +kernel)
theorem mw_788 : (Jvm.Cond.methodLink "MosaicFloorModel" (116 : Nat) ({ cls := "MosaicFloorModel", name := "canCut", desc := "(I)Z" } : Jvm.MethodName)) ∈ mm_gw := mm_gwI 833 (by decide +kernel) (by decide +kernel)
theorem mw_790 : (Jvm.Cond.instanceMethod ({ cls := "MosaicFloorModel", name := "canCut", desc := "(I)Z" } : Jvm.MethodName)) ∈ mm_gw := mm_gwI 835 (by decide +kernel) (by decide +kernel)
theorem mw_791 : (Jvm.Cond.code ({ cls := "MosaicFloorModel", name := "canCut", desc := "(I)Z" } : Jvm.MethodName) prog_9_method_36_code (2 : Nat) (Option.some Jvm.ClassFile.FieldType.boolean)) ∈ mm_gw := mm_gwI 836 (by decide +kernel) (by decide +kernel)
theorem mw_792 : (Jvm.Cond.methodLink "MosaicFloorModel" (119 : Nat) ({ cls := "MosaicFloorModel", name := "cuts", desc := "(I)Z" } : Jvm.MethodName)) ∈ mm_gw := mm_gwI 837 (by decide +kernel) (by decide +kernel)
theorem mw_794 : (Jvm.Cond.instanceMethod ({ cls := "MosaicFloorModel", name := "cuts", desc := "(I)Z" } : Jvm.MethodName)) ∈ mm_gw := mm_gwI 839 (by decide +kernel) (by decide +kernel)
theorem mw_795 : (Jvm.Cond.code ({ cls := "MosaicFloorModel", name := "cuts", desc := "(I)Z" } : Jvm.MethodName) prog_9_method_37_code (5 : Nat) (Option.some Jvm.ClassFile.FieldType.boolean)) ∈ mm_gw := mm_gwI 840 (by decide +kernel) (by decide +kernel)
theorem mw_800 : (Jvm.Cond.methodLink "MosaicFloorModel" (126 : Nat) ({ cls := "MosaicFloorModel", name := "partOf", desc := "(II)I" } : Jvm.MethodName)) ∈ mm_gw := mm_gwI 845 (by decide +kernel) (by decide +kernel)
theorem mw_802 : (Jvm.Cond.instanceMethod ({ cls := "MosaicFloorModel", name := "partOf", desc := "(II)I" } : Jvm.MethodName)) ∈ mm_gw := mm_gwI 847 (by decide +kernel) (by decide +kernel)
theorem mw_803 : (Jvm.Cond.code ({ cls := "MosaicFloorModel", name := "partOf", desc := "(II)I" } : Jvm.MethodName) prog_9_method_40_code (3 : Nat) (Option.some Jvm.ClassFile.FieldType.int)) ∈ mm_gw := mm_gwI 848 (by decide +kernel) (by decide +kernel)
theorem mw_804 : (Jvm.Cond.methodLink "MosaicFloorModel" (122 : Nat) ({ cls := "MosaicFloorModel", name := "still", desc := "(IZ)I" } : Jvm.MethodName)) ∈ mm_gw := mm_gwI 849 (by decide +kernel) (by decide +kernel)
theorem mw_806 : (Jvm.Cond.instanceMethod ({ cls := "MosaicFloorModel", name := "still", desc := "(IZ)I" } : Jvm.MethodName)) ∈ mm_gw := mm_gwI 851 (by decide +kernel) (by decide +kernel)
theorem mw_807 : (Jvm.Cond.code ({ cls := "MosaicFloorModel", name := "still", desc := "(IZ)I" } : Jvm.MethodName) prog_9_method_39_code (5 : Nat) (Option.some Jvm.ClassFile.FieldType.int)) ∈ mm_gw := mm_gwI 852 (by decide +kernel) (by decide +kernel)
theorem mw_812 : (Jvm.Cond.methodLink "MosaicFloorModel" (132 : Nat) ({ cls := "MosaicFloorModel", name := "nearestTo", desc := "(I)I" } : Jvm.MethodName)) ∈ mm_gw := mm_gwI 857 (by decide +kernel) (by decide +kernel)
theorem mw_814 : (Jvm.Cond.instanceMethod ({ cls := "MosaicFloorModel", name := "nearestTo", desc := "(I)I" } : Jvm.MethodName)) ∈ mm_gw := mm_gwI 859 (by decide +kernel) (by decide +kernel)
theorem mw_815 : (Jvm.Cond.code ({ cls := "MosaicFloorModel", name := "nearestTo", desc := "(I)I" } : Jvm.MethodName) prog_9_method_43_code (5 : Nat) (Option.some Jvm.ClassFile.FieldType.int)) ∈ mm_gw := mm_gwI 860 (by decide +kernel) (by decide +kernel)
theorem mw_816 : (Jvm.Cond.methodLink "MosaicFloorModel" (129 : Nat) ({ cls := "MosaicFloorModel", name := "source", desc := "(I)I" } : Jvm.MethodName)) ∈ mm_gw := mm_gwI 861 (by decide +kernel) (by decide +kernel)
theorem mw_818 : (Jvm.Cond.instanceMethod ({ cls := "MosaicFloorModel", name := "source", desc := "(I)I" } : Jvm.MethodName)) ∈ mm_gw := mm_gwI 863 (by decide +kernel) (by decide +kernel)
theorem mw_819 : (Jvm.Cond.code ({ cls := "MosaicFloorModel", name := "source", desc := "(I)I" } : Jvm.MethodName) prog_9_method_42_code (3 : Nat) (Option.some Jvm.ClassFile.FieldType.int)) ∈ mm_gw := mm_gwI 864 (by decide +kernel) (by decide +kernel)
theorem mw_820 : (Jvm.Cond.methodLink "MosaicFloorModel" (135 : Nat) ({ cls := "MosaicFloorModel", name := "lays", desc := "(I)I" } : Jvm.MethodName)) ∈ mm_gw := mm_gwI 865 (by decide +kernel) (by decide +kernel)
theorem mw_822 : (Jvm.Cond.instanceMethod ({ cls := "MosaicFloorModel", name := "lays", desc := "(I)I" } : Jvm.MethodName)) ∈ mm_gw := mm_gwI 867 (by decide +kernel) (by decide +kernel)
theorem mw_823 : (Jvm.Cond.code ({ cls := "MosaicFloorModel", name := "lays", desc := "(I)I" } : Jvm.MethodName) prog_9_method_44_code (5 : Nat) (Option.some Jvm.ClassFile.FieldType.int)) ∈ mm_gw := mm_gwI 868 (by decide +kernel) (by decide +kernel)
theorem mw_828 : (Jvm.Cond.methodLink "MosaicFloorModel" (141 : Nat) ({ cls := "MosaicFloorModel", name := "laysAll", desc := "()I" } : Jvm.MethodName)) ∈ mm_gw := mm_gwI 873 (by decide +kernel) (by decide +kernel)
theorem mw_830 : (Jvm.Cond.instanceMethod ({ cls := "MosaicFloorModel", name := "laysAll", desc := "()I" } : Jvm.MethodName)) ∈ mm_gw := mm_gwI 875 (by decide +kernel) (by decide +kernel)
theorem mw_831 : (Jvm.Cond.code ({ cls := "MosaicFloorModel", name := "laysAll", desc := "()I" } : Jvm.MethodName) prog_9_method_47_code (7 : Nat) (Option.some Jvm.ClassFile.FieldType.int)) ∈ mm_gw := mm_gwI 876 (by decide +kernel) (by decide +kernel)
theorem mw_832 : (Jvm.Cond.methodLink "MosaicFloorModel" (138 : Nat) ({ cls := "MosaicFloorModel", name := "laysIfEmpty", desc := "(I)I" } : Jvm.MethodName)) ∈ mm_gw := mm_gwI 877 (by decide +kernel) (by decide +kernel)
theorem mw_834 : (Jvm.Cond.instanceMethod ({ cls := "MosaicFloorModel", name := "laysIfEmpty", desc := "(I)I" } : Jvm.MethodName)) ∈ mm_gw := mm_gwI 879 (by decide +kernel) (by decide +kernel)
theorem mw_835 : (Jvm.Cond.code ({ cls := "MosaicFloorModel", name := "laysIfEmpty", desc := "(I)I" } : Jvm.MethodName) prog_9_method_46_code (2 : Nat) (Option.some Jvm.ClassFile.FieldType.int)) ∈ mm_gw := mm_gwI 880 (by decide +kernel) (by decide +kernel)
theorem mw_848 : (Jvm.Cond.methodLink "MosaicFloorModel" (144 : Nat) ({ cls := "MosaicFloorModel", name := "readyOf", desc := "(I)I" } : Jvm.MethodName)) ∈ mm_gw := mm_gwI 893 (by decide +kernel) (by decide +kernel)
theorem mw_850 : (Jvm.Cond.instanceMethod ({ cls := "MosaicFloorModel", name := "readyOf", desc := "(I)I" } : Jvm.MethodName)) ∈ mm_gw := mm_gwI 895 (by decide +kernel) (by decide +kernel)
theorem mw_851 : (Jvm.Cond.code ({ cls := "MosaicFloorModel", name := "readyOf", desc := "(I)I" } : Jvm.MethodName) prog_9_method_51_code (4 : Nat) (Option.some Jvm.ClassFile.FieldType.int)) ∈ mm_gw := mm_gwI 896 (by decide +kernel) (by decide +kernel)
theorem mw_856 : (Jvm.Cond.methodLink "MosaicFloorModel" (147 : Nat) ({ cls := "MosaicFloorModel", name := "lacksOf", desc := "(I)I" } : Jvm.MethodName)) ∈ mm_gw := mm_gwI 901 (by decide +kernel) (by decide +kernel)
theorem mw_858 : (Jvm.Cond.instanceMethod ({ cls := "MosaicFloorModel", name := "lacksOf", desc := "(I)I" } : Jvm.MethodName)) ∈ mm_gw := mm_gwI 903 (by decide +kernel) (by decide +kernel)
theorem mw_859 : (Jvm.Cond.code ({ cls := "MosaicFloorModel", name := "lacksOf", desc := "(I)I" } : Jvm.MethodName) prog_9_method_53_code (4 : Nat) (Option.some Jvm.ClassFile.FieldType.int)) ∈ mm_gw := mm_gwI 904 (by decide +kernel) (by decide +kernel)
theorem mw_880 : (Jvm.Cond.methodLink "MosaicFloorModel" (153 : Nat) ({ cls := "MosaicFloorModel", name := "faultNow", desc := "()I" } : Jvm.MethodName)) ∈ mm_gw := mm_gwI 925 (by decide +kernel) (by decide +kernel)
theorem mw_882 : (Jvm.Cond.instanceMethod ({ cls := "MosaicFloorModel", name := "faultNow", desc := "()I" } : Jvm.MethodName)) ∈ mm_gw := mm_gwI 927 (by decide +kernel) (by decide +kernel)
theorem mw_883 : (Jvm.Cond.code ({ cls := "MosaicFloorModel", name := "faultNow", desc := "()I" } : Jvm.MethodName) prog_9_method_59_code (5 : Nat) (Option.some Jvm.ClassFile.FieldType.int)) ∈ mm_gw := mm_gwI 928 (by decide +kernel) (by decide +kernel)
theorem iw_0 : ∀ w ∈ u_ws RX0 TX0 2, w ∈ mm_gw := by decide +kernel
theorem df_0 : ∀ j, j < 2 → defaultValue (tyX0 j) = vp_V [.null, .int 0] j := fun j hj => by rcases (show j = 0 ∨ j = 1 by omega) with rfl | rfl <;> rfl
theorem iw_1 : ∀ w ∈ u_ws RX1 TX1 6, w ∈ mm_gw := by decide +kernel
theorem df_1 : ∀ j, j < 6 → defaultValue (tyX1 j) = vp_V [.null, .null, .int 0, .int 0, .int 0, .int 0] j := fun j hj => by rcases (show j = 0 ∨ j = 1 ∨ j = 2 ∨ j = 3 ∨ j = 4 ∨ j = 5 by omega) with rfl | rfl | rfl | rfl | rfl | rfl <;> rfl
theorem iw_2 : ∀ w ∈ u_ws RX2 TX2 4, w ∈ mm_gw := by decide +kernel
theorem df_2 : ∀ j, j < 4 → defaultValue (tyX2 j) = vp_V [.null, .null, .null, .int 0] j := fun j hj => by rcases (show j = 0 ∨ j = 1 ∨ j = 2 ∨ j = 3 by omega) with rfl | rfl | rfl | rfl <;> rfl
theorem iw_3 : ∀ w ∈ u_ws RX3 TX3 9, w ∈ mm_gw := by decide +kernel
theorem df_3 : ∀ j, j < 9 → defaultValue (tyX3 j) = vp_V [.null, .null, .int 0, .int 0, .int 0, .int 0, .int 0, .int 0, .int 0] j := fun j hj => by rcases (show j = 0 ∨ j = 1 ∨ j = 2 ∨ j = 3 ∨ j = 4 ∨ j = 5 ∨ j = 6 ∨ j = 7 ∨ j = 8 by omega) with rfl | rfl | rfl | rfl | rfl | rfl | rfl | rfl | rfl <;> rfl
theorem iw_4 : ∀ w ∈ u_ws RX4 TX4 6, w ∈ mm_gw := by decide +kernel
theorem df_4 : ∀ j, j < 6 → defaultValue (tyX4 j) = vp_V [.null, .int 0, .int 0, .int 0, .int 0, .int 0] j := fun j hj => by rcases (show j = 0 ∨ j = 1 ∨ j = 2 ∨ j = 3 ∨ j = 4 ∨ j = 5 by omega) with rfl | rfl | rfl | rfl | rfl | rfl <;> rfl
theorem iw_5 : ∀ w ∈ u_ws RX5 TX5 2, w ∈ mm_gw := by decide +kernel
theorem df_5 : ∀ j, j < 2 → defaultValue (tyX5 j) = vp_V [.null, .int 0] j := fun j hj => by rcases (show j = 0 ∨ j = 1 by omega) with rfl | rfl <;> rfl
theorem iw_6 : ∀ w ∈ u_ws RX6 TX6 4, w ∈ mm_gw := by decide +kernel
theorem df_6 : ∀ j, j < 4 → defaultValue (tyX6 j) = vp_V [.null, .null, .null, .null] j := fun j hj => by rcases (show j = 0 ∨ j = 1 ∨ j = 2 ∨ j = 3 by omega) with rfl | rfl | rfl | rfl <;> rfl
theorem iw_7 : ∀ w ∈ u_ws RX7 TX7 8, w ∈ mm_gw := by decide +kernel
theorem df_7 : ∀ j, j < 8 → defaultValue (tyX7 j) = vp_V [.null, .null, .null, .int 0, .null, .int 0, .null, .int 0] j := fun j hj => by rcases (show j = 0 ∨ j = 1 ∨ j = 2 ∨ j = 3 ∨ j = 4 ∨ j = 5 ∨ j = 6 ∨ j = 7 by omega) with rfl | rfl | rfl | rfl | rfl | rfl | rfl | rfl <;> rfl
theorem mm_u1e {α0 β : Type} {f : α0 → β} {a0 : α0} {r : β} (h : mm_u1 f a0 = r) : f a0 = r := h
theorem mm_u2e {α0 α1 β : Type} {f : α0 → α1 → β} {a0 : α0} {a1 : α1} {r : β} (h : mm_u2 f (a0, a1) = r) : f a0 a1 = r := h
theorem mm_u3e {α0 α1 α2 β : Type} {f : α0 → α1 → α2 → β} {a0 : α0} {a1 : α1} {a2 : α2} {r : β} (h : mm_u3 f (a0, a1, a2) = r) : f a0 a1 a2 = r := h
theorem mm_u4e {α0 α1 α2 α3 β : Type} {f : α0 → α1 → α2 → α3 → β} {a0 : α0} {a1 : α1} {a2 : α2} {a3 : α3} {r : β} (h : mm_u4 f (a0, a1, a2, a3) = r) : f a0 a1 a2 a3 = r := h
theorem mm_u5e {α0 α1 α2 α3 α4 β : Type} {f : α0 → α1 → α2 → α3 → α4 → β} {a0 : α0} {a1 : α1} {a2 : α2} {a3 : α3} {a4 : α4} {r : β} (h : mm_u5 f (a0, a1, a2, a3, a4) = r) : f a0 a1 a2 a3 a4 = r := h
theorem mm_u6e {α0 α1 α2 α3 α4 α5 β : Type} {f : α0 → α1 → α2 → α3 → α4 → α5 → β} {a0 : α0} {a1 : α1} {a2 : α2} {a3 : α3} {a4 : α4} {a5 : α5} {r : β} (h : mm_u6 f (a0, a1, a2, a3, a4, a5) = r) : f a0 a1 a2 a3 a4 a5 = r := h
theorem mm_ht0 {g : mm_G} {s : State} (hK : mm_K g s) : ∀ cA, s.vm.findClass ("[" ++ (FieldType.int).toString) = some cA → cA = g.2 0 := fun cA h => by
  have h2 : s.vm.findClass ("[" ++ (FieldType.int).toString) = some (g.2 0) := (hK.1.2 0 _ rfl).2
  exact Option.some.inj (h.symm.trans h2)
theorem mm_ht1 {g : mm_G} {s : State} (hK : mm_K g s) : ∀ cA, s.vm.findClass ("[" ++ (FieldType.char).toString) = some cA → cA = g.2 1 := fun cA h => by
  have h2 : s.vm.findClass ("[" ++ (FieldType.char).toString) = some (g.2 1) := (hK.1.2 1 _ rfl).2
  exact Option.some.inj (h.symm.trans h2)
theorem mm_ht2 {g : mm_G} {s : State} (hK : mm_K g s) : ∀ cA, s.vm.findClass ("[" ++ (FieldType.object RX4).toString) = some cA → cA = g.2 2 := fun cA h => by
  obtain ⟨kA, comp, h1, h2, h3, h4⟩ := (hK.1.2 2 _ rfl).2
  exact Option.some.inj (h.symm.trans h4)
theorem mm_ht3 {g : mm_G} {s : State} (hK : mm_K g s) : ∀ cA, s.vm.findClass ("[" ++ (FieldType.object RX2).toString) = some cA → cA = g.2 3 := fun cA h => by
  obtain ⟨kA, comp, h1, h2, h3, h4⟩ := (hK.1.2 3 _ rfl).2
  exact Option.some.inj (h.symm.trans h4)
theorem ps_X1_29 : mm_PS RX1 29 1 4 false .int := ⟨RX1, TX1, 6, tyX1, rfl, by decide, iw_1, mw_45, tyX1_ok, nmX1, rfl, by decide +kernel, fun h => by cases h⟩
theorem ps_X1_32 : mm_PS RX1 32 1 5 false .int := ⟨RX1, TX1, 6, tyX1, rfl, by decide, iw_1, mw_48, tyX1_ok, nmX1, rfl, by decide +kernel, fun h => by cases h⟩
theorem fs_X1_9 : mm_FS RX1 9 1 0 := ⟨RX1, TX1, 6, rfl, by decide, iw_1, mw_39⟩
theorem ss_X1_35 : mm_SS RX1 35 yJ7_fill_53178 cJ7_fill_53178 4 (Option.none : Option Jvm.ClassFile.FieldType) 2 := ⟨mw_36, mw_37, mw_4, mw_38, by decide +kernel⟩
theorem oc_i : Cond.code objectInit ⟨#[0xb1]⟩ 1 none ∈ mm_gw := mm_gwI 64 (by decide +kernel) (by decide +kernel)
theorem ps_X1_9 : mm_PS RX1 9 1 0 true (.array .int) := ⟨RX1, TX1, 6, tyX1, rfl, by decide, iw_1, mw_39, tyX1_ok, nmX1, rfl, by decide +kernel, fun _ => rfl⟩
theorem ps_X1_15 : mm_PS RX1 15 1 1 true (.array .int) := ⟨RX1, TX1, 6, tyX1, rfl, by decide, iw_1, mw_40, tyX1_ok, nmX1, rfl, by decide +kernel, fun _ => rfl⟩
theorem ps_X1_18 : mm_PS RX1 18 1 2 false .int := ⟨RX1, TX1, 6, tyX1, rfl, by decide, iw_1, mw_41, tyX1_ok, nmX1, rfl, by decide +kernel, fun h => by cases h⟩
theorem ps_X1_22 : mm_PS RX1 22 1 3 false .int := ⟨RX1, TX1, 6, tyX1, rfl, by decide, iw_1, mw_43, tyX1_ok, nmX1, rfl, by decide +kernel, fun h => by cases h⟩
theorem vs_X1_25 : mm_VS RX1 25 1 yX1_begin cX1_begin 3 (Option.none : Option Jvm.ClassFile.FieldType) 2 := ⟨⟨TX1, 6, rfl⟩, mw_32, mw_33, List.mem_of_getElem? (i := 79) (by decide +kernel), by decide +kernel, mw_3, mw_35, by decide +kernel⟩
theorem ps_X4_9 : mm_PS RX4 9 4 0 true (.array .int) := ⟨RX4, TX4, 6, tyX4, rfl, by decide, iw_4, mw_78, tyX4_ok, nmX4, rfl, by decide +kernel, fun _ => rfl⟩
theorem ps_X3_11 : mm_PS RX3 11 3 0 true (.array (.object "MosaicFloor$Strip")) := ⟨RX3, TX3, 9, tyX3, rfl, by decide, iw_3, mw_104, tyX3_ok, nmX3, rfl, by decide +kernel, fun _ => rfl⟩
theorem ps_X3_17 : mm_PS RX3 17 3 1 true (.array .int) := ⟨RX3, TX3, 9, tyX3, rfl, by decide, iw_3, mw_105, tyX3_ok, nmX3, rfl, by decide +kernel, fun _ => rfl⟩
theorem ps_X3_21 : mm_PS RX3 21 3 3 false .int := ⟨RX3, TX3, 9, tyX3, rfl, by decide, iw_3, mw_108, tyX3_ok, nmX3, rfl, by decide +kernel, fun h => by cases h⟩
theorem ps_X3_25 : mm_PS RX3 25 3 4 false .int := ⟨RX3, TX3, 9, tyX3, rfl, by decide, iw_3, mw_110, tyX3_ok, nmX3, rfl, by decide +kernel, fun h => by cases h⟩
theorem fs_X3_11 : mm_FS RX3 11 3 0 := ⟨RX3, TX3, 9, rfl, by decide, iw_3, mw_104⟩
theorem in_X3_28 : mm_IN RX3 28 yX4_init RX6 cX4_init 1 0 := ⟨mw_75, rfl, mw_6, mw_76, by decide +kernel⟩
theorem is_X2_11 : mm_IS RX2 11 yX1_init cX1_init 1 0 := ⟨mw_28, mw_29, rfl, mw_3, mw_30, by decide +kernel⟩
theorem ps_X2_12 : mm_PS RX2 12 2 0 true (.object "MosaicFloor$Plan") := ⟨RX2, TX2, 4, tyX2, rfl, by decide, iw_2, mw_140, tyX2_ok, nmX2, rfl, by decide +kernel, fun _ => rfl⟩
theorem is_X2_20 : mm_IS RX2 20 yX3_init cX3_init 2 0 := ⟨mw_67, mw_68, rfl, mw_5, mw_69, by decide +kernel⟩
theorem ps_X2_21 : mm_PS RX2 21 2 1 true (.object "MosaicFloor$Stock") := ⟨RX2, TX2, 4, tyX2, rfl, by decide, iw_2, mw_142, tyX2_ok, nmX2, rfl, by decide +kernel, fun _ => rfl⟩
theorem ps_X2_25 : mm_PS RX2 25 2 2 true (.array .int) := ⟨RX2, TX2, 4, tyX2, rfl, by decide, iw_2, mw_144, tyX2_ok, nmX2, rfl, by decide +kernel, fun _ => rfl⟩
theorem fs_X2_25 : mm_FS RX2 25 2 2 := ⟨RX2, TX2, 4, rfl, by decide, iw_2, mw_144⟩
theorem ss_X2_29 : mm_SS RX2 29 yJ7_fill_53178 cJ7_fill_53178 4 (Option.none : Option Jvm.ClassFile.FieldType) 2 := ⟨mw_139, mw_37, mw_4, mw_38, by decide +kernel⟩
theorem ps_X0_11 : mm_PS RX0 11 0 0 true (.array (.object "MosaicFloor$State")) := ⟨RX0, TX0, 2, tyX0, rfl, by decide, iw_0, mw_165, tyX0_ok, nmX0, rfl, by decide +kernel, fun _ => rfl⟩
theorem fs_X0_11 : mm_FS RX0 11 0 0 := ⟨RX0, TX0, 2, rfl, by decide, iw_0, mw_165⟩
theorem is_X0_17 : mm_IS RX0 17 yX2_init cX2_init 1 0 := ⟨mw_164, mw_23, rfl, mw_2, mw_24, by decide +kernel⟩
theorem ps_X5_9 : mm_PS RX5 9 5 0 true (.array .char) := ⟨RX5, TX5, 2, tyX5, rfl, by decide, iw_5, mw_178, tyX5_ok, nmX5, rfl, by decide +kernel, fun _ => rfl⟩
theorem is_X6_9 : mm_IS RX6 9 yX2_init cX2_init 1 0 := ⟨mw_22, mw_23, rfl, mw_2, mw_24, by decide +kernel⟩
theorem ps_X6_10 : mm_PS RX6 10 6 0 true (.object "MosaicFloor$State") := ⟨RX6, TX6, 4, tyX6, rfl, by decide, iw_6, mw_187, tyX6_ok, nmX6, rfl, by decide +kernel, fun _ => rfl⟩
theorem ps_X6_16 : mm_PS RX6 16 6 1 true (.object "MosaicFloor$State") := ⟨RX6, TX6, 4, tyX6, rfl, by decide, iw_6, mw_188, tyX6_ok, nmX6, rfl, by decide +kernel, fun _ => rfl⟩
theorem is_X6_21 : mm_IS RX6 21 yX0_init cX0_init 2 0 := ⟨mw_158, mw_159, rfl, mw_7, mw_160, by decide +kernel⟩
theorem ps_X6_22 : mm_PS RX6 22 6 2 true (.object "MosaicFloor$History") := ⟨RX6, TX6, 4, tyX6, rfl, by decide, iw_6, mw_189, tyX6_ok, nmX6, rfl, by decide +kernel, fun _ => rfl⟩
theorem in_X6_28 : mm_IN RX6 28 yX5_init RX6 cX5_init 1 0 := ⟨mw_175, rfl, mw_8, mw_176, by decide +kernel⟩
theorem ps_X6_29 : mm_PS RX6 29 6 3 true (.object "MosaicFloor$Text") := ⟨RX6, TX6, 4, tyX6, rfl, by decide, iw_6, mw_190, tyX6_ok, nmX6, rfl, by decide +kernel, fun _ => rfl⟩
theorem fs_X0_18 : mm_FS RX0 18 0 1 := ⟨RX0, TX0, 2, rfl, by decide, iw_0, mw_166⟩
theorem ps_X0_18 : mm_PS RX0 18 0 1 false .int := ⟨RX0, TX0, 2, tyX0, rfl, by decide, iw_0, mw_166, tyX0_ok, nmX0, rfl, by decide +kernel, fun h => by cases h⟩
theorem fs_X1_15 : mm_FS RX1 15 1 1 := ⟨RX1, TX1, 6, rfl, by decide, iw_1, mw_40⟩
theorem fs_X1_18 : mm_FS RX1 18 1 2 := ⟨RX1, TX1, 6, rfl, by decide, iw_1, mw_41⟩
theorem fs_X1_22 : mm_FS RX1 22 1 3 := ⟨RX1, TX1, 6, rfl, by decide, iw_1, mw_43⟩
theorem fs_X1_29 : mm_FS RX1 29 1 4 := ⟨RX1, TX1, 6, rfl, by decide, iw_1, mw_45⟩
theorem fs_X1_32 : mm_FS RX1 32 1 5 := ⟨RX1, TX1, 6, rfl, by decide, iw_1, mw_48⟩
theorem fs_X4_9 : mm_FS RX4 9 4 0 := ⟨RX4, TX4, 6, rfl, by decide, iw_4, mw_78⟩
theorem fs_X4_25 : mm_FS RX4 25 4 1 := ⟨RX4, TX4, 6, rfl, by decide, iw_4, mw_79⟩
theorem ps_X4_25 : mm_PS RX4 25 4 1 false .int := ⟨RX4, TX4, 6, tyX4, rfl, by decide, iw_4, mw_79, tyX4_ok, nmX4, rfl, by decide +kernel, fun h => by cases h⟩
theorem fs_X4_15 : mm_FS RX4 15 4 2 := ⟨RX4, TX4, 6, rfl, by decide, iw_4, mw_81⟩
theorem ps_X4_15 : mm_PS RX4 15 4 2 false .int := ⟨RX4, TX4, 6, tyX4, rfl, by decide, iw_4, mw_81, tyX4_ok, nmX4, rfl, by decide +kernel, fun h => by cases h⟩
theorem fs_X4_19 : mm_FS RX4 19 4 3 := ⟨RX4, TX4, 6, rfl, by decide, iw_4, mw_84⟩
theorem ps_X4_19 : mm_PS RX4 19 4 3 false .int := ⟨RX4, TX4, 6, tyX4, rfl, by decide, iw_4, mw_84, tyX4_ok, nmX4, rfl, by decide +kernel, fun h => by cases h⟩
theorem fs_X4_22 : mm_FS RX4 22 4 4 := ⟨RX4, TX4, 6, rfl, by decide, iw_4, mw_87⟩
theorem ps_X4_22 : mm_PS RX4 22 4 4 false .int := ⟨RX4, TX4, 6, tyX4, rfl, by decide, iw_4, mw_87, tyX4_ok, nmX4, rfl, by decide +kernel, fun h => by cases h⟩
theorem fs_X4_28 : mm_FS RX4 28 4 5 := ⟨RX4, TX4, 6, rfl, by decide, iw_4, mw_89⟩
theorem ps_X4_28 : mm_PS RX4 28 4 5 false .int := ⟨RX4, TX4, 6, tyX4, rfl, by decide, iw_4, mw_89, tyX4_ok, nmX4, rfl, by decide +kernel, fun h => by cases h⟩
theorem vs_X3_29 : mm_VS RX3 29 4 yX4_copyFrom cX4_copyFrom 2 (Option.none : Option Jvm.ClassFile.FieldType) 1 := ⟨⟨TX4, 6, rfl⟩, mw_234, mw_235, List.mem_of_getElem? (i := 281) (by decide +kernel), by decide +kernel, mw_6, mw_237, by decide +kernel⟩
theorem fs_X3_17 : mm_FS RX3 17 3 1 := ⟨RX3, TX3, 9, rfl, by decide, iw_3, mw_105⟩
theorem fs_X3_39 : mm_FS RX3 39 3 2 := ⟨RX3, TX3, 9, rfl, by decide, iw_3, mw_106⟩
theorem ps_X3_39 : mm_PS RX3 39 3 2 false .int := ⟨RX3, TX3, 9, tyX3, rfl, by decide, iw_3, mw_106, tyX3_ok, nmX3, rfl, by decide +kernel, fun h => by cases h⟩
theorem fs_X3_21 : mm_FS RX3 21 3 3 := ⟨RX3, TX3, 9, rfl, by decide, iw_3, mw_108⟩
theorem fs_X3_25 : mm_FS RX3 25 3 4 := ⟨RX3, TX3, 9, rfl, by decide, iw_3, mw_110⟩
theorem fs_X3_42 : mm_FS RX3 42 3 5 := ⟨RX3, TX3, 9, rfl, by decide, iw_3, mw_112⟩
theorem ps_X3_42 : mm_PS RX3 42 3 5 false .int := ⟨RX3, TX3, 9, tyX3, rfl, by decide, iw_3, mw_112, tyX3_ok, nmX3, rfl, by decide +kernel, fun h => by cases h⟩
theorem fs_X3_45 : mm_FS RX3 45 3 6 := ⟨RX3, TX3, 9, rfl, by decide, iw_3, mw_114⟩
theorem ps_X3_45 : mm_PS RX3 45 3 6 false .int := ⟨RX3, TX3, 9, tyX3, rfl, by decide, iw_3, mw_114, tyX3_ok, nmX3, rfl, by decide +kernel, fun h => by cases h⟩
theorem fs_X3_48 : mm_FS RX3 48 3 7 := ⟨RX3, TX3, 9, rfl, by decide, iw_3, mw_116⟩
theorem ps_X3_48 : mm_PS RX3 48 3 7 false .int := ⟨RX3, TX3, 9, tyX3, rfl, by decide, iw_3, mw_116, tyX3_ok, nmX3, rfl, by decide +kernel, fun h => by cases h⟩
theorem fs_X3_51 : mm_FS RX3 51 3 8 := ⟨RX3, TX3, 9, rfl, by decide, iw_3, mw_118⟩
theorem ps_X3_51 : mm_PS RX3 51 3 8 false .int := ⟨RX3, TX3, 9, tyX3, rfl, by decide, iw_3, mw_118, tyX3_ok, nmX3, rfl, by decide +kernel, fun h => by cases h⟩
theorem fs_X2_12 : mm_FS RX2 12 2 0 := ⟨RX2, TX2, 4, rfl, by decide, iw_2, mw_140⟩
theorem vs_X2_35 : mm_VS RX2 35 1 yX1_copyFrom cX1_copyFrom 2 (Option.none : Option Jvm.ClassFile.FieldType) 1 := ⟨⟨TX1, 6, rfl⟩, mw_223, mw_224, List.mem_of_getElem? (i := 270) (by decide +kernel), by decide +kernel, mw_3, mw_226, by decide +kernel⟩
theorem fs_X2_21 : mm_FS RX2 21 2 1 := ⟨RX2, TX2, 4, rfl, by decide, iw_2, mw_142⟩
theorem vs_X2_39 : mm_VS RX2 39 3 yX3_copyFrom cX3_copyFrom 3 (Option.none : Option Jvm.ClassFile.FieldType) 1 := ⟨⟨TX3, 9, rfl⟩, mw_230, mw_231, List.mem_of_getElem? (i := 277) (by decide +kernel), by decide +kernel, mw_5, mw_233, by decide +kernel⟩
theorem fs_X2_48 : mm_FS RX2 48 2 3 := ⟨RX2, TX2, 4, rfl, by decide, iw_2, mw_145⟩
theorem ps_X2_48 : mm_PS RX2 48 2 3 false .int := ⟨RX2, TX2, 4, tyX2, rfl, by decide, iw_2, mw_145, tyX2_ok, nmX2, rfl, by decide +kernel, fun h => by cases h⟩
theorem vs_X0_25 : mm_VS RX0 25 2 yX2_copyFrom cX2_copyFrom 2 (Option.none : Option Jvm.ClassFile.FieldType) 1 := ⟨⟨TX2, 4, rfl⟩, mw_219, mw_220, List.mem_of_getElem? (i := 266) (by decide +kernel), by decide +kernel, mw_2, mw_222, by decide +kernel⟩
theorem vs_X0_22 : mm_VS RX0 22 0 yX0_dropOldest cX0_dropOldest 3 (Option.none : Option Jvm.ClassFile.FieldType) 0 := ⟨⟨TX0, 2, rfl⟩, mw_215, mw_217, List.mem_of_getElem? (i := 0) (by decide +kernel), by decide +kernel, mw_7, mw_218, by decide +kernel⟩
theorem ss_X6_33 : mm_SS RX6 33 yX6_isWithin cX6_isWithin 3 (Option.some Jvm.ClassFile.FieldType.boolean) 3 := ⟨mw_204, mw_205, mw_1, mw_206, by decide +kernel⟩
theorem fs_X6_10 : mm_FS RX6 10 6 0 := ⟨RX6, TX6, 4, rfl, by decide, iw_6, mw_187⟩
theorem vs_X6_37 : mm_VS RX6 37 2 yX2_laidCells cX2_laidCells 6 (Option.some Jvm.ClassFile.FieldType.int) 0 := ⟨⟨TX2, 4, rfl⟩, mw_207, mw_208, List.mem_of_getElem? (i := 254) (by decide +kernel), by decide +kernel, mw_2, mw_210, by decide +kernel⟩
theorem fs_X6_22 : mm_FS RX6 22 6 2 := ⟨RX6, TX6, 4, rfl, by decide, iw_6, mw_189⟩
theorem vs_X6_41 : mm_VS RX6 41 0 yX0_keep cX0_keep 2 (Option.none : Option Jvm.ClassFile.FieldType) 1 := ⟨⟨TX0, 2, rfl⟩, mw_211, mw_212, List.mem_of_getElem? (i := 258) (by decide +kernel), by decide +kernel, mw_7, mw_214, by decide +kernel⟩
theorem fs_X6_45 : mm_FS RX6 45 2 0 := ⟨RX2, TX2, 4, rfl, by decide, iw_2, mw_141⟩
theorem vs_X6_49 : mm_VS RX6 49 1 yX1_begin cX1_begin 3 (Option.none : Option Jvm.ClassFile.FieldType) 2 := ⟨⟨TX1, 6, rfl⟩, mw_241, mw_33, List.mem_of_getElem? (i := 79) (by decide +kernel), by decide +kernel, mw_3, mw_35, by decide +kernel⟩
theorem vs_X3_73 : mm_VS RX3 73 3 yX3_tesseraeAtHand cX3_tesseraeAtHand 6 (Option.some Jvm.ClassFile.FieldType.int) 0 := ⟨⟨TX3, 9, rfl⟩, mw_254, mw_255, List.mem_of_getElem? (i := 301) (by decide +kernel), by decide +kernel, mw_5, mw_257, by decide +kernel⟩
theorem ss_X3_76 : mm_SS RX3 76 yJ7_fill_53178 cJ7_fill_53178 4 (Option.none : Option Jvm.ClassFile.FieldType) 2 := ⟨mw_258, mw_37, mw_4, mw_38, by decide +kernel⟩
theorem fs_X6_125 : mm_FS RX6 125 2 1 := ⟨RX2, TX2, 4, rfl, by decide, iw_2, mw_143⟩
theorem fs_X6_162 : mm_FS RX6 162 3 3 := ⟨RX3, TX3, 9, rfl, by decide, iw_3, mw_109⟩
theorem vs_X6_217 : mm_VS RX6 217 3 yX3_throwAway cX3_throwAway 1 (Option.none : Option Jvm.ClassFile.FieldType) 0 := ⟨⟨TX3, 9, rfl⟩, mw_250, mw_251, List.mem_of_getElem? (i := 297) (by decide +kernel), by decide +kernel, mw_5, mw_253, by decide +kernel⟩
theorem ps_X6_162 : mm_PS RX6 162 3 3 false .int := ⟨RX3, TX3, 9, tyX3, rfl, by decide, iw_3, mw_109, tyX3_ok, nmX3, rfl, by decide +kernel, fun h => by cases h⟩
theorem fs_X6_172 : mm_FS RX6 172 3 4 := ⟨RX3, TX3, 9, rfl, by decide, iw_3, mw_111⟩
theorem ps_X6_172 : mm_PS RX6 172 3 4 false .int := ⟨RX3, TX3, 9, tyX3, rfl, by decide, iw_3, mw_111, tyX3_ok, nmX3, rfl, by decide +kernel, fun h => by cases h⟩
theorem vs_X6_55 : mm_VS RX6 55 6 yX6_changeSize cX6_changeSize 3 (Option.some Jvm.ClassFile.FieldType.int) 1 := ⟨⟨TX6, 4, rfl⟩, mw_246, mw_248, List.mem_of_getElem? (i := 1) (by decide +kernel), by decide +kernel, mw_1, mw_249, by decide +kernel⟩
theorem vs_X6_59 : mm_VS RX6 59 6 yX6_changeLoss cX6_changeLoss 3 (Option.some Jvm.ClassFile.FieldType.int) 1 := ⟨⟨TX6, 4, rfl⟩, mw_259, mw_261, List.mem_of_getElem? (i := 2) (by decide +kernel), by decide +kernel, mw_1, mw_262, by decide +kernel⟩
theorem fs_X5_15 : mm_FS RX5 15 5 1 := ⟨RX5, TX5, 2, rfl, by decide, iw_5, mw_179⟩
theorem fs_X5_9 : mm_FS RX5 9 5 0 := ⟨RX5, TX5, 2, rfl, by decide, iw_5, mw_178⟩
theorem ss_X5_19 : mm_SS RX5 19 yX5_isDigit cX5_isDigit 1 (Option.some Jvm.ClassFile.FieldType.boolean) 1 := ⟨mw_271, mw_272, mw_8, mw_273, by decide +kernel⟩
theorem mc_min : Cond.code Lib.Math.min.name Lib.Math.min.code 2 (some .int) ∈ mm_gw := mm_gwI 329 (by decide +kernel) (by decide +kernel)
theorem vs_X1_47 : mm_VS RX1 47 5 yX5_readShades cX5_readShades 5 (Option.some Jvm.ClassFile.FieldType.int) 1 := ⟨⟨TX5, 2, rfl⟩, mw_278, mw_279, List.mem_of_getElem? (i := 325) (by decide +kernel), by decide +kernel, mw_8, mw_281, by decide +kernel⟩
theorem fs_X6_29 : mm_FS RX6 29 6 3 := ⟨RX6, TX6, 4, rfl, by decide, iw_6, mw_190⟩
theorem vs_X6_62 : mm_VS RX6 62 5 yX5_firstFaultOrNone cX5_firstFaultOrNone 5 (Option.some Jvm.ClassFile.FieldType.int) 0 := ⟨⟨TX5, 2, rfl⟩, mw_267, mw_268, List.mem_of_getElem? (i := 314) (by decide +kernel), by decide +kernel, mw_8, mw_270, by decide +kernel⟩
theorem vs_X6_65 : mm_VS RX6 65 1 yX1_takePattern cX1_takePattern 2 (Option.some Jvm.ClassFile.FieldType.int) 1 := ⟨⟨TX1, 6, rfl⟩, mw_274, mw_275, List.mem_of_getElem? (i := 321) (by decide +kernel), by decide +kernel, mw_3, mw_277, by decide +kernel⟩
theorem fs_X6_69 : mm_FS RX6 69 1 3 := ⟨RX1, TX1, 6, rfl, by decide, iw_1, mw_44⟩
theorem ps_X6_69 : mm_PS RX6 69 1 3 false .int := ⟨RX1, TX1, 6, tyX1, rfl, by decide, iw_1, mw_44, tyX1_ok, nmX1, rfl, by decide +kernel, fun h => by cases h⟩
theorem vs_X2_52 : mm_VS RX2 52 1 yX1_hasCell cX1_hasCell 3 (Option.some Jvm.ClassFile.FieldType.boolean) 2 := ⟨⟨TX1, 6, rfl⟩, mw_312, mw_294, List.mem_of_getElem? (i := 340) (by decide +kernel), by decide +kernel, mw_3, mw_296, by decide +kernel⟩
theorem vs_X2_56 : mm_VS RX2 56 2 yX2_laidOrNone cX2_laidOrNone 3 (Option.some Jvm.ClassFile.FieldType.int) 2 := ⟨⟨TX2, 4, rfl⟩, mw_308, mw_309, List.mem_of_getElem? (i := 355) (by decide +kernel), by decide +kernel, mw_2, mw_311, by decide +kernel⟩
theorem vs_X1_53 : mm_VS RX1 53 1 yX1_halfOfBorder cX1_halfOfBorder 1 (Option.some Jvm.ClassFile.FieldType.int) 0 := ⟨⟨TX1, 6, rfl⟩, mw_323, mw_325, List.mem_of_getElem? (i := 3) (by decide +kernel), by decide +kernel, mw_3, mw_326, by decide +kernel⟩
theorem vs_X1_83 : mm_VS RX1 83 1 yX1_patternShade cX1_patternShade 3 (Option.some Jvm.ClassFile.FieldType.int) 1 := ⟨⟨TX1, 6, rfl⟩, mw_332, mw_333, List.mem_of_getElem? (i := 379) (by decide +kernel), by decide +kernel, mw_3, mw_335, by decide +kernel⟩
theorem vs_X1_86 : mm_VS RX1 86 1 yX1_cellsOfWholePatterns cX1_cellsOfWholePatterns 2 (Option.some Jvm.ClassFile.FieldType.int) 1 := ⟨⟨TX1, 6, rfl⟩, mw_336, mw_338, List.mem_of_getElem? (i := 5) (by decide +kernel), by decide +kernel, mw_3, mw_339, by decide +kernel⟩
theorem vs_X1_69 : mm_VS RX1 69 1 yX1_hasCell cX1_hasCell 3 (Option.some Jvm.ClassFile.FieldType.boolean) 2 := ⟨⟨TX1, 6, rfl⟩, mw_317, mw_294, List.mem_of_getElem? (i := 340) (by decide +kernel), by decide +kernel, mw_3, mw_296, by decide +kernel⟩
theorem vs_X1_73 : mm_VS RX1 73 1 yX1_isBorder cX1_isBorder 3 (Option.some Jvm.ClassFile.FieldType.boolean) 2 := ⟨⟨TX1, 6, rfl⟩, mw_318, mw_301, List.mem_of_getElem? (i := 347) (by decide +kernel), by decide +kernel, mw_3, mw_303, by decide +kernel⟩
theorem vs_X1_76 : mm_VS RX1 76 1 yX1_borderNumberAt cX1_borderNumberAt 3 (Option.some Jvm.ClassFile.FieldType.int) 2 := ⟨⟨TX1, 6, rfl⟩, mw_319, mw_320, List.mem_of_getElem? (i := 366) (by decide +kernel), by decide +kernel, mw_3, mw_322, by decide +kernel⟩
theorem vs_X1_79 : mm_VS RX1 79 1 yX1_wantedInBorder cX1_wantedInBorder 6 (Option.some Jvm.ClassFile.FieldType.int) 1 := ⟨⟨TX1, 6, rfl⟩, mw_327, mw_329, List.mem_of_getElem? (i := 4) (by decide +kernel), by decide +kernel, mw_3, mw_330, by decide +kernel⟩
theorem vs_X6_73 : mm_VS RX6 73 1 yX1_hasCell cX1_hasCell 3 (Option.some Jvm.ClassFile.FieldType.boolean) 2 := ⟨⟨TX1, 6, rfl⟩, mw_293, mw_294, List.mem_of_getElem? (i := 340) (by decide +kernel), by decide +kernel, mw_3, mw_296, by decide +kernel⟩
theorem ss_X6_77 : mm_SS RX6 77 yX6_isShade cX6_isShade 1 (Option.some Jvm.ClassFile.FieldType.boolean) 1 := ⟨mw_297, mw_298, mw_1, mw_299, by decide +kernel⟩
theorem vs_X6_81 : mm_VS RX6 81 1 yX1_isBorder cX1_isBorder 3 (Option.some Jvm.ClassFile.FieldType.boolean) 2 := ⟨⟨TX1, 6, rfl⟩, mw_300, mw_301, List.mem_of_getElem? (i := 347) (by decide +kernel), by decide +kernel, mw_3, mw_303, by decide +kernel⟩
theorem vs_X6_84 : mm_VS RX6 84 2 yX2_isLaid cX2_isLaid 3 (Option.some Jvm.ClassFile.FieldType.boolean) 2 := ⟨⟨TX2, 4, rfl⟩, mw_304, mw_305, List.mem_of_getElem? (i := 351) (by decide +kernel), by decide +kernel, mw_2, mw_307, by decide +kernel⟩
theorem vs_X6_87 : mm_VS RX6 87 1 yX1_wantedAt cX1_wantedAt 3 (Option.some Jvm.ClassFile.FieldType.int) 2 := ⟨⟨TX1, 6, rfl⟩, mw_313, mw_314, List.mem_of_getElem? (i := 360) (by decide +kernel), by decide +kernel, mw_3, mw_316, by decide +kernel⟩
theorem vs_X6_91 : mm_VS RX6 91 1 yX1_wantInField cX1_wantInField 4 (Option.none : Option Jvm.ClassFile.FieldType) 3 := ⟨⟨TX1, 6, rfl⟩, mw_340, mw_341, List.mem_of_getElem? (i := 387) (by decide +kernel), by decide +kernel, mw_3, mw_343, by decide +kernel⟩
theorem vs_X2_60 : mm_VS RX2 60 2 yX2_isLaid cX2_isLaid 3 (Option.some Jvm.ClassFile.FieldType.boolean) 2 := ⟨⟨TX2, 4, rfl⟩, mw_353, mw_305, List.mem_of_getElem? (i := 351) (by decide +kernel), by decide +kernel, mw_2, mw_307, by decide +kernel⟩
theorem vs_X2_63 : mm_VS RX2 63 1 yX1_wantedAt cX1_wantedAt 3 (Option.some Jvm.ClassFile.FieldType.int) 2 := ⟨⟨TX1, 6, rfl⟩, mw_354, mw_314, List.mem_of_getElem? (i := 360) (by decide +kernel), by decide +kernel, mw_3, mw_316, by decide +kernel⟩
theorem mc_abs : Cond.code Lib.Math.abs.name Lib.Math.abs.code 1 (some .int) ∈ mm_gw := mm_gwI 402 (by decide +kernel) (by decide +kernel)
theorem vs_X6_95 : mm_VS RX6 95 2 yX2_laidOrNone cX2_laidOrNone 3 (Option.some Jvm.ClassFile.FieldType.int) 2 := ⟨⟨TX2, 4, rfl⟩, mw_348, mw_309, List.mem_of_getElem? (i := 355) (by decide +kernel), by decide +kernel, mw_2, mw_311, by decide +kernel⟩
theorem vs_X6_98 : mm_VS RX6 98 2 yX2_differenceAt cX2_differenceAt 3 (Option.some Jvm.ClassFile.FieldType.int) 2 := ⟨⟨TX2, 4, rfl⟩, mw_349, mw_350, List.mem_of_getElem? (i := 396) (by decide +kernel), by decide +kernel, mw_2, mw_352, by decide +kernel⟩
theorem vs_X6_101 : mm_VS RX6 101 1 yX1_borderNumberAt cX1_borderNumberAt 3 (Option.some Jvm.ClassFile.FieldType.int) 2 := ⟨⟨TX1, 6, rfl⟩, mw_358, mw_320, List.mem_of_getElem? (i := 366) (by decide +kernel), by decide +kernel, mw_3, mw_322, by decide +kernel⟩
theorem vs_X1_89 : mm_VS RX1 89 1 yX1_patternHasOneShade cX1_patternHasOneShade 2 (Option.some Jvm.ClassFile.FieldType.boolean) 0 := ⟨⟨TX1, 6, rfl⟩, mw_375, mw_377, List.mem_of_getElem? (i := 7) (by decide +kernel), by decide +kernel, mw_3, mw_378, by decide +kernel⟩
theorem vs_X1_66 : mm_VS RX1 66 1 yX1_borderCells cX1_borderCells 1 (Option.some Jvm.ClassFile.FieldType.int) 0 := ⟨⟨TX1, 6, rfl⟩, mw_379, mw_368, List.mem_of_getElem? (i := 414) (by decide +kernel), by decide +kernel, mw_3, mw_370, by decide +kernel⟩
theorem fs_X6_220 : mm_FS RX6 220 1 4 := ⟨RX1, TX1, 6, rfl, by decide, iw_1, mw_47⟩
theorem fs_X6_223 : mm_FS RX6 223 1 5 := ⟨RX1, TX1, 6, rfl, by decide, iw_1, mw_50⟩
theorem vs_X6_226 : mm_VS RX6 226 1 yX1_borderCells cX1_borderCells 1 (Option.some Jvm.ClassFile.FieldType.int) 0 := ⟨⟨TX1, 6, rfl⟩, mw_367, mw_368, List.mem_of_getElem? (i := 414) (by decide +kernel), by decide +kernel, mw_3, mw_370, by decide +kernel⟩
theorem fs_X6_113 : mm_FS RX6 113 1 2 := ⟨RX1, TX1, 6, rfl, by decide, iw_1, mw_42⟩
theorem vs_X6_229 : mm_VS RX6 229 1 yX1_borderMeets cX1_borderMeets 4 (Option.some Jvm.ClassFile.FieldType.boolean) 0 := ⟨⟨TX1, 6, rfl⟩, mw_371, mw_372, List.mem_of_getElem? (i := 418) (by decide +kernel), by decide +kernel, mw_3, mw_374, by decide +kernel⟩
theorem fs_X2_72 : mm_FS RX2 72 1 5 := ⟨RX1, TX1, 6, rfl, by decide, iw_1, mw_49⟩
theorem fs_X2_75 : mm_FS RX2 75 1 4 := ⟨RX1, TX1, 6, rfl, by decide, iw_1, mw_46⟩
theorem vs_X2_78 : mm_VS RX2 78 2 yX2_differenceAt cX2_differenceAt 3 (Option.some Jvm.ClassFile.FieldType.int) 2 := ⟨⟨TX2, 4, rfl⟩, mw_388, mw_350, List.mem_of_getElem? (i := 396) (by decide +kernel), by decide +kernel, mw_2, mw_352, by decide +kernel⟩
theorem mc_max : Cond.code Lib.Math.max.name Lib.Math.max.code 2 (some .int) ∈ mm_gw := mm_gwI 440 (by decide +kernel) (by decide +kernel)
theorem vs_X6_210 : mm_VS RX6 210 2 yX2_sumOfDifferences cX2_sumOfDifferences 4 (Option.some Jvm.ClassFile.FieldType.int) 0 := ⟨⟨TX2, 4, rfl⟩, mw_384, mw_385, List.mem_of_getElem? (i := 431) (by decide +kernel), by decide +kernel, mw_2, mw_387, by decide +kernel⟩
theorem vs_X6_233 : mm_VS RX6 233 2 yX2_greatestDifference cX2_greatestDifference 4 (Option.some Jvm.ClassFile.FieldType.int) 0 := ⟨⟨TX2, 4, rfl⟩, mw_389, mw_390, List.mem_of_getElem? (i := 436) (by decide +kernel), by decide +kernel, mw_2, mw_392, by decide +kernel⟩
theorem fs_X6_129 : mm_FS RX6 129 3 2 := ⟨RX3, TX3, 9, rfl, by decide, iw_3, mw_107⟩
theorem vs_X6_236 : mm_VS RX6 236 3 yX3_tesseraeAtHand cX3_tesseraeAtHand 6 (Option.some Jvm.ClassFile.FieldType.int) 0 := ⟨⟨TX3, 9, rfl⟩, mw_396, mw_255, List.mem_of_getElem? (i := 301) (by decide +kernel), by decide +kernel, mw_5, mw_257, by decide +kernel⟩
theorem fs_X6_239 : mm_FS RX6 239 3 5 := ⟨RX3, TX3, 9, rfl, by decide, iw_3, mw_113⟩
theorem fs_X6_242 : mm_FS RX6 242 2 3 := ⟨RX2, TX2, 4, rfl, by decide, iw_2, mw_146⟩
theorem vs_X6_119 : mm_VS RX6 119 0 yX0_states cX0_states 1 (Option.some Jvm.ClassFile.FieldType.int) 0 := ⟨⟨TX0, 2, rfl⟩, mw_397, mw_398, List.mem_of_getElem? (i := 444) (by decide +kernel), by decide +kernel, mw_7, mw_400, by decide +kernel⟩
theorem fs_X6_213 : mm_FS RX6 213 5 1 := ⟨RX5, TX5, 2, rfl, by decide, iw_5, mw_180⟩
theorem fs_X3_58 : mm_FS RX3 58 4 2 := ⟨RX4, TX4, 6, rfl, by decide, iw_4, mw_82⟩
theorem vs_X3_61 : mm_VS RX3 61 4 yX4_left cX4_left 1 (Option.some Jvm.ClassFile.FieldType.int) 0 := ⟨⟨TX4, 6, rfl⟩, mw_413, mw_414, List.mem_of_getElem? (i := 460) (by decide +kernel), by decide +kernel, mw_6, mw_416, by decide +kernel⟩
theorem vs_X6_245 : mm_VS RX6 245 3 yX3_lengthOfStrips cX3_lengthOfStrips 6 (Option.some Jvm.ClassFile.FieldType.int) 0 := ⟨⟨TX3, 9, rfl⟩, mw_405, mw_406, List.mem_of_getElem? (i := 452) (by decide +kernel), by decide +kernel, mw_5, mw_408, by decide +kernel⟩
theorem vs_X6_248 : mm_VS RX6 248 3 yX3_leftOfStrips cX3_leftOfStrips 6 (Option.some Jvm.ClassFile.FieldType.int) 0 := ⟨⟨TX3, 9, rfl⟩, mw_409, mw_410, List.mem_of_getElem? (i := 456) (by decide +kernel), by decide +kernel, mw_5, mw_412, by decide +kernel⟩
theorem fs_X6_251 : mm_FS RX6 251 3 6 := ⟨RX3, TX3, 9, rfl, by decide, iw_3, mw_115⟩
theorem fs_X6_254 : mm_FS RX6 254 3 7 := ⟨RX3, TX3, 9, rfl, by decide, iw_3, mw_117⟩
theorem fs_X6_257 : mm_FS RX6 257 3 8 := ⟨RX3, TX3, 9, rfl, by decide, iw_3, mw_119⟩
theorem vs_X6_110 : mm_VS RX6 110 6 yX6_account cX6_account 2 (Option.some Jvm.ClassFile.FieldType.int) 1 := ⟨⟨TX6, 4, rfl⟩, mw_401, mw_403, List.mem_of_getElem? (i := 9) (by decide +kernel), by decide +kernel, mw_1, mw_404, by decide +kernel⟩
theorem vs_X6_107 : mm_VS RX6 107 6 yX6_countOfWork cX6_countOfWork 2 (Option.some Jvm.ClassFile.FieldType.int) 1 := ⟨⟨TX6, 4, rfl⟩, mw_380, mw_382, List.mem_of_getElem? (i := 8) (by decide +kernel), by decide +kernel, mw_1, mw_383, by decide +kernel⟩
theorem vs_X6_104 : mm_VS RX6 104 6 yX6_countOfPlan cX6_countOfPlan 2 (Option.some Jvm.ClassFile.FieldType.int) 1 := ⟨⟨TX6, 4, rfl⟩, mw_363, mw_365, List.mem_of_getElem? (i := 6) (by decide +kernel), by decide +kernel, mw_1, mw_366, by decide +kernel⟩
theorem vs_X6_116 : mm_VS RX6 116 1 yX1_patternShade cX1_patternShade 3 (Option.some Jvm.ClassFile.FieldType.int) 1 := ⟨⟨TX1, 6, rfl⟩, mw_421, mw_333, List.mem_of_getElem? (i := 379) (by decide +kernel), by decide +kernel, mw_3, mw_335, by decide +kernel⟩
theorem vs_X6_122 : mm_VS RX6 122 0 yX0_restore cX0_restore 2 (Option.none : Option Jvm.ClassFile.FieldType) 1 := ⟨⟨TX0, 2, rfl⟩, mw_426, mw_427, List.mem_of_getElem? (i := 473) (by decide +kernel), by decide +kernel, mw_7, mw_429, by decide +kernel⟩
theorem vs_X3_54 : mm_VS RX3 54 4 yX4_begin cX4_begin 3 (Option.none : Option Jvm.ClassFile.FieldType) 2 := ⟨⟨TX4, 6, rfl⟩, mw_438, mw_439, List.mem_of_getElem? (i := 485) (by decide +kernel), by decide +kernel, mw_6, mw_441, by decide +kernel⟩
theorem vs_X6_134 : mm_VS RX6 134 3 yX3_addStrip cX3_addStrip 4 (Option.some Jvm.ClassFile.FieldType.int) 2 := ⟨⟨TX3, 9, rfl⟩, mw_434, mw_435, List.mem_of_getElem? (i := 481) (by decide +kernel), by decide +kernel, mw_5, mw_437, by decide +kernel⟩
theorem vs_X6_137 : mm_VS RX6 137 3 yX3_stripOrNull cX3_stripOrNull 2 (Option.some (Jvm.ClassFile.FieldType.object "MosaicFloor$Strip")) 1 := ⟨⟨TX3, 9, rfl⟩, mw_446, mw_447, List.mem_of_getElem? (i := 493) (by decide +kernel), by decide +kernel, mw_5, mw_449, by decide +kernel⟩
theorem fs_X6_141 : mm_FS RX6 141 4 4 := ⟨RX4, TX4, 6, rfl, by decide, iw_4, mw_88⟩
theorem fs_X6_146 : mm_FS RX6 146 4 2 := ⟨RX4, TX4, 6, rfl, by decide, iw_4, mw_83⟩
theorem vs_X6_149 : mm_VS RX6 149 4 yX4_hasFlawIn cX4_hasFlawIn 4 (Option.some Jvm.ClassFile.FieldType.boolean) 2 := ⟨⟨TX4, 6, rfl⟩, mw_450, mw_451, List.mem_of_getElem? (i := 497) (by decide +kernel), by decide +kernel, mw_6, mw_453, by decide +kernel⟩
theorem fs_X6_152 : mm_FS RX6 152 4 1 := ⟨RX4, TX4, 6, rfl, by decide, iw_4, mw_80⟩
theorem vs_X6_155 : mm_VS RX6 155 4 yX4_addFlaw cX4_addFlaw 2 (Option.none : Option Jvm.ClassFile.FieldType) 1 := ⟨⟨TX4, 6, rfl⟩, mw_454, mw_455, List.mem_of_getElem? (i := 501) (by decide +kernel), by decide +kernel, mw_6, mw_457, by decide +kernel⟩
theorem vs_X4_41 : mm_VS RX4 41 4 yX4_hasFlawIn cX4_hasFlawIn 4 (Option.some Jvm.ClassFile.FieldType.boolean) 2 := ⟨⟨TX4, 6, rfl⟩, mw_471, mw_451, List.mem_of_getElem? (i := 497) (by decide +kernel), by decide +kernel, mw_6, mw_453, by decide +kernel⟩
theorem sn_X3_65 : mm_SN RX3 65 yX6_isShade RX6 cX6_isShade 1 (Option.some Jvm.ClassFile.FieldType.boolean) 1 := ⟨mw_298, mw_1, mw_299, by decide +kernel⟩
theorem vs_X3_116 : mm_VS RX3 116 4 yX4_cutOff cX4_cutOff 4 (Option.some Jvm.ClassFile.FieldType.boolean) 2 := ⟨⟨TX4, 6, rfl⟩, mw_467, mw_468, List.mem_of_getElem? (i := 514) (by decide +kernel), by decide +kernel, mw_6, mw_470, by decide +kernel⟩
theorem vs_X3_123 : mm_VS RX3 123 3 yX3_addBroken cX3_addBroken 1 (Option.none : Option Jvm.ClassFile.FieldType) 0 := ⟨⟨TX3, 9, rfl⟩, mw_478, mw_479, List.mem_of_getElem? (i := 525) (by decide +kernel), by decide +kernel, mw_5, mw_481, by decide +kernel⟩
theorem fs_X3_82 : mm_FS RX3 82 4 3 := ⟨RX4, TX4, 6, rfl, by decide, iw_4, mw_85⟩
theorem vs_X3_119 : mm_VS RX3 119 3 yX3_putAtHand cX3_putAtHand 2 (Option.none : Option Jvm.ClassFile.FieldType) 1 := ⟨⟨TX3, 9, rfl⟩, mw_473, mw_474, List.mem_of_getElem? (i := 520) (by decide +kernel), by decide +kernel, mw_5, mw_476, by decide +kernel⟩
theorem vs_X6_159 : mm_VS RX6 159 4 yX4_left cX4_left 1 (Option.some Jvm.ClassFile.FieldType.int) 0 := ⟨⟨TX4, 6, rfl⟩, mw_462, mw_414, List.mem_of_getElem? (i := 460) (by decide +kernel), by decide +kernel, mw_6, mw_416, by decide +kernel⟩
theorem vs_X6_165 : mm_VS RX6 165 3 yX3_cutFrom cX3_cutFrom 4 (Option.some Jvm.ClassFile.FieldType.boolean) 1 := ⟨⟨TX3, 9, rfl⟩, mw_463, mw_464, List.mem_of_getElem? (i := 510) (by decide +kernel), by decide +kernel, mw_5, mw_466, by decide +kernel⟩
theorem vs_X4_37 : mm_VS RX4 37 4 yX4_tesseraeAhead cX4_tesseraeAhead 5 (Option.some Jvm.ClassFile.FieldType.int) 2 := ⟨⟨TX4, 6, rfl⟩, mw_494, mw_487, List.mem_of_getElem? (i := 533) (by decide +kernel), by decide +kernel, mw_6, mw_489, by decide +kernel⟩
theorem fs_X6_169 : mm_FS RX6 169 4 3 := ⟨RX4, TX4, 6, rfl, by decide, iw_4, mw_86⟩
theorem vs_X6_175 : mm_VS RX6 175 4 yX4_tesseraeAhead cX4_tesseraeAhead 5 (Option.some Jvm.ClassFile.FieldType.int) 2 := ⟨⟨TX4, 6, rfl⟩, mw_486, mw_487, List.mem_of_getElem? (i := 533) (by decide +kernel), by decide +kernel, mw_6, mw_489, by decide +kernel⟩
theorem vs_X6_178 : mm_VS RX6 178 4 yX4_goodTesseraeAhead cX4_goodTesseraeAhead 7 (Option.some Jvm.ClassFile.FieldType.int) 2 := ⟨⟨TX4, 6, rfl⟩, mw_490, mw_491, List.mem_of_getElem? (i := 537) (by decide +kernel), by decide +kernel, mw_6, mw_493, by decide +kernel⟩
theorem fs_X6_181 : mm_FS RX6 181 4 5 := ⟨RX4, TX4, 6, rfl, by decide, iw_4, mw_90⟩
theorem ss_X3_89 : mm_SS RX3 89 yX3_nearer cX3_nearer 5 (Option.some Jvm.ClassFile.FieldType.int) 3 := ⟨mw_507, mw_508, mw_5, mw_509, by decide +kernel⟩
theorem vs_X3_93 : mm_VS RX3 93 4 yX4_givesGood cX4_givesGood 6 (Option.some Jvm.ClassFile.FieldType.boolean) 2 := ⟨⟨TX4, 6, rfl⟩, mw_512, mw_513, List.mem_of_getElem? (i := 559) (by decide +kernel), by decide +kernel, mw_6, mw_515, by decide +kernel⟩
theorem vs_X2_84 : mm_VS RX2 84 3 yX3_nearestShadeOrNone cX3_nearestShadeOrNone 7 (Option.some Jvm.ClassFile.FieldType.int) 1 := ⟨⟨TX3, 9, rfl⟩, mw_503, mw_504, List.mem_of_getElem? (i := 550) (by decide +kernel), by decide +kernel, mw_5, mw_506, by decide +kernel⟩
theorem vs_X3_69 : mm_VS RX3 69 3 yX3_atHandOf cX3_atHandOf 2 (Option.some Jvm.ClassFile.FieldType.int) 1 := ⟨⟨TX3, 9, rfl⟩, mw_525, mw_527, List.mem_of_getElem? (i := 10) (by decide +kernel), by decide +kernel, mw_5, mw_528, by decide +kernel⟩
theorem vs_X3_105 : mm_VS RX3 105 3 yX3_firstStripGivingOrNull cX3_firstStripGivingOrNull 6 (Option.some (Jvm.ClassFile.FieldType.object "MosaicFloor$Strip")) 1 := ⟨⟨TX3, 9, rfl⟩, mw_529, mw_531, List.mem_of_getElem? (i := 11) (by decide +kernel), by decide +kernel, mw_5, mw_532, by decide +kernel⟩
theorem vs_X3_109 : mm_VS RX3 109 4 yX4_tesseraeAhead cX4_tesseraeAhead 5 (Option.some Jvm.ClassFile.FieldType.int) 2 := ⟨⟨TX4, 6, rfl⟩, mw_533, mw_487, List.mem_of_getElem? (i := 533) (by decide +kernel), by decide +kernel, mw_6, mw_489, by decide +kernel⟩
theorem vs_X3_112 : mm_VS RX3 112 3 yX3_cutFrom cX3_cutFrom 4 (Option.some Jvm.ClassFile.FieldType.boolean) 1 := ⟨⟨TX3, 9, rfl⟩, mw_534, mw_464, List.mem_of_getElem? (i := 510) (by decide +kernel), by decide +kernel, mw_5, mw_466, by decide +kernel⟩
theorem vs_X2_87 : mm_VS RX2 87 2 yX2_shadeForOrNone cX2_shadeForOrNone 3 (Option.some Jvm.ClassFile.FieldType.int) 2 := ⟨⟨TX2, 4, rfl⟩, mw_520, mw_500, List.mem_of_getElem? (i := 546) (by decide +kernel), by decide +kernel, mw_2, mw_502, by decide +kernel⟩
theorem vs_X2_90 : mm_VS RX2 90 3 yX3_bringToHand cX3_bringToHand 5 (Option.none : Option Jvm.ClassFile.FieldType) 1 := ⟨⟨TX3, 9, rfl⟩, mw_521, mw_522, List.mem_of_getElem? (i := 568) (by decide +kernel), by decide +kernel, mw_5, mw_524, by decide +kernel⟩
theorem vs_X2_94 : mm_VS RX2 94 3 yX3_takeFromHand cX3_takeFromHand 2 (Option.none : Option Jvm.ClassFile.FieldType) 1 := ⟨⟨TX3, 9, rfl⟩, mw_535, mw_536, List.mem_of_getElem? (i := 582) (by decide +kernel), by decide +kernel, mw_5, mw_538, by decide +kernel⟩
theorem vs_X2_97 : mm_VS RX2 97 2 yX2_putAt cX2_putAt 4 (Option.none : Option Jvm.ClassFile.FieldType) 3 := ⟨⟨TX2, 4, rfl⟩, mw_539, mw_541, List.mem_of_getElem? (i := 12) (by decide +kernel), by decide +kernel, mw_2, mw_542, by decide +kernel⟩
theorem vs_X6_184 : mm_VS RX6 184 2 yX2_shadeForOrNone cX2_shadeForOrNone 3 (Option.some Jvm.ClassFile.FieldType.int) 2 := ⟨⟨TX2, 4, rfl⟩, mw_499, mw_500, List.mem_of_getElem? (i := 546) (by decide +kernel), by decide +kernel, mw_2, mw_502, by decide +kernel⟩
theorem vs_X6_187 : mm_VS RX6 187 2 yX2_layCellIfPossible cX2_layCellIfPossible 4 (Option.none : Option Jvm.ClassFile.FieldType) 2 := ⟨⟨TX2, 4, rfl⟩, mw_516, mw_517, List.mem_of_getElem? (i := 563) (by decide +kernel), by decide +kernel, mw_2, mw_519, by decide +kernel⟩
theorem vs_X2_101 : mm_VS RX2 101 2 yX2_laidCells cX2_laidCells 6 (Option.some Jvm.ClassFile.FieldType.int) 0 := ⟨⟨TX2, 4, rfl⟩, mw_551, mw_208, List.mem_of_getElem? (i := 254) (by decide +kernel), by decide +kernel, mw_2, mw_210, by decide +kernel⟩
theorem vs_X2_105 : mm_VS RX2 105 1 yX1_borderCells cX1_borderCells 1 (Option.some Jvm.ClassFile.FieldType.int) 0 := ⟨⟨TX1, 6, rfl⟩, mw_552, mw_368, List.mem_of_getElem? (i := 414) (by decide +kernel), by decide +kernel, mw_3, mw_370, by decide +kernel⟩
theorem vs_X2_108 : mm_VS RX2 108 1 yX1_columnOf cX1_columnOf 2 (Option.some Jvm.ClassFile.FieldType.int) 1 := ⟨⟨TX1, 6, rfl⟩, mw_553, mw_554, List.mem_of_getElem? (i := 600) (by decide +kernel), by decide +kernel, mw_3, mw_556, by decide +kernel⟩
theorem vs_X2_111 : mm_VS RX2 111 1 yX1_rowOf cX1_rowOf 2 (Option.some Jvm.ClassFile.FieldType.int) 1 := ⟨⟨TX1, 6, rfl⟩, mw_558, mw_559, List.mem_of_getElem? (i := 605) (by decide +kernel), by decide +kernel, mw_3, mw_561, by decide +kernel⟩
theorem vs_X2_114 : mm_VS RX2 114 2 yX2_layCellIfPossible cX2_layCellIfPossible 4 (Option.none : Option Jvm.ClassFile.FieldType) 2 := ⟨⟨TX2, 4, rfl⟩, mw_562, mw_517, List.mem_of_getElem? (i := 563) (by decide +kernel), by decide +kernel, mw_2, mw_519, by decide +kernel⟩
theorem vs_X6_190 : mm_VS RX6 190 2 yX2_layEmptyCells cX2_layEmptyCells 4 (Option.some Jvm.ClassFile.FieldType.int) 0 := ⟨⟨TX2, 4, rfl⟩, mw_547, mw_548, List.mem_of_getElem? (i := 594) (by decide +kernel), by decide +kernel, mw_2, mw_550, by decide +kernel⟩
theorem vs_X2_121 : mm_VS RX2 121 3 yX3_putAtHand cX3_putAtHand 2 (Option.none : Option Jvm.ClassFile.FieldType) 1 := ⟨⟨TX3, 9, rfl⟩, mw_572, mw_474, List.mem_of_getElem? (i := 520) (by decide +kernel), by decide +kernel, mw_5, mw_476, by decide +kernel⟩
theorem vs_X2_118 : mm_VS RX2 118 3 yX3_addBroken cX3_addBroken 1 (Option.none : Option Jvm.ClassFile.FieldType) 0 := ⟨⟨TX3, 9, rfl⟩, mw_571, mw_479, List.mem_of_getElem? (i := 525) (by decide +kernel), by decide +kernel, mw_5, mw_481, by decide +kernel⟩
theorem vs_X6_193 : mm_VS RX6 193 2 yX2_liftToHand cX2_liftToHand 4 (Option.some Jvm.ClassFile.FieldType.boolean) 2 := ⟨⟨TX2, 4, rfl⟩, mw_567, mw_568, List.mem_of_getElem? (i := 614) (by decide +kernel), by decide +kernel, mw_2, mw_570, by decide +kernel⟩
theorem vs_X3_85 : mm_VS RX3 85 4 yX4_goodTesseraeAhead cX4_goodTesseraeAhead 7 (Option.some Jvm.ClassFile.FieldType.int) 2 := ⟨⟨TX4, 6, rfl⟩, mw_585, mw_491, List.mem_of_getElem? (i := 537) (by decide +kernel), by decide +kernel, mw_6, mw_493, by decide +kernel⟩
theorem vs_X6_196 : mm_VS RX6 196 3 yX3_readyOf cX3_readyOf 7 (Option.some Jvm.ClassFile.FieldType.int) 1 := ⟨⟨TX3, 9, rfl⟩, mw_581, mw_582, List.mem_of_getElem? (i := 628) (by decide +kernel), by decide +kernel, mw_5, mw_584, by decide +kernel⟩
theorem vs_X2_124 : mm_VS RX2 124 3 yX3_readyOf cX3_readyOf 7 (Option.some Jvm.ClassFile.FieldType.int) 1 := ⟨⟨TX3, 9, rfl⟩, mw_594, mw_582, List.mem_of_getElem? (i := 628) (by decide +kernel), by decide +kernel, mw_5, mw_584, by decide +kernel⟩
theorem vs_X6_199 : mm_VS RX6 199 2 yX2_lackOf cX2_lackOf 5 (Option.some Jvm.ClassFile.FieldType.int) 1 := ⟨⟨TX2, 4, rfl⟩, mw_590, mw_591, List.mem_of_getElem? (i := 637) (by decide +kernel), by decide +kernel, mw_2, mw_593, by decide +kernel⟩
theorem fs_X6_16 : mm_FS RX6 16 6 1 := ⟨RX6, TX6, 4, rfl, by decide, iw_6, mw_188⟩
theorem vs_X6_207 : mm_VS RX6 207 2 yX2_copyFrom cX2_copyFrom 2 (Option.none : Option Jvm.ClassFile.FieldType) 1 := ⟨⟨TX2, 4, rfl⟩, mw_604, mw_220, List.mem_of_getElem? (i := 266) (by decide +kernel), by decide +kernel, mw_2, mw_222, by decide +kernel⟩
theorem ps_X5_15 : mm_PS RX5 15 5 1 false .int := ⟨RX5, TX5, 2, tyX5, rfl, by decide, iw_5, mw_179, tyX5_ok, nmX5, rfl, by decide +kernel, fun h => by cases h⟩
theorem vs_X6_214 : mm_VS RX6 214 5 yX5_append cX5_append 2 (Option.none : Option Jvm.ClassFile.FieldType) 1 := ⟨⟨TX5, 2, rfl⟩, mw_609, mw_610, List.mem_of_getElem? (i := 656) (by decide +kernel), by decide +kernel, mw_8, mw_612, by decide +kernel⟩
theorem ps_X6_213 : mm_PS RX6 213 5 1 false .int := ⟨RX5, TX5, 2, tyX5, rfl, by decide, iw_5, mw_180, tyX5_ok, nmX5, rfl, by decide +kernel, fun h => by cases h⟩
theorem fs_X7_7 : mm_FS RX7 7 7 0 := ⟨RX7, TX7, 8, rfl, by decide, iw_7, mw_631⟩
theorem ps_X7_7 : mm_PS RX7 7 7 0 true (.array .int) := ⟨RX7, TX7, 8, tyX7, rfl, by decide, iw_7, mw_631, tyX7_ok, nmX7, rfl, by decide +kernel, fun _ => rfl⟩
theorem ps_X7_13 : mm_PS RX7 13 7 1 true (.array .int) := ⟨RX7, TX7, 8, tyX7, rfl, by decide, iw_7, mw_632, tyX7_ok, nmX7, rfl, by decide +kernel, fun _ => rfl⟩
theorem ps_X7_16 : mm_PS RX7 16 7 2 true (.array .int) := ⟨RX7, TX7, 8, tyX7, rfl, by decide, iw_7, mw_633, tyX7_ok, nmX7, rfl, by decide +kernel, fun _ => rfl⟩
theorem ps_X7_19 : mm_PS RX7 19 7 4 true (.array .int) := ⟨RX7, TX7, 8, tyX7, rfl, by decide, iw_7, mw_635, tyX7_ok, nmX7, rfl, by decide +kernel, fun _ => rfl⟩
theorem ps_X7_22 : mm_PS RX7 22 7 6 true (.array .int) := ⟨RX7, TX7, 8, tyX7, rfl, by decide, iw_7, mw_637, tyX7_ok, nmX7, rfl, by decide +kernel, fun _ => rfl⟩
theorem vs_X7_25 : mm_VS RX7 25 7 yX7_beginWith cX7_beginWith 4 (Option.none : Option Jvm.ClassFile.FieldType) 2 := ⟨⟨TX7, 8, rfl⟩, mw_627, mw_629, List.mem_of_getElem? (i := 13) (by decide +kernel), by decide +kernel, mw_9, mw_630, by decide +kernel⟩
theorem fs_X7_29 : mm_FS RX7 29 7 3 := ⟨RX7, TX7, 8, rfl, by decide, iw_7, mw_634⟩
theorem fs_X7_16 : mm_FS RX7 16 7 2 := ⟨RX7, TX7, 8, rfl, by decide, iw_7, mw_633⟩
theorem ss_X7_33 : mm_SS RX7 33 yX7_bring cX7_bring 5 (Option.none : Option Jvm.ClassFile.FieldType) 4 := ⟨mw_675, mw_676, mw_9, mw_677, by decide +kernel⟩
theorem ps_X7_29 : mm_PS RX7 29 7 3 false .int := ⟨RX7, TX7, 8, tyX7, rfl, by decide, iw_7, mw_634, tyX7_ok, nmX7, rfl, by decide +kernel, fun h => by cases h⟩
theorem ss_X7_37 : mm_SS RX7 37 yX7_in cX7_in 3 (Option.some Jvm.ClassFile.FieldType.boolean) 3 := ⟨mw_660, mw_661, mw_9, mw_662, by decide +kernel⟩
theorem vs_X7_41 : mm_VS RX7 41 7 yX7_cells cX7_cells 1 (Option.some Jvm.ClassFile.FieldType.int) 0 := ⟨⟨TX7, 8, rfl⟩, mw_667, mw_669, List.mem_of_getElem? (i := 15) (by decide +kernel), by decide +kernel, mw_9, mw_670, by decide +kernel⟩
theorem ss_X7_45 : mm_SS RX7 45 yX7_lesser cX7_lesser 2 (Option.some Jvm.ClassFile.FieldType.int) 2 := ⟨mw_718, mw_719, mw_9, mw_720, by decide +kernel⟩
theorem vs_X7_49 : mm_VS RX7 49 7 yX7_borderOf cX7_borderOf 5 (Option.some Jvm.ClassFile.FieldType.int) 2 := ⟨⟨TX7, 8, rfl⟩, mw_698, mw_700, List.mem_of_getElem? (i := 19) (by decide +kernel), by decide +kernel, mw_9, mw_701, by decide +kernel⟩
theorem vs_X7_52 : mm_VS RX7 52 7 yX7_borderWants cX7_borderWants 6 (Option.some Jvm.ClassFile.FieldType.int) 1 := ⟨⟨TX7, 8, rfl⟩, mw_714, mw_716, List.mem_of_getElem? (i := 22) (by decide +kernel), by decide +kernel, mw_9, mw_717, by decide +kernel⟩
theorem vs_X7_56 : mm_VS RX7 56 7 yX7_around cX7_around 1 (Option.some Jvm.ClassFile.FieldType.int) 0 := ⟨⟨TX7, 8, rfl⟩, mw_732, mw_734, List.mem_of_getElem? (i := 24) (by decide +kernel), by decide +kernel, mw_9, mw_735, by decide +kernel⟩
theorem vs_X7_59 : mm_VS RX7 59 7 yX7_laidCells cX7_laidCells 3 (Option.some Jvm.ClassFile.FieldType.int) 0 := ⟨⟨TX7, 8, rfl⟩, mw_663, mw_665, List.mem_of_getElem? (i := 14) (by decide +kernel), by decide +kernel, mw_9, mw_666, by decide +kernel⟩
theorem vs_X7_62 : mm_VS RX7 62 7 yX7_keep cX7_keep 2 (Option.none : Option Jvm.ClassFile.FieldType) 0 := ⟨⟨TX7, 8, rfl⟩, mw_671, mw_673, List.mem_of_getElem? (i := 16) (by decide +kernel), by decide +kernel, mw_9, mw_674, by decide +kernel⟩
theorem vs_X7_65 : mm_VS RX7 65 7 yX7_atHand cX7_atHand 3 (Option.some Jvm.ClassFile.FieldType.int) 0 := ⟨⟨TX7, 8, rfl⟩, mw_682, mw_684, List.mem_of_getElem? (i := 17) (by decide +kernel), by decide +kernel, mw_9, mw_685, by decide +kernel⟩
theorem vs_X7_68 : mm_VS RX7 68 7 yX7_isCell cX7_isCell 3 (Option.some Jvm.ClassFile.FieldType.boolean) 2 := ⟨⟨TX7, 8, rfl⟩, mw_694, mw_696, List.mem_of_getElem? (i := 18) (by decide +kernel), by decide +kernel, mw_9, mw_697, by decide +kernel⟩
theorem vs_X7_72 : mm_VS RX7 72 7 yX7_wanted cX7_wanted 3 (Option.some Jvm.ClassFile.FieldType.int) 1 := ⟨⟨TX7, 8, rfl⟩, mw_710, mw_712, List.mem_of_getElem? (i := 21) (by decide +kernel), by decide +kernel, mw_9, mw_713, by decide +kernel⟩
theorem ss_X7_75 : mm_SS RX7 75 yX7_size cX7_size 1 (Option.some Jvm.ClassFile.FieldType.int) 1 := ⟨mw_725, mw_726, mw_9, mw_727, by decide +kernel⟩
theorem vs_X7_78 : mm_VS RX7 78 7 yX7_difference cX7_difference 2 (Option.some Jvm.ClassFile.FieldType.int) 1 := ⟨⟨TX7, 8, rfl⟩, mw_721, mw_723, List.mem_of_getElem? (i := 23) (by decide +kernel), by decide +kernel, mw_9, mw_724, by decide +kernel⟩
theorem vs_X7_81 : mm_VS RX7 81 7 yX7_cellOf cX7_cellOf 5 (Option.some Jvm.ClassFile.FieldType.int) 3 := ⟨⟨TX7, 8, rfl⟩, mw_706, mw_708, List.mem_of_getElem? (i := 20) (by decide +kernel), by decide +kernel, mw_9, mw_709, by decide +kernel⟩
theorem vs_X7_85 : mm_VS RX7 85 7 yX7_of cX7_of 3 (Option.some Jvm.ClassFile.FieldType.int) 2 := ⟨⟨TX7, 8, rfl⟩, mw_748, mw_750, List.mem_of_getElem? (i := 28) (by decide +kernel), by decide +kernel, mw_9, mw_751, by decide +kernel⟩
theorem vs_X7_88 : mm_VS RX7 88 7 yX7_left cX7_left 2 (Option.some Jvm.ClassFile.FieldType.int) 1 := ⟨⟨TX7, 8, rfl⟩, mw_752, mw_754, List.mem_of_getElem? (i := 29) (by decide +kernel), by decide +kernel, mw_9, mw_755, by decide +kernel⟩
theorem vs_X7_91 : mm_VS RX7 91 7 yX7_meets cX7_meets 4 (Option.some Jvm.ClassFile.FieldType.boolean) 0 := ⟨⟨TX7, 8, rfl⟩, mw_736, mw_738, List.mem_of_getElem? (i := 25) (by decide +kernel), by decide +kernel, mw_9, mw_739, by decide +kernel⟩
theorem vs_X7_95 : mm_VS RX7 95 7 yX7_differences cX7_differences 5 (Option.some Jvm.ClassFile.FieldType.int) 1 := ⟨⟨TX7, 8, rfl⟩, mw_740, mw_742, List.mem_of_getElem? (i := 26) (by decide +kernel), by decide +kernel, mw_9, mw_743, by decide +kernel⟩
theorem fs_X7_99 : mm_FS RX7 99 7 5 := ⟨RX7, TX7, 8, rfl, by decide, iw_7, mw_636⟩
theorem vs_X7_102 : mm_VS RX7 102 7 yX7_account cX7_account 5 (Option.some Jvm.ClassFile.FieldType.int) 1 := ⟨⟨TX7, 8, rfl⟩, mw_744, mw_746, List.mem_of_getElem? (i := 27) (by decide +kernel), by decide +kernel, mw_9, mw_747, by decide +kernel⟩
theorem vs_X7_105 : mm_VS RX7 105 7 yX7_put cX7_put 4 (Option.none : Option Jvm.ClassFile.FieldType) 3 := ⟨⟨TX7, 8, rfl⟩, mw_768, mw_770, List.mem_of_getElem? (i := 30) (by decide +kernel), by decide +kernel, mw_9, mw_771, by decide +kernel⟩
theorem vs_X7_109 : mm_VS RX7 109 7 yX7_isStrip cX7_isStrip 2 (Option.some Jvm.ClassFile.FieldType.boolean) 1 := ⟨⟨TX7, 8, rfl⟩, mw_776, mw_778, List.mem_of_getElem? (i := 31) (by decide +kernel), by decide +kernel, mw_9, mw_779, by decide +kernel⟩
theorem vs_X7_113 : mm_VS RX7 113 7 yX7_hasFlaw cX7_hasFlaw 6 (Option.some Jvm.ClassFile.FieldType.boolean) 3 := ⟨⟨TX7, 8, rfl⟩, mw_780, mw_782, List.mem_of_getElem? (i := 32) (by decide +kernel), by decide +kernel, mw_9, mw_783, by decide +kernel⟩
theorem vs_X7_116 : mm_VS RX7 116 7 yX7_canCut cX7_canCut 2 (Option.some Jvm.ClassFile.FieldType.boolean) 1 := ⟨⟨TX7, 8, rfl⟩, mw_788, mw_790, List.mem_of_getElem? (i := 33) (by decide +kernel), by decide +kernel, mw_9, mw_791, by decide +kernel⟩
theorem vs_X7_119 : mm_VS RX7 119 7 yX7_cuts cX7_cuts 5 (Option.some Jvm.ClassFile.FieldType.boolean) 1 := ⟨⟨TX7, 8, rfl⟩, mw_792, mw_794, List.mem_of_getElem? (i := 34) (by decide +kernel), by decide +kernel, mw_9, mw_795, by decide +kernel⟩
theorem vs_X7_122 : mm_VS RX7 122 7 yX7_still cX7_still 5 (Option.some Jvm.ClassFile.FieldType.int) 2 := ⟨⟨TX7, 8, rfl⟩, mw_804, mw_806, List.mem_of_getElem? (i := 36) (by decide +kernel), by decide +kernel, mw_9, mw_807, by decide +kernel⟩
theorem vs_X7_126 : mm_VS RX7 126 7 yX7_partOf cX7_partOf 3 (Option.some Jvm.ClassFile.FieldType.int) 2 := ⟨⟨TX7, 8, rfl⟩, mw_800, mw_802, List.mem_of_getElem? (i := 35) (by decide +kernel), by decide +kernel, mw_9, mw_803, by decide +kernel⟩
theorem vs_X7_129 : mm_VS RX7 129 7 yX7_source cX7_source 3 (Option.some Jvm.ClassFile.FieldType.int) 1 := ⟨⟨TX7, 8, rfl⟩, mw_816, mw_818, List.mem_of_getElem? (i := 38) (by decide +kernel), by decide +kernel, mw_9, mw_819, by decide +kernel⟩
theorem vs_X7_132 : mm_VS RX7 132 7 yX7_nearestTo cX7_nearestTo 5 (Option.some Jvm.ClassFile.FieldType.int) 1 := ⟨⟨TX7, 8, rfl⟩, mw_812, mw_814, List.mem_of_getElem? (i := 37) (by decide +kernel), by decide +kernel, mw_9, mw_815, by decide +kernel⟩
theorem vs_X7_135 : mm_VS RX7 135 7 yX7_lays cX7_lays 5 (Option.some Jvm.ClassFile.FieldType.int) 1 := ⟨⟨TX7, 8, rfl⟩, mw_820, mw_822, List.mem_of_getElem? (i := 39) (by decide +kernel), by decide +kernel, mw_9, mw_823, by decide +kernel⟩
theorem vs_X7_138 : mm_VS RX7 138 7 yX7_laysIfEmpty cX7_laysIfEmpty 2 (Option.some Jvm.ClassFile.FieldType.int) 1 := ⟨⟨TX7, 8, rfl⟩, mw_832, mw_834, List.mem_of_getElem? (i := 41) (by decide +kernel), by decide +kernel, mw_9, mw_835, by decide +kernel⟩
theorem vs_X7_141 : mm_VS RX7 141 7 yX7_laysAll cX7_laysAll 7 (Option.some Jvm.ClassFile.FieldType.int) 0 := ⟨⟨TX7, 8, rfl⟩, mw_828, mw_830, List.mem_of_getElem? (i := 40) (by decide +kernel), by decide +kernel, mw_9, mw_831, by decide +kernel⟩
theorem vs_X7_144 : mm_VS RX7 144 7 yX7_readyOf cX7_readyOf 4 (Option.some Jvm.ClassFile.FieldType.int) 1 := ⟨⟨TX7, 8, rfl⟩, mw_848, mw_850, List.mem_of_getElem? (i := 42) (by decide +kernel), by decide +kernel, mw_9, mw_851, by decide +kernel⟩
theorem vs_X7_147 : mm_VS RX7 147 7 yX7_lacksOf cX7_lacksOf 4 (Option.some Jvm.ClassFile.FieldType.int) 1 := ⟨⟨TX7, 8, rfl⟩, mw_856, mw_858, List.mem_of_getElem? (i := 43) (by decide +kernel), by decide +kernel, mw_9, mw_859, by decide +kernel⟩
theorem fs_X7_13 : mm_FS RX7 13 7 1 := ⟨RX7, TX7, 8, rfl, by decide, iw_7, mw_632⟩
theorem fs_X7_19 : mm_FS RX7 19 7 4 := ⟨RX7, TX7, 8, rfl, by decide, iw_7, mw_635⟩
theorem ps_X7_99 : mm_PS RX7 99 7 5 false .int := ⟨RX7, TX7, 8, tyX7, rfl, by decide, iw_7, mw_636, tyX7_ok, nmX7, rfl, by decide +kernel, fun h => by cases h⟩
theorem ps_X7_150 : mm_PS RX7 150 7 7 false .int := ⟨RX7, TX7, 8, tyX7, rfl, by decide, iw_7, mw_638, tyX7_ok, nmX7, rfl, by decide +kernel, fun h => by cases h⟩
theorem fs_X7_150 : mm_FS RX7 150 7 7 := ⟨RX7, TX7, 8, rfl, by decide, iw_7, mw_638⟩
theorem fs_X7_22 : mm_FS RX7 22 7 6 := ⟨RX7, TX7, 8, rfl, by decide, iw_7, mw_637⟩
theorem vs_X7_153 : mm_VS RX7 153 7 yX7_faultNow cX7_faultNow 5 (Option.some Jvm.ClassFile.FieldType.int) 0 := ⟨⟨TX7, 8, rfl⟩, mw_880, mw_882, List.mem_of_getElem? (i := 44) (by decide +kernel), by decide +kernel, mw_9, mw_883, by decide +kernel⟩
