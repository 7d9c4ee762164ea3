-- words and sites
theorem mw_0 : (Jvm.Cond.initialized "MosaicFloorLaw") ∈ mm_gw := mm_gwI 13 (by decide +kernel) (by decide +kernel)
theorem mw_1 : (Jvm.Cond.initialized "MosaicFloor") ∈ mm_gw := mm_gwI 14 (by decide +kernel) (by decide +kernel)
theorem mw_2 : (Jvm.Cond.initialized "MosaicFloor$State") ∈ mm_gw := mm_gwI 15 (by decide +kernel) (by decide +kernel)
theorem mw_3 : (Jvm.Cond.initialized "MosaicFloor$Plan") ∈ mm_gw := mm_gwI 16 (by decide +kernel) (by decide +kernel)
theorem mw_4 : (Jvm.Cond.initialized "java/util/Arrays") ∈ mm_gw := mm_gwI 17 (by decide +kernel) (by decide +kernel)
theorem mw_5 : (Jvm.Cond.initialized "MosaicFloor$Stock") ∈ mm_gw := mm_gwI 18 (by decide +kernel) (by decide +kernel)
theorem mw_6 : (Jvm.Cond.initialized "MosaicFloor$Strip") ∈ mm_gw := mm_gwI 19 (by decide +kernel) (by decide +kernel)
theorem mw_7 : (Jvm.Cond.initialized "MosaicFloor$History") ∈ mm_gw := mm_gwI 20 (by decide +kernel) (by decide +kernel)
theorem mw_8 : (Jvm.Cond.initialized "MosaicFloor$Text") ∈ mm_gw := mm_gwI 21 (by decide +kernel) (by decide +kernel)
theorem mw_9 : (Jvm.Cond.initialized "java/lang/Math") ∈ mm_gw := mm_gwI 22 (by decide +kernel) (by decide +kernel)
theorem mw_10 : (Jvm.Cond.initialized "java/lang/System") ∈ mm_gw := mm_gwI 23 (by decide +kernel) (by decide +kernel)
theorem mw_16 : (Jvm.Cond.methodLink "MosaicFloor" (1 : Nat) ({ cls := "java/lang/Object", name := "<init>", desc := "()V" } : Jvm.MethodName)) ∈ mm_gw := mm_gwI 29 (by decide +kernel) (by decide +kernel)
theorem mw_17 : (Jvm.Cond.instanceMethod ({ cls := "java/lang/Object", name := "<init>", desc := "()V" } : Jvm.MethodName)) ∈ mm_gw := mm_gwI 30 (by decide +kernel) (by decide +kernel)
theorem mw_19 : (Jvm.Cond.classLink "MosaicFloor" (7 : Nat) "MosaicFloor$State") ∈ mm_gw := mm_gwI 32 (by decide +kernel) (by decide +kernel)
theorem mw_20 : (Jvm.Cond.instantiable "MosaicFloor$State" (4 : Nat)) ∈ mm_gw := mm_gwI 33 (by decide +kernel) (by decide +kernel)
theorem mw_21 : (Jvm.Cond.methodLink "MosaicFloor" (9 : Nat) ({ cls := "MosaicFloor$State", name := "<init>", desc := "()V" } : Jvm.MethodName)) ∈ mm_gw := mm_gwI 34 (by decide +kernel) (by decide +kernel)
theorem mw_22 : (Jvm.Cond.instanceMethod ({ cls := "MosaicFloor$State", name := "<init>", desc := "()V" } : Jvm.MethodName)) ∈ mm_gw := mm_gwI 35 (by decide +kernel) (by decide +kernel)
theorem mw_23 : (Jvm.Cond.code ({ cls := "MosaicFloor$State", name := "<init>", desc := "()V" } : Jvm.MethodName) prog_4_method_1_code (1 : Nat) (Option.none : Option Jvm.ClassFile.FieldType)) ∈ mm_gw := mm_gwI 36 (by decide +kernel) (by decide +kernel)
theorem mw_24 : (Jvm.Cond.methodLink "MosaicFloor$State" (3 : Nat) ({ cls := "java/lang/Object", name := "<init>", desc := "()V" } : Jvm.MethodName)) ∈ mm_gw := mm_gwI 37 (by decide +kernel) (by decide +kernel)
theorem mw_25 : (Jvm.Cond.classLink "MosaicFloor$State" (9 : Nat) "MosaicFloor$Plan") ∈ mm_gw := mm_gwI 38 (by decide +kernel) (by decide +kernel)
theorem mw_26 : (Jvm.Cond.instantiable "MosaicFloor$Plan" (6 : Nat)) ∈ mm_gw := mm_gwI 39 (by decide +kernel) (by decide +kernel)
theorem mw_27 : (Jvm.Cond.methodLink "MosaicFloor$State" (11 : Nat) ({ cls := "MosaicFloor$Plan", name := "<init>", desc := "()V" } : Jvm.MethodName)) ∈ mm_gw := mm_gwI 40 (by decide +kernel) (by decide +kernel)
theorem mw_28 : (Jvm.Cond.instanceMethod ({ cls := "MosaicFloor$Plan", name := "<init>", desc := "()V" } : Jvm.MethodName)) ∈ mm_gw := mm_gwI 41 (by decide +kernel) (by decide +kernel)
theorem mw_29 : (Jvm.Cond.code ({ cls := "MosaicFloor$Plan", name := "<init>", desc := "()V" } : Jvm.MethodName) prog_3_method_1_code (1 : Nat) (Option.none : Option Jvm.ClassFile.FieldType)) ∈ mm_gw := mm_gwI 42 (by decide +kernel) (by decide +kernel)
theorem mw_30 : (Jvm.Cond.methodLink "MosaicFloor$Plan" (3 : Nat) ({ cls := "java/lang/Object", name := "<init>", desc := "()V" } : Jvm.MethodName)) ∈ mm_gw := mm_gwI 43 (by decide +kernel) (by decide +kernel)
theorem mw_31 : (Jvm.Cond.methodLink "MosaicFloor$Plan" (25 : Nat) ({ cls := "MosaicFloor$Plan", name := "begin", desc := "(II)V" } : Jvm.MethodName)) ∈ mm_gw := mm_gwI 44 (by decide +kernel) (by decide +kernel)
theorem mw_32 : (Jvm.Cond.instanceMethod ({ cls := "MosaicFloor$Plan", name := "begin", desc := "(II)V" } : Jvm.MethodName)) ∈ mm_gw := mm_gwI 45 (by decide +kernel) (by decide +kernel)
theorem mw_34 : (Jvm.Cond.code ({ cls := "MosaicFloor$Plan", name := "begin", desc := "(II)V" } : Jvm.MethodName) prog_3_method_2_code (3 : Nat) (Option.none : Option Jvm.ClassFile.FieldType)) ∈ mm_gw := mm_gwI 47 (by decide +kernel) (by decide +kernel)
theorem mw_35 : (Jvm.Cond.methodLink "MosaicFloor$Plan" (35 : Nat) ({ cls := "java/util/Arrays", name := "fill", desc := "([II)V" } : Jvm.MethodName)) ∈ mm_gw := mm_gwI 48 (by decide +kernel) (by decide +kernel)
theorem mw_36 : (Jvm.Cond.static ({ cls := "java/util/Arrays", name := "fill", desc := "([II)V" } : Jvm.MethodName)) ∈ mm_gw := mm_gwI 49 (by decide +kernel) (by decide +kernel)
theorem mw_37 : (Jvm.Cond.code ({ cls := "java/util/Arrays", name := "fill", desc := "([II)V" } : Jvm.MethodName) prog_12_method_103_code (4 : Nat) (Option.none : Option Jvm.ClassFile.FieldType)) ∈ mm_gw := mm_gwI 50 (by decide +kernel) (by decide +kernel)
theorem mw_38 : (Jvm.Cond.fieldLink "MosaicFloor$Plan" (9 : Nat) "MosaicFloor$Plan" "fieldShades" "[I") ∈ mm_gw := mm_gwI 51 (by decide +kernel) (by decide +kernel)
theorem mw_39 : (Jvm.Cond.fieldLink "MosaicFloor$Plan" (15 : Nat) "MosaicFloor$Plan" "patternShades" "[I") ∈ mm_gw := mm_gwI 52 (by decide +kernel) (by decide +kernel)
theorem mw_40 : (Jvm.Cond.fieldLink "MosaicFloor$Plan" (18 : Nat) "MosaicFloor$Plan" "patternLength" "I") ∈ mm_gw := mm_gwI 53 (by decide +kernel) (by decide +kernel)
theorem mw_41 : (Jvm.Cond.fieldLink "MosaicFloor" (113 : Nat) "MosaicFloor$Plan" "patternLength" "I") ∈ mm_gw := mm_gwI 54 (by decide +kernel) (by decide +kernel)
theorem mw_42 : (Jvm.Cond.fieldLink "MosaicFloor$Plan" (22 : Nat) "MosaicFloor$Plan" "way" "I") ∈ mm_gw := mm_gwI 55 (by decide +kernel) (by decide +kernel)
theorem mw_43 : (Jvm.Cond.fieldLink "MosaicFloor" (69 : Nat) "MosaicFloor$Plan" "way" "I") ∈ mm_gw := mm_gwI 56 (by decide +kernel) (by decide +kernel)
theorem mw_44 : (Jvm.Cond.fieldLink "MosaicFloor$Plan" (29 : Nat) "MosaicFloor$Plan" "columns" "I") ∈ mm_gw := mm_gwI 57 (by decide +kernel) (by decide +kernel)
theorem mw_45 : (Jvm.Cond.fieldLink "MosaicFloor$State" (75 : Nat) "MosaicFloor$Plan" "columns" "I") ∈ mm_gw := mm_gwI 58 (by decide +kernel) (by decide +kernel)
theorem mw_46 : (Jvm.Cond.fieldLink "MosaicFloor" (220 : Nat) "MosaicFloor$Plan" "columns" "I") ∈ mm_gw := mm_gwI 59 (by decide +kernel) (by decide +kernel)
theorem mw_47 : (Jvm.Cond.fieldLink "MosaicFloor$Plan" (32 : Nat) "MosaicFloor$Plan" "rows" "I") ∈ mm_gw := mm_gwI 60 (by decide +kernel) (by decide +kernel)
theorem mw_48 : (Jvm.Cond.fieldLink "MosaicFloor$State" (72 : Nat) "MosaicFloor$Plan" "rows" "I") ∈ mm_gw := mm_gwI 61 (by decide +kernel) (by decide +kernel)
theorem mw_49 : (Jvm.Cond.fieldLink "MosaicFloor" (223 : Nat) "MosaicFloor$Plan" "rows" "I") ∈ mm_gw := mm_gwI 62 (by decide +kernel) (by decide +kernel)
theorem mw_63 : (Jvm.Cond.arrayClass Jvm.ClassFile.FieldType.int) ∈ mm_gw := mm_gwI 76 (by decide +kernel) (by decide +kernel)
theorem mw_64 : (Jvm.Cond.classLink "MosaicFloor$State" (18 : Nat) "MosaicFloor$Stock") ∈ mm_gw := mm_gwI 77 (by decide +kernel) (by decide +kernel)
theorem mw_65 : (Jvm.Cond.instantiable "MosaicFloor$Stock" (9 : Nat)) ∈ mm_gw := mm_gwI 78 (by decide +kernel) (by decide +kernel)
theorem mw_66 : (Jvm.Cond.methodLink "MosaicFloor$State" (20 : Nat) ({ cls := "MosaicFloor$Stock", name := "<init>", desc := "()V" } : Jvm.MethodName)) ∈ mm_gw := mm_gwI 79 (by decide +kernel) (by decide +kernel)
theorem mw_67 : (Jvm.Cond.instanceMethod ({ cls := "MosaicFloor$Stock", name := "<init>", desc := "()V" } : Jvm.MethodName)) ∈ mm_gw := mm_gwI 80 (by decide +kernel) (by decide +kernel)
theorem mw_68 : (Jvm.Cond.code ({ cls := "MosaicFloor$Stock", name := "<init>", desc := "()V" } : Jvm.MethodName) prog_5_method_1_code (2 : Nat) (Option.none : Option Jvm.ClassFile.FieldType)) ∈ mm_gw := mm_gwI 81 (by decide +kernel) (by decide +kernel)
theorem mw_69 : (Jvm.Cond.methodLink "MosaicFloor$Stock" (3 : Nat) ({ cls := "java/lang/Object", name := "<init>", desc := "()V" } : Jvm.MethodName)) ∈ mm_gw := mm_gwI 82 (by decide +kernel) (by decide +kernel)
theorem mw_70 : (Jvm.Cond.classLink "MosaicFloor$Stock" (9 : Nat) "MosaicFloor$Strip") ∈ mm_gw := mm_gwI 83 (by decide +kernel) (by decide +kernel)
theorem mw_72 : (Jvm.Cond.instantiable "MosaicFloor$Strip" (6 : Nat)) ∈ mm_gw := mm_gwI 85 (by decide +kernel) (by decide +kernel)
theorem mw_74 : (Jvm.Cond.instanceMethod ({ cls := "MosaicFloor$Strip", name := "<init>", desc := "()V" } : Jvm.MethodName)) ∈ mm_gw := mm_gwI 87 (by decide +kernel) (by decide +kernel)
theorem mw_75 : (Jvm.Cond.code ({ cls := "MosaicFloor$Strip", name := "<init>", desc := "()V" } : Jvm.MethodName) prog_6_method_1_code (1 : Nat) (Option.none : Option Jvm.ClassFile.FieldType)) ∈ mm_gw := mm_gwI 88 (by decide +kernel) (by decide +kernel)
theorem mw_76 : (Jvm.Cond.methodLink "MosaicFloor$Strip" (3 : Nat) ({ cls := "java/lang/Object", name := "<init>", desc := "()V" } : Jvm.MethodName)) ∈ mm_gw := mm_gwI 89 (by decide +kernel) (by decide +kernel)
theorem mw_77 : (Jvm.Cond.fieldLink "MosaicFloor$Strip" (9 : Nat) "MosaicFloor$Strip" "flaws" "[I") ∈ mm_gw := mm_gwI 90 (by decide +kernel) (by decide +kernel)
theorem mw_78 : (Jvm.Cond.fieldLink "MosaicFloor$Strip" (25 : Nat) "MosaicFloor$Strip" "flawCount" "I") ∈ mm_gw := mm_gwI 91 (by decide +kernel) (by decide +kernel)
theorem mw_79 : (Jvm.Cond.fieldLink "MosaicFloor" (152 : Nat) "MosaicFloor$Strip" "flawCount" "I") ∈ mm_gw := mm_gwI 92 (by decide +kernel) (by decide +kernel)
theorem mw_80 : (Jvm.Cond.fieldLink "MosaicFloor$Strip" (15 : Nat) "MosaicFloor$Strip" "length" "I") ∈ mm_gw := mm_gwI 93 (by decide +kernel) (by decide +kernel)
theorem mw_81 : (Jvm.Cond.fieldLink "MosaicFloor$Stock" (58 : Nat) "MosaicFloor$Strip" "length" "I") ∈ mm_gw := mm_gwI 94 (by decide +kernel) (by decide +kernel)
theorem mw_82 : (Jvm.Cond.fieldLink "MosaicFloor" (146 : Nat) "MosaicFloor$Strip" "length" "I") ∈ mm_gw := mm_gwI 95 (by decide +kernel) (by decide +kernel)
theorem mw_83 : (Jvm.Cond.fieldLink "MosaicFloor$Strip" (19 : Nat) "MosaicFloor$Strip" "shade" "I") ∈ mm_gw := mm_gwI 96 (by decide +kernel) (by decide +kernel)
theorem mw_84 : (Jvm.Cond.fieldLink "MosaicFloor$Stock" (82 : Nat) "MosaicFloor$Strip" "shade" "I") ∈ mm_gw := mm_gwI 97 (by decide +kernel) (by decide +kernel)
theorem mw_85 : (Jvm.Cond.fieldLink "MosaicFloor" (169 : Nat) "MosaicFloor$Strip" "shade" "I") ∈ mm_gw := mm_gwI 98 (by decide +kernel) (by decide +kernel)
theorem mw_86 : (Jvm.Cond.fieldLink "MosaicFloor$Strip" (22 : Nat) "MosaicFloor$Strip" "start" "I") ∈ mm_gw := mm_gwI 99 (by decide +kernel) (by decide +kernel)
theorem mw_87 : (Jvm.Cond.fieldLink "MosaicFloor" (141 : Nat) "MosaicFloor$Strip" "start" "I") ∈ mm_gw := mm_gwI 100 (by decide +kernel) (by decide +kernel)
theorem mw_88 : (Jvm.Cond.fieldLink "MosaicFloor$Strip" (28 : Nat) "MosaicFloor$Strip" "goodCut" "I") ∈ mm_gw := mm_gwI 101 (by decide +kernel) (by decide +kernel)
theorem mw_89 : (Jvm.Cond.fieldLink "MosaicFloor" (181 : Nat) "MosaicFloor$Strip" "goodCut" "I") ∈ mm_gw := mm_gwI 102 (by decide +kernel) (by decide +kernel)
theorem mw_103 : (Jvm.Cond.fieldLink "MosaicFloor$Stock" (11 : Nat) "MosaicFloor$Stock" "strips" "[LMosaicFloor$Strip;") ∈ mm_gw := mm_gwI 116 (by decide +kernel) (by decide +kernel)
theorem mw_104 : (Jvm.Cond.fieldLink "MosaicFloor$Stock" (17 : Nat) "MosaicFloor$Stock" "atHand" "[I") ∈ mm_gw := mm_gwI 117 (by decide +kernel) (by decide +kernel)
theorem mw_105 : (Jvm.Cond.fieldLink "MosaicFloor$Stock" (39 : Nat) "MosaicFloor$Stock" "stripCount" "I") ∈ mm_gw := mm_gwI 118 (by decide +kernel) (by decide +kernel)
theorem mw_106 : (Jvm.Cond.fieldLink "MosaicFloor" (129 : Nat) "MosaicFloor$Stock" "stripCount" "I") ∈ mm_gw := mm_gwI 119 (by decide +kernel) (by decide +kernel)
theorem mw_107 : (Jvm.Cond.fieldLink "MosaicFloor$Stock" (21 : Nat) "MosaicFloor$Stock" "size" "I") ∈ mm_gw := mm_gwI 120 (by decide +kernel) (by decide +kernel)
theorem mw_108 : (Jvm.Cond.fieldLink "MosaicFloor" (162 : Nat) "MosaicFloor$Stock" "size" "I") ∈ mm_gw := mm_gwI 121 (by decide +kernel) (by decide +kernel)
theorem mw_109 : (Jvm.Cond.fieldLink "MosaicFloor$Stock" (25 : Nat) "MosaicFloor$Stock" "loss" "I") ∈ mm_gw := mm_gwI 122 (by decide +kernel) (by decide +kernel)
theorem mw_110 : (Jvm.Cond.fieldLink "MosaicFloor" (172 : Nat) "MosaicFloor$Stock" "loss" "I") ∈ mm_gw := mm_gwI 123 (by decide +kernel) (by decide +kernel)
theorem mw_111 : (Jvm.Cond.fieldLink "MosaicFloor$Stock" (42 : Nat) "MosaicFloor$Stock" "brokenCount" "I") ∈ mm_gw := mm_gwI 124 (by decide +kernel) (by decide +kernel)
theorem mw_112 : (Jvm.Cond.fieldLink "MosaicFloor" (239 : Nat) "MosaicFloor$Stock" "brokenCount" "I") ∈ mm_gw := mm_gwI 125 (by decide +kernel) (by decide +kernel)
theorem mw_113 : (Jvm.Cond.fieldLink "MosaicFloor$Stock" (45 : Nat) "MosaicFloor$Stock" "brokenLength" "I") ∈ mm_gw := mm_gwI 126 (by decide +kernel) (by decide +kernel)
theorem mw_114 : (Jvm.Cond.fieldLink "MosaicFloor" (251 : Nat) "MosaicFloor$Stock" "brokenLength" "I") ∈ mm_gw := mm_gwI 127 (by decide +kernel) (by decide +kernel)
theorem mw_115 : (Jvm.Cond.fieldLink "MosaicFloor$Stock" (48 : Nat) "MosaicFloor$Stock" "sawnLength" "I") ∈ mm_gw := mm_gwI 128 (by decide +kernel) (by decide +kernel)
theorem mw_116 : (Jvm.Cond.fieldLink "MosaicFloor" (254 : Nat) "MosaicFloor$Stock" "sawnLength" "I") ∈ mm_gw := mm_gwI 129 (by decide +kernel) (by decide +kernel)
theorem mw_117 : (Jvm.Cond.fieldLink "MosaicFloor$Stock" (51 : Nat) "MosaicFloor$Stock" "thrownLength" "I") ∈ mm_gw := mm_gwI 130 (by decide +kernel) (by decide +kernel)
theorem mw_118 : (Jvm.Cond.fieldLink "MosaicFloor" (257 : Nat) "MosaicFloor$Stock" "thrownLength" "I") ∈ mm_gw := mm_gwI 131 (by decide +kernel) (by decide +kernel)
theorem mw_138 : (Jvm.Cond.methodLink "MosaicFloor$State" (29 : Nat) ({ cls := "java/util/Arrays", name := "fill", desc := "([II)V" } : Jvm.MethodName)) ∈ mm_gw := mm_gwI 151 (by decide +kernel) (by decide +kernel)
theorem mw_139 : (Jvm.Cond.fieldLink "MosaicFloor$State" (12 : Nat) "MosaicFloor$State" "plan" "LMosaicFloor$Plan;") ∈ mm_gw := mm_gwI 152 (by decide +kernel) (by decide +kernel)
theorem mw_140 : (Jvm.Cond.fieldLink "MosaicFloor" (45 : Nat) "MosaicFloor$State" "plan" "LMosaicFloor$Plan;") ∈ mm_gw := mm_gwI 153 (by decide +kernel) (by decide +kernel)
theorem mw_141 : (Jvm.Cond.fieldLink "MosaicFloor$State" (21 : Nat) "MosaicFloor$State" "stock" "LMosaicFloor$Stock;") ∈ mm_gw := mm_gwI 154 (by decide +kernel) (by decide +kernel)
theorem mw_142 : (Jvm.Cond.fieldLink "MosaicFloor" (125 : Nat) "MosaicFloor$State" "stock" "LMosaicFloor$Stock;") ∈ mm_gw := mm_gwI 155 (by decide +kernel) (by decide +kernel)
theorem mw_143 : (Jvm.Cond.fieldLink "MosaicFloor$State" (25 : Nat) "MosaicFloor$State" "laid" "[I") ∈ mm_gw := mm_gwI 156 (by decide +kernel) (by decide +kernel)
theorem mw_144 : (Jvm.Cond.fieldLink "MosaicFloor$State" (48 : Nat) "MosaicFloor$State" "liftedCount" "I") ∈ mm_gw := mm_gwI 157 (by decide +kernel) (by decide +kernel)
theorem mw_145 : (Jvm.Cond.fieldLink "MosaicFloor" (242 : Nat) "MosaicFloor$State" "liftedCount" "I") ∈ mm_gw := mm_gwI 158 (by decide +kernel) (by decide +kernel)
theorem mw_155 : (Jvm.Cond.classLink "MosaicFloor" (19 : Nat) "MosaicFloor$History") ∈ mm_gw := mm_gwI 168 (by decide +kernel) (by decide +kernel)
theorem mw_156 : (Jvm.Cond.instantiable "MosaicFloor$History" (2 : Nat)) ∈ mm_gw := mm_gwI 169 (by decide +kernel) (by decide +kernel)
theorem mw_157 : (Jvm.Cond.methodLink "MosaicFloor" (21 : Nat) ({ cls := "MosaicFloor$History", name := "<init>", desc := "()V" } : Jvm.MethodName)) ∈ mm_gw := mm_gwI 170 (by decide +kernel) (by decide +kernel)
theorem mw_158 : (Jvm.Cond.instanceMethod ({ cls := "MosaicFloor$History", name := "<init>", desc := "()V" } : Jvm.MethodName)) ∈ mm_gw := mm_gwI 171 (by decide +kernel) (by decide +kernel)
theorem mw_159 : (Jvm.Cond.code ({ cls := "MosaicFloor$History", name := "<init>", desc := "()V" } : Jvm.MethodName) prog_2_method_1_code (2 : Nat) (Option.none : Option Jvm.ClassFile.FieldType)) ∈ mm_gw := mm_gwI 172 (by decide +kernel) (by decide +kernel)
theorem mw_160 : (Jvm.Cond.methodLink "MosaicFloor$History" (3 : Nat) ({ cls := "java/lang/Object", name := "<init>", desc := "()V" } : Jvm.MethodName)) ∈ mm_gw := mm_gwI 173 (by decide +kernel) (by decide +kernel)
theorem mw_161 : (Jvm.Cond.classLink "MosaicFloor$History" (9 : Nat) "MosaicFloor$State") ∈ mm_gw := mm_gwI 174 (by decide +kernel) (by decide +kernel)
theorem mw_163 : (Jvm.Cond.methodLink "MosaicFloor$History" (17 : Nat) ({ cls := "MosaicFloor$State", name := "<init>", desc := "()V" } : Jvm.MethodName)) ∈ mm_gw := mm_gwI 176 (by decide +kernel) (by decide +kernel)
theorem mw_164 : (Jvm.Cond.fieldLink "MosaicFloor$History" (11 : Nat) "MosaicFloor$History" "states" "[LMosaicFloor$State;") ∈ mm_gw := mm_gwI 177 (by decide +kernel) (by decide +kernel)
theorem mw_165 : (Jvm.Cond.fieldLink "MosaicFloor$History" (18 : Nat) "MosaicFloor$History" "used" "I") ∈ mm_gw := mm_gwI 178 (by decide +kernel) (by decide +kernel)
theorem mw_171 : (Jvm.Cond.classLink "MosaicFloor" (26 : Nat) "MosaicFloor$Text") ∈ mm_gw := mm_gwI 184 (by decide +kernel) (by decide +kernel)
theorem mw_172 : (Jvm.Cond.instantiable "MosaicFloor$Text" (2 : Nat)) ∈ mm_gw := mm_gwI 185 (by decide +kernel) (by decide +kernel)
theorem mw_174 : (Jvm.Cond.instanceMethod ({ cls := "MosaicFloor$Text", name := "<init>", desc := "()V" } : Jvm.MethodName)) ∈ mm_gw := mm_gwI 187 (by decide +kernel) (by decide +kernel)
theorem mw_175 : (Jvm.Cond.code ({ cls := "MosaicFloor$Text", name := "<init>", desc := "()V" } : Jvm.MethodName) prog_7_method_1_code (1 : Nat) (Option.none : Option Jvm.ClassFile.FieldType)) ∈ mm_gw := mm_gwI 188 (by decide +kernel) (by decide +kernel)
theorem mw_176 : (Jvm.Cond.methodLink "MosaicFloor$Text" (3 : Nat) ({ cls := "java/lang/Object", name := "<init>", desc := "()V" } : Jvm.MethodName)) ∈ mm_gw := mm_gwI 189 (by decide +kernel) (by decide +kernel)
theorem mw_177 : (Jvm.Cond.fieldLink "MosaicFloor$Text" (9 : Nat) "MosaicFloor$Text" "characters" "[C") ∈ mm_gw := mm_gwI 190 (by decide +kernel) (by decide +kernel)
theorem mw_178 : (Jvm.Cond.fieldLink "MosaicFloor$Text" (15 : Nat) "MosaicFloor$Text" "length" "I") ∈ mm_gw := mm_gwI 191 (by decide +kernel) (by decide +kernel)
theorem mw_179 : (Jvm.Cond.fieldLink "MosaicFloor" (213 : Nat) "MosaicFloor$Text" "length" "I") ∈ mm_gw := mm_gwI 192 (by decide +kernel) (by decide +kernel)
theorem mw_185 : (Jvm.Cond.arrayClass Jvm.ClassFile.FieldType.char) ∈ mm_gw := mm_gwI 198 (by decide +kernel) (by decide +kernel)
theorem mw_186 : (Jvm.Cond.fieldLink "MosaicFloor" (10 : Nat) "MosaicFloor" "now" "LMosaicFloor$State;") ∈ mm_gw := mm_gwI 199 (by decide +kernel) (by decide +kernel)
theorem mw_187 : (Jvm.Cond.fieldLink "MosaicFloor" (16 : Nat) "MosaicFloor" "trial" "LMosaicFloor$State;") ∈ mm_gw := mm_gwI 200 (by decide +kernel) (by decide +kernel)
theorem mw_188 : (Jvm.Cond.fieldLink "MosaicFloor" (22 : Nat) "MosaicFloor" "history" "LMosaicFloor$History;") ∈ mm_gw := mm_gwI 201 (by decide +kernel) (by decide +kernel)
theorem mw_189 : (Jvm.Cond.fieldLink "MosaicFloor" (29 : Nat) "MosaicFloor" "text" "LMosaicFloor$Text;") ∈ mm_gw := mm_gwI 202 (by decide +kernel) (by decide +kernel)
theorem mw_199 : (Jvm.Cond.methodLink "MosaicFloorLaw" (58 : Nat) ({ cls := "MosaicFloor", name := "floor", desc := "(II)I" } : Jvm.MethodName)) ∈ mm_gw := mm_gwI 212 (by decide +kernel) (by decide +kernel)
theorem mw_200 : (Jvm.Cond.instanceMethod ({ cls := "MosaicFloor", name := "floor", desc := "(II)I" } : Jvm.MethodName)) ∈ mm_gw := mm_gwI 213 (by decide +kernel) (by decide +kernel)
theorem mw_202 : (Jvm.Cond.code ({ cls := "MosaicFloor", name := "floor", desc := "(II)I" } : Jvm.MethodName) prog_1_method_2_code (3 : Nat) (Option.some Jvm.ClassFile.FieldType.int)) ∈ mm_gw := mm_gwI 215 (by decide +kernel) (by decide +kernel)
theorem mw_203 : (Jvm.Cond.methodLink "MosaicFloor" (33 : Nat) ({ cls := "MosaicFloor", name := "isWithin", desc := "(III)Z" } : Jvm.MethodName)) ∈ mm_gw := mm_gwI 216 (by decide +kernel) (by decide +kernel)
theorem mw_204 : (Jvm.Cond.static ({ cls := "MosaicFloor", name := "isWithin", desc := "(III)Z" } : Jvm.MethodName)) ∈ mm_gw := mm_gwI 217 (by decide +kernel) (by decide +kernel)
theorem mw_205 : (Jvm.Cond.code ({ cls := "MosaicFloor", name := "isWithin", desc := "(III)Z" } : Jvm.MethodName) prog_1_method_26_code (3 : Nat) (Option.some Jvm.ClassFile.FieldType.boolean)) ∈ mm_gw := mm_gwI 218 (by decide +kernel) (by decide +kernel)
theorem mw_206 : (Jvm.Cond.methodLink "MosaicFloor" (37 : Nat) ({ cls := "MosaicFloor$State", name := "laidCells", desc := "()I" } : Jvm.MethodName)) ∈ mm_gw := mm_gwI 219 (by decide +kernel) (by decide +kernel)
theorem mw_207 : (Jvm.Cond.instanceMethod ({ cls := "MosaicFloor$State", name := "laidCells", desc := "()I" } : Jvm.MethodName)) ∈ mm_gw := mm_gwI 220 (by decide +kernel) (by decide +kernel)
theorem mw_209 : (Jvm.Cond.code ({ cls := "MosaicFloor$State", name := "laidCells", desc := "()I" } : Jvm.MethodName) prog_4_method_7_code (6 : Nat) (Option.some Jvm.ClassFile.FieldType.int)) ∈ mm_gw := mm_gwI 222 (by decide +kernel) (by decide +kernel)
theorem mw_210 : (Jvm.Cond.methodLink "MosaicFloor" (41 : Nat) ({ cls := "MosaicFloor$History", name := "keep", desc := "(LMosaicFloor$State;)V" } : Jvm.MethodName)) ∈ mm_gw := mm_gwI 223 (by decide +kernel) (by decide +kernel)
theorem mw_211 : (Jvm.Cond.instanceMethod ({ cls := "MosaicFloor$History", name := "keep", desc := "(LMosaicFloor$State;)V" } : Jvm.MethodName)) ∈ mm_gw := mm_gwI 224 (by decide +kernel) (by decide +kernel)
theorem mw_213 : (Jvm.Cond.code ({ cls := "MosaicFloor$History", name := "keep", desc := "(LMosaicFloor$State;)V" } : Jvm.MethodName) prog_2_method_3_code (2 : Nat) (Option.none : Option Jvm.ClassFile.FieldType)) ∈ mm_gw := mm_gwI 226 (by decide +kernel) (by decide +kernel)
theorem mw_214 : (Jvm.Cond.methodLink "MosaicFloor$History" (22 : Nat) ({ cls := "MosaicFloor$History", name := "dropOldest", desc := "()V" } : Jvm.MethodName)) ∈ mm_gw := mm_gwI 227 (by decide +kernel) (by decide +kernel)
theorem mw_216 : (Jvm.Cond.instanceMethod ({ cls := "MosaicFloor$History", name := "dropOldest", desc := "()V" } : Jvm.MethodName)) ∈ mm_gw := mm_gwI 229 (by decide +kernel) (by decide +kernel)
theorem mw_217 : (Jvm.Cond.code ({ cls := "MosaicFloor$History", name := "dropOldest", desc := "()V" } : Jvm.MethodName) prog_2_method_4_code (3 : Nat) (Option.none : Option Jvm.ClassFile.FieldType)) ∈ mm_gw := mm_gwI 230 (by decide +kernel) (by decide +kernel)
theorem mw_218 : (Jvm.Cond.methodLink "MosaicFloor$History" (25 : Nat) ({ cls := "MosaicFloor$State", name := "copyFrom", desc := "(LMosaicFloor$State;)V" } : Jvm.MethodName)) ∈ mm_gw := mm_gwI 231 (by decide +kernel) (by decide +kernel)
theorem mw_219 : (Jvm.Cond.instanceMethod ({ cls := "MosaicFloor$State", name := "copyFrom", desc := "(LMosaicFloor$State;)V" } : Jvm.MethodName)) ∈ mm_gw := mm_gwI 232 (by decide +kernel) (by decide +kernel)
theorem mw_221 : (Jvm.Cond.code ({ cls := "MosaicFloor$State", name := "copyFrom", desc := "(LMosaicFloor$State;)V" } : Jvm.MethodName) prog_4_method_2_code (2 : Nat) (Option.none : Option Jvm.ClassFile.FieldType)) ∈ mm_gw := mm_gwI 234 (by decide +kernel) (by decide +kernel)
theorem mw_222 : (Jvm.Cond.methodLink "MosaicFloor$State" (35 : Nat) ({ cls := "MosaicFloor$Plan", name := "copyFrom", desc := "(LMosaicFloor$Plan;)V" } : Jvm.MethodName)) ∈ mm_gw := mm_gwI 235 (by decide +kernel) (by decide +kernel)
theorem mw_223 : (Jvm.Cond.instanceMethod ({ cls := "MosaicFloor$Plan", name := "copyFrom", desc := "(LMosaicFloor$Plan;)V" } : Jvm.MethodName)) ∈ mm_gw := mm_gwI 236 (by decide +kernel) (by decide +kernel)
theorem mw_225 : (Jvm.Cond.code ({ cls := "MosaicFloor$Plan", name := "copyFrom", desc := "(LMosaicFloor$Plan;)V" } : Jvm.MethodName) prog_3_method_3_code (2 : Nat) (Option.none : Option Jvm.ClassFile.FieldType)) ∈ mm_gw := mm_gwI 238 (by decide +kernel) (by decide +kernel)
theorem mw_226 : (Jvm.Cond.methodLink "MosaicFloor$Plan" (41 : Nat) ({ cls := "java/lang/System", name := "arraycopy", desc := "(Ljava/lang/Object;ILjava/lang/Object;II)V" } : Jvm.MethodName)) ∈ mm_gw := mm_gwI 239 (by decide +kernel) (by decide +kernel)
theorem mw_227 : (Jvm.Cond.static ({ cls := "java/lang/System", name := "arraycopy", desc := "(Ljava/lang/Object;ILjava/lang/Object;II)V" } : Jvm.MethodName)) ∈ mm_gw := mm_gwI 240 (by decide +kernel) (by decide +kernel)
theorem mw_228 : (Jvm.Cond.native ({ cls := "java/lang/System", name := "arraycopy", desc := "(Ljava/lang/Object;ILjava/lang/Object;II)V" } : Jvm.MethodName)) ∈ mm_gw := mm_gwI 241 (by decide +kernel) (by decide +kernel)
theorem mw_229 : (Jvm.Cond.methodLink "MosaicFloor$State" (39 : Nat) ({ cls := "MosaicFloor$Stock", name := "copyFrom", desc := "(LMosaicFloor$Stock;)V" } : Jvm.MethodName)) ∈ mm_gw := mm_gwI 242 (by decide +kernel) (by decide +kernel)
theorem mw_230 : (Jvm.Cond.instanceMethod ({ cls := "MosaicFloor$Stock", name := "copyFrom", desc := "(LMosaicFloor$Stock;)V" } : Jvm.MethodName)) ∈ mm_gw := mm_gwI 243 (by decide +kernel) (by decide +kernel)
theorem mw_232 : (Jvm.Cond.code ({ cls := "MosaicFloor$Stock", name := "copyFrom", desc := "(LMosaicFloor$Stock;)V" } : Jvm.MethodName) prog_5_method_2_code (3 : Nat) (Option.none : Option Jvm.ClassFile.FieldType)) ∈ mm_gw := mm_gwI 245 (by decide +kernel) (by decide +kernel)
theorem mw_233 : (Jvm.Cond.methodLink "MosaicFloor$Stock" (29 : Nat) ({ cls := "MosaicFloor$Strip", name := "copyFrom", desc := "(LMosaicFloor$Strip;)V" } : Jvm.MethodName)) ∈ mm_gw := mm_gwI 246 (by decide +kernel) (by decide +kernel)
theorem mw_234 : (Jvm.Cond.instanceMethod ({ cls := "MosaicFloor$Strip", name := "copyFrom", desc := "(LMosaicFloor$Strip;)V" } : Jvm.MethodName)) ∈ mm_gw := mm_gwI 247 (by decide +kernel) (by decide +kernel)
theorem mw_236 : (Jvm.Cond.code ({ cls := "MosaicFloor$Strip", name := "copyFrom", desc := "(LMosaicFloor$Strip;)V" } : Jvm.MethodName) prog_6_method_3_code (2 : Nat) (Option.none : Option Jvm.ClassFile.FieldType)) ∈ mm_gw := mm_gwI 249 (by decide +kernel) (by decide +kernel)
theorem mw_237 : (Jvm.Cond.methodLink "MosaicFloor$Strip" (31 : Nat) ({ cls := "java/lang/System", name := "arraycopy", desc := "(Ljava/lang/Object;ILjava/lang/Object;II)V" } : Jvm.MethodName)) ∈ mm_gw := mm_gwI 250 (by decide +kernel) (by decide +kernel)
theorem mw_238 : (Jvm.Cond.methodLink "MosaicFloor$Stock" (33 : Nat) ({ cls := "java/lang/System", name := "arraycopy", desc := "(Ljava/lang/Object;ILjava/lang/Object;II)V" } : Jvm.MethodName)) ∈ mm_gw := mm_gwI 251 (by decide +kernel) (by decide +kernel)
theorem mw_239 : (Jvm.Cond.methodLink "MosaicFloor$State" (42 : Nat) ({ cls := "java/lang/System", name := "arraycopy", desc := "(Ljava/lang/Object;ILjava/lang/Object;II)V" } : Jvm.MethodName)) ∈ mm_gw := mm_gwI 252 (by decide +kernel) (by decide +kernel)
theorem mw_240 : (Jvm.Cond.methodLink "MosaicFloor" (49 : Nat) ({ cls := "MosaicFloor$Plan", name := "begin", desc := "(II)V" } : Jvm.MethodName)) ∈ mm_gw := mm_gwI 253 (by decide +kernel) (by decide +kernel)
theorem mw_241 : (Jvm.Cond.methodLink "MosaicFloorLaw" (61 : Nat) ({ cls := "MosaicFloor", name := "set", desc := "(II)I" } : Jvm.MethodName)) ∈ mm_gw := mm_gwI 254 (by decide +kernel) (by decide +kernel)
theorem mw_242 : (Jvm.Cond.instanceMethod ({ cls := "MosaicFloor", name := "set", desc := "(II)I" } : Jvm.MethodName)) ∈ mm_gw := mm_gwI 255 (by decide +kernel) (by decide +kernel)
theorem mw_244 : (Jvm.Cond.code ({ cls := "MosaicFloor", name := "set", desc := "(II)I" } : Jvm.MethodName) prog_1_method_3_code (3 : Nat) (Option.some Jvm.ClassFile.FieldType.int)) ∈ mm_gw := mm_gwI 257 (by decide +kernel) (by decide +kernel)
theorem mw_245 : (Jvm.Cond.methodLink "MosaicFloor" (55 : Nat) ({ cls := "MosaicFloor", name := "changeSize", desc := "(I)I" } : Jvm.MethodName)) ∈ mm_gw := mm_gwI 258 (by decide +kernel) (by decide +kernel)
theorem mw_247 : (Jvm.Cond.instanceMethod ({ cls := "MosaicFloor", name := "changeSize", desc := "(I)I" } : Jvm.MethodName)) ∈ mm_gw := mm_gwI 260 (by decide +kernel) (by decide +kernel)
theorem mw_248 : (Jvm.Cond.code ({ cls := "MosaicFloor", name := "changeSize", desc := "(I)I" } : Jvm.MethodName) prog_1_method_28_code (3 : Nat) (Option.some Jvm.ClassFile.FieldType.int)) ∈ mm_gw := mm_gwI 261 (by decide +kernel) (by decide +kernel)
theorem mw_249 : (Jvm.Cond.methodLink "MosaicFloor" (217 : Nat) ({ cls := "MosaicFloor$Stock", name := "throwAway", desc := "()V" } : Jvm.MethodName)) ∈ mm_gw := mm_gwI 262 (by decide +kernel) (by decide +kernel)
theorem mw_250 : (Jvm.Cond.instanceMethod ({ cls := "MosaicFloor$Stock", name := "throwAway", desc := "()V" } : Jvm.MethodName)) ∈ mm_gw := mm_gwI 263 (by decide +kernel) (by decide +kernel)
theorem mw_252 : (Jvm.Cond.code ({ cls := "MosaicFloor$Stock", name := "throwAway", desc := "()V" } : Jvm.MethodName) prog_5_method_12_code (1 : Nat) (Option.none : Option Jvm.ClassFile.FieldType)) ∈ mm_gw := mm_gwI 265 (by decide +kernel) (by decide +kernel)
theorem mw_253 : (Jvm.Cond.methodLink "MosaicFloor$Stock" (73 : Nat) ({ cls := "MosaicFloor$Stock", name := "tesseraeAtHand", desc := "()I" } : Jvm.MethodName)) ∈ mm_gw := mm_gwI 266 (by decide +kernel) (by decide +kernel)
theorem mw_254 : (Jvm.Cond.instanceMethod ({ cls := "MosaicFloor$Stock", name := "tesseraeAtHand", desc := "()I" } : Jvm.MethodName)) ∈ mm_gw := mm_gwI 267 (by decide +kernel) (by decide +kernel)
theorem mw_256 : (Jvm.Cond.code ({ cls := "MosaicFloor$Stock", name := "tesseraeAtHand", desc := "()I" } : Jvm.MethodName) prog_5_method_7_code (6 : Nat) (Option.some Jvm.ClassFile.FieldType.int)) ∈ mm_gw := mm_gwI 269 (by decide +kernel) (by decide +kernel)
theorem mw_257 : (Jvm.Cond.methodLink "MosaicFloor$Stock" (76 : Nat) ({ cls := "java/util/Arrays", name := "fill", desc := "([II)V" } : Jvm.MethodName)) ∈ mm_gw := mm_gwI 270 (by decide +kernel) (by decide +kernel)
theorem mw_258 : (Jvm.Cond.methodLink "MosaicFloor" (59 : Nat) ({ cls := "MosaicFloor", name := "changeLoss", desc := "(I)I" } : Jvm.MethodName)) ∈ mm_gw := mm_gwI 271 (by decide +kernel) (by decide +kernel)
theorem mw_260 : (Jvm.Cond.instanceMethod ({ cls := "MosaicFloor", name := "changeLoss", desc := "(I)I" } : Jvm.MethodName)) ∈ mm_gw := mm_gwI 273 (by decide +kernel) (by decide +kernel)
theorem mw_261 : (Jvm.Cond.code ({ cls := "MosaicFloor", name := "changeLoss", desc := "(I)I" } : Jvm.MethodName) prog_1_method_29_code (3 : Nat) (Option.some Jvm.ClassFile.FieldType.int)) ∈ mm_gw := mm_gwI 274 (by decide +kernel) (by decide +kernel)
theorem mw_262 : (Jvm.Cond.methodLink "MosaicFloorLaw" (64 : Nat) ({ cls := "MosaicFloor", name := "way", desc := "(I)I" } : Jvm.MethodName)) ∈ mm_gw := mm_gwI 275 (by decide +kernel) (by decide +kernel)
theorem mw_263 : (Jvm.Cond.instanceMethod ({ cls := "MosaicFloor", name := "way", desc := "(I)I" } : Jvm.MethodName)) ∈ mm_gw := mm_gwI 276 (by decide +kernel) (by decide +kernel)
theorem mw_265 : (Jvm.Cond.code ({ cls := "MosaicFloor", name := "way", desc := "(I)I" } : Jvm.MethodName) prog_1_method_5_code (3 : Nat) (Option.some Jvm.ClassFile.FieldType.int)) ∈ mm_gw := mm_gwI 278 (by decide +kernel) (by decide +kernel)
theorem mw_266 : (Jvm.Cond.methodLink "MosaicFloorLaw" (67 : Nat) ({ cls := "MosaicFloor", name := "want", desc := "(III)I" } : Jvm.MethodName)) ∈ mm_gw := mm_gwI 279 (by decide +kernel) (by decide +kernel)
theorem mw_267 : (Jvm.Cond.instanceMethod ({ cls := "MosaicFloor", name := "want", desc := "(III)I" } : Jvm.MethodName)) ∈ mm_gw := mm_gwI 280 (by decide +kernel) (by decide +kernel)
theorem mw_269 : (Jvm.Cond.code ({ cls := "MosaicFloor", name := "want", desc := "(III)I" } : Jvm.MethodName) prog_1_method_6_code (5 : Nat) (Option.some Jvm.ClassFile.FieldType.int)) ∈ mm_gw := mm_gwI 282 (by decide +kernel) (by decide +kernel)
theorem mw_270 : (Jvm.Cond.methodLink "MosaicFloor" (73 : Nat) ({ cls := "MosaicFloor$Plan", name := "hasCell", desc := "(II)Z" } : Jvm.MethodName)) ∈ mm_gw := mm_gwI 283 (by decide +kernel) (by decide +kernel)
theorem mw_271 : (Jvm.Cond.instanceMethod ({ cls := "MosaicFloor$Plan", name := "hasCell", desc := "(II)Z" } : Jvm.MethodName)) ∈ mm_gw := mm_gwI 284 (by decide +kernel) (by decide +kernel)
theorem mw_273 : (Jvm.Cond.code ({ cls := "MosaicFloor$Plan", name := "hasCell", desc := "(II)Z" } : Jvm.MethodName) prog_3_method_5_code (3 : Nat) (Option.some Jvm.ClassFile.FieldType.boolean)) ∈ mm_gw := mm_gwI 286 (by decide +kernel) (by decide +kernel)
theorem mw_274 : (Jvm.Cond.methodLink "MosaicFloor" (77 : Nat) ({ cls := "MosaicFloor", name := "isShade", desc := "(I)Z" } : Jvm.MethodName)) ∈ mm_gw := mm_gwI 287 (by decide +kernel) (by decide +kernel)
theorem mw_275 : (Jvm.Cond.static ({ cls := "MosaicFloor", name := "isShade", desc := "(I)Z" } : Jvm.MethodName)) ∈ mm_gw := mm_gwI 288 (by decide +kernel) (by decide +kernel)
theorem mw_276 : (Jvm.Cond.code ({ cls := "MosaicFloor", name := "isShade", desc := "(I)Z" } : Jvm.MethodName) prog_1_method_27_code (1 : Nat) (Option.some Jvm.ClassFile.FieldType.boolean)) ∈ mm_gw := mm_gwI 289 (by decide +kernel) (by decide +kernel)
theorem mw_277 : (Jvm.Cond.methodLink "MosaicFloor" (81 : Nat) ({ cls := "MosaicFloor$Plan", name := "isBorder", desc := "(II)Z" } : Jvm.MethodName)) ∈ mm_gw := mm_gwI 290 (by decide +kernel) (by decide +kernel)
theorem mw_278 : (Jvm.Cond.instanceMethod ({ cls := "MosaicFloor$Plan", name := "isBorder", desc := "(II)Z" } : Jvm.MethodName)) ∈ mm_gw := mm_gwI 291 (by decide +kernel) (by decide +kernel)
theorem mw_280 : (Jvm.Cond.code ({ cls := "MosaicFloor$Plan", name := "isBorder", desc := "(II)Z" } : Jvm.MethodName) prog_3_method_6_code (3 : Nat) (Option.some Jvm.ClassFile.FieldType.boolean)) ∈ mm_gw := mm_gwI 293 (by decide +kernel) (by decide +kernel)
theorem mw_281 : (Jvm.Cond.methodLink "MosaicFloor" (84 : Nat) ({ cls := "MosaicFloor$State", name := "isLaid", desc := "(II)Z" } : Jvm.MethodName)) ∈ mm_gw := mm_gwI 294 (by decide +kernel) (by decide +kernel)
theorem mw_282 : (Jvm.Cond.instanceMethod ({ cls := "MosaicFloor$State", name := "isLaid", desc := "(II)Z" } : Jvm.MethodName)) ∈ mm_gw := mm_gwI 295 (by decide +kernel) (by decide +kernel)
theorem mw_284 : (Jvm.Cond.code ({ cls := "MosaicFloor$State", name := "isLaid", desc := "(II)Z" } : Jvm.MethodName) prog_4_method_5_code (3 : Nat) (Option.some Jvm.ClassFile.FieldType.boolean)) ∈ mm_gw := mm_gwI 297 (by decide +kernel) (by decide +kernel)
theorem mw_285 : (Jvm.Cond.methodLink "MosaicFloor$State" (56 : Nat) ({ cls := "MosaicFloor$State", name := "laidOrNone", desc := "(II)I" } : Jvm.MethodName)) ∈ mm_gw := mm_gwI 298 (by decide +kernel) (by decide +kernel)
theorem mw_286 : (Jvm.Cond.instanceMethod ({ cls := "MosaicFloor$State", name := "laidOrNone", desc := "(II)I" } : Jvm.MethodName)) ∈ mm_gw := mm_gwI 299 (by decide +kernel) (by decide +kernel)
theorem mw_288 : (Jvm.Cond.code ({ cls := "MosaicFloor$State", name := "laidOrNone", desc := "(II)I" } : Jvm.MethodName) prog_4_method_3_code (3 : Nat) (Option.some Jvm.ClassFile.FieldType.int)) ∈ mm_gw := mm_gwI 301 (by decide +kernel) (by decide +kernel)
theorem mw_289 : (Jvm.Cond.methodLink "MosaicFloor$State" (52 : Nat) ({ cls := "MosaicFloor$Plan", name := "hasCell", desc := "(II)Z" } : Jvm.MethodName)) ∈ mm_gw := mm_gwI 302 (by decide +kernel) (by decide +kernel)
theorem mw_290 : (Jvm.Cond.methodLink "MosaicFloor" (87 : Nat) ({ cls := "MosaicFloor$Plan", name := "wantedAt", desc := "(II)I" } : Jvm.MethodName)) ∈ mm_gw := mm_gwI 303 (by decide +kernel) (by decide +kernel)
theorem mw_291 : (Jvm.Cond.instanceMethod ({ cls := "MosaicFloor$Plan", name := "wantedAt", desc := "(II)I" } : Jvm.MethodName)) ∈ mm_gw := mm_gwI 304 (by decide +kernel) (by decide +kernel)
theorem mw_293 : (Jvm.Cond.code ({ cls := "MosaicFloor$Plan", name := "wantedAt", desc := "(II)I" } : Jvm.MethodName) prog_3_method_12_code (3 : Nat) (Option.some Jvm.ClassFile.FieldType.int)) ∈ mm_gw := mm_gwI 306 (by decide +kernel) (by decide +kernel)
theorem mw_294 : (Jvm.Cond.methodLink "MosaicFloor$Plan" (69 : Nat) ({ cls := "MosaicFloor$Plan", name := "hasCell", desc := "(II)Z" } : Jvm.MethodName)) ∈ mm_gw := mm_gwI 307 (by decide +kernel) (by decide +kernel)
theorem mw_295 : (Jvm.Cond.methodLink "MosaicFloor$Plan" (73 : Nat) ({ cls := "MosaicFloor$Plan", name := "isBorder", desc := "(II)Z" } : Jvm.MethodName)) ∈ mm_gw := mm_gwI 308 (by decide +kernel) (by decide +kernel)
theorem mw_296 : (Jvm.Cond.methodLink "MosaicFloor$Plan" (76 : Nat) ({ cls := "MosaicFloor$Plan", name := "borderNumberAt", desc := "(II)I" } : Jvm.MethodName)) ∈ mm_gw := mm_gwI 309 (by decide +kernel) (by decide +kernel)
theorem mw_297 : (Jvm.Cond.instanceMethod ({ cls := "MosaicFloor$Plan", name := "borderNumberAt", desc := "(II)I" } : Jvm.MethodName)) ∈ mm_gw := mm_gwI 310 (by decide +kernel) (by decide +kernel)
theorem mw_299 : (Jvm.Cond.code ({ cls := "MosaicFloor$Plan", name := "borderNumberAt", desc := "(II)I" } : Jvm.MethodName) prog_3_method_9_code (3 : Nat) (Option.some Jvm.ClassFile.FieldType.int)) ∈ mm_gw := mm_gwI 312 (by decide +kernel) (by decide +kernel)
theorem mw_300 : (Jvm.Cond.methodLink "MosaicFloor$Plan" (53 : Nat) ({ cls := "MosaicFloor$Plan", name := "halfOfBorder", desc := "()I" } : Jvm.MethodName)) ∈ mm_gw := mm_gwI 313 (by decide +kernel) (by decide +kernel)
theorem mw_302 : (Jvm.Cond.instanceMethod ({ cls := "MosaicFloor$Plan", name := "halfOfBorder", desc := "()I" } : Jvm.MethodName)) ∈ mm_gw := mm_gwI 315 (by decide +kernel) (by decide +kernel)
theorem mw_303 : (Jvm.Cond.code ({ cls := "MosaicFloor$Plan", name := "halfOfBorder", desc := "()I" } : Jvm.MethodName) prog_3_method_8_code (1 : Nat) (Option.some Jvm.ClassFile.FieldType.int)) ∈ mm_gw := mm_gwI 316 (by decide +kernel) (by decide +kernel)
theorem mw_304 : (Jvm.Cond.methodLink "MosaicFloor$Plan" (79 : Nat) ({ cls := "MosaicFloor$Plan", name := "wantedInBorder", desc := "(I)I" } : Jvm.MethodName)) ∈ mm_gw := mm_gwI 317 (by decide +kernel) (by decide +kernel)
theorem mw_306 : (Jvm.Cond.instanceMethod ({ cls := "MosaicFloor$Plan", name := "wantedInBorder", desc := "(I)I" } : Jvm.MethodName)) ∈ mm_gw := mm_gwI 319 (by decide +kernel) (by decide +kernel)
theorem mw_307 : (Jvm.Cond.code ({ cls := "MosaicFloor$Plan", name := "wantedInBorder", desc := "(I)I" } : Jvm.MethodName) prog_3_method_14_code (6 : Nat) (Option.some Jvm.ClassFile.FieldType.int)) ∈ mm_gw := mm_gwI 320 (by decide +kernel) (by decide +kernel)
theorem mw_308 : (Jvm.Cond.methodLink "MosaicFloor$Plan" (57 : Nat) ({ cls := "java/lang/Math", name := "min", desc := "(II)I" } : Jvm.MethodName)) ∈ mm_gw := mm_gwI 321 (by decide +kernel) (by decide +kernel)
theorem mw_309 : (Jvm.Cond.static ({ cls := "java/lang/Math", name := "min", desc := "(II)I" } : Jvm.MethodName)) ∈ mm_gw := mm_gwI 322 (by decide +kernel) (by decide +kernel)
theorem mw_311 : (Jvm.Cond.methodLink "MosaicFloor$Plan" (83 : Nat) ({ cls := "MosaicFloor$Plan", name := "patternShade", desc := "(I)I" } : Jvm.MethodName)) ∈ mm_gw := mm_gwI 324 (by decide +kernel) (by decide +kernel)
theorem mw_312 : (Jvm.Cond.instanceMethod ({ cls := "MosaicFloor$Plan", name := "patternShade", desc := "(I)I" } : Jvm.MethodName)) ∈ mm_gw := mm_gwI 325 (by decide +kernel) (by decide +kernel)
theorem mw_314 : (Jvm.Cond.code ({ cls := "MosaicFloor$Plan", name := "patternShade", desc := "(I)I" } : Jvm.MethodName) prog_3_method_16_code (3 : Nat) (Option.some Jvm.ClassFile.FieldType.int)) ∈ mm_gw := mm_gwI 327 (by decide +kernel) (by decide +kernel)
theorem mw_315 : (Jvm.Cond.methodLink "MosaicFloor$Plan" (86 : Nat) ({ cls := "MosaicFloor$Plan", name := "cellsOfWholePatterns", desc := "(I)I" } : Jvm.MethodName)) ∈ mm_gw := mm_gwI 328 (by decide +kernel) (by decide +kernel)
theorem mw_317 : (Jvm.Cond.instanceMethod ({ cls := "MosaicFloor$Plan", name := "cellsOfWholePatterns", desc := "(I)I" } : Jvm.MethodName)) ∈ mm_gw := mm_gwI 330 (by decide +kernel) (by decide +kernel)
theorem mw_318 : (Jvm.Cond.code ({ cls := "MosaicFloor$Plan", name := "cellsOfWholePatterns", desc := "(I)I" } : Jvm.MethodName) prog_3_method_15_code (2 : Nat) (Option.some Jvm.ClassFile.FieldType.int)) ∈ mm_gw := mm_gwI 331 (by decide +kernel) (by decide +kernel)
theorem mw_319 : (Jvm.Cond.methodLink "MosaicFloor" (91 : Nat) ({ cls := "MosaicFloor$Plan", name := "wantInField", desc := "(III)V" } : Jvm.MethodName)) ∈ mm_gw := mm_gwI 332 (by decide +kernel) (by decide +kernel)
theorem mw_320 : (Jvm.Cond.instanceMethod ({ cls := "MosaicFloor$Plan", name := "wantInField", desc := "(III)V" } : Jvm.MethodName)) ∈ mm_gw := mm_gwI 333 (by decide +kernel) (by decide +kernel)
theorem mw_322 : (Jvm.Cond.code ({ cls := "MosaicFloor$Plan", name := "wantInField", desc := "(III)V" } : Jvm.MethodName) prog_3_method_13_code (4 : Nat) (Option.none : Option Jvm.ClassFile.FieldType)) ∈ mm_gw := mm_gwI 335 (by decide +kernel) (by decide +kernel)
theorem mw_323 : (Jvm.Cond.methodLink "MosaicFloorLaw" (21 : Nat) ({ cls := "MosaicFloor", name := "cell", desc := "(III)I" } : Jvm.MethodName)) ∈ mm_gw := mm_gwI 336 (by decide +kernel) (by decide +kernel)
theorem mw_324 : (Jvm.Cond.instanceMethod ({ cls := "MosaicFloor", name := "cell", desc := "(III)I" } : Jvm.MethodName)) ∈ mm_gw := mm_gwI 337 (by decide +kernel) (by decide +kernel)
theorem mw_326 : (Jvm.Cond.code ({ cls := "MosaicFloor", name := "cell", desc := "(III)I" } : Jvm.MethodName) prog_1_method_7_code (4 : Nat) (Option.some Jvm.ClassFile.FieldType.int)) ∈ mm_gw := mm_gwI 339 (by decide +kernel) (by decide +kernel)
theorem mw_327 : (Jvm.Cond.methodLink "MosaicFloor" (95 : Nat) ({ cls := "MosaicFloor$State", name := "laidOrNone", desc := "(II)I" } : Jvm.MethodName)) ∈ mm_gw := mm_gwI 340 (by decide +kernel) (by decide +kernel)
theorem mw_328 : (Jvm.Cond.methodLink "MosaicFloor" (98 : Nat) ({ cls := "MosaicFloor$State", name := "differenceAt", desc := "(II)I" } : Jvm.MethodName)) ∈ mm_gw := mm_gwI 341 (by decide +kernel) (by decide +kernel)
theorem mw_329 : (Jvm.Cond.instanceMethod ({ cls := "MosaicFloor$State", name := "differenceAt", desc := "(II)I" } : Jvm.MethodName)) ∈ mm_gw := mm_gwI 342 (by decide +kernel) (by decide +kernel)
theorem mw_331 : (Jvm.Cond.code ({ cls := "MosaicFloor$State", name := "differenceAt", desc := "(II)I" } : Jvm.MethodName) prog_4_method_6_code (3 : Nat) (Option.some Jvm.ClassFile.FieldType.int)) ∈ mm_gw := mm_gwI 344 (by decide +kernel) (by decide +kernel)
theorem mw_332 : (Jvm.Cond.methodLink "MosaicFloor$State" (60 : Nat) ({ cls := "MosaicFloor$State", name := "isLaid", desc := "(II)Z" } : Jvm.MethodName)) ∈ mm_gw := mm_gwI 345 (by decide +kernel) (by decide +kernel)
theorem mw_333 : (Jvm.Cond.methodLink "MosaicFloor$State" (63 : Nat) ({ cls := "MosaicFloor$Plan", name := "wantedAt", desc := "(II)I" } : Jvm.MethodName)) ∈ mm_gw := mm_gwI 346 (by decide +kernel) (by decide +kernel)
theorem mw_334 : (Jvm.Cond.methodLink "MosaicFloor$State" (66 : Nat) ({ cls := "java/lang/Math", name := "abs", desc := "(I)I" } : Jvm.MethodName)) ∈ mm_gw := mm_gwI 347 (by decide +kernel) (by decide +kernel)
theorem mw_335 : (Jvm.Cond.static ({ cls := "java/lang/Math", name := "abs", desc := "(I)I" } : Jvm.MethodName)) ∈ mm_gw := mm_gwI 348 (by decide +kernel) (by decide +kernel)
theorem mw_337 : (Jvm.Cond.methodLink "MosaicFloor" (101 : Nat) ({ cls := "MosaicFloor$Plan", name := "borderNumberAt", desc := "(II)I" } : Jvm.MethodName)) ∈ mm_gw := mm_gwI 350 (by decide +kernel) (by decide +kernel)
theorem mw_338 : (Jvm.Cond.methodLink "MosaicFloorLaw" (9 : Nat) ({ cls := "MosaicFloor", name := "count", desc := "(I)I" } : Jvm.MethodName)) ∈ mm_gw := mm_gwI 351 (by decide +kernel) (by decide +kernel)
theorem mw_339 : (Jvm.Cond.instanceMethod ({ cls := "MosaicFloor", name := "count", desc := "(I)I" } : Jvm.MethodName)) ∈ mm_gw := mm_gwI 352 (by decide +kernel) (by decide +kernel)
theorem mw_341 : (Jvm.Cond.code ({ cls := "MosaicFloor", name := "count", desc := "(I)I" } : Jvm.MethodName) prog_1_method_8_code (2 : Nat) (Option.some Jvm.ClassFile.FieldType.int)) ∈ mm_gw := mm_gwI 354 (by decide +kernel) (by decide +kernel)
theorem mw_342 : (Jvm.Cond.methodLink "MosaicFloor" (104 : Nat) ({ cls := "MosaicFloor", name := "countOfPlan", desc := "(I)I" } : Jvm.MethodName)) ∈ mm_gw := mm_gwI 355 (by decide +kernel) (by decide +kernel)
theorem mw_344 : (Jvm.Cond.instanceMethod ({ cls := "MosaicFloor", name := "countOfPlan", desc := "(I)I" } : Jvm.MethodName)) ∈ mm_gw := mm_gwI 357 (by decide +kernel) (by decide +kernel)
theorem mw_345 : (Jvm.Cond.code ({ cls := "MosaicFloor", name := "countOfPlan", desc := "(I)I" } : Jvm.MethodName) prog_1_method_30_code (2 : Nat) (Option.some Jvm.ClassFile.FieldType.int)) ∈ mm_gw := mm_gwI 358 (by decide +kernel) (by decide +kernel)
theorem mw_346 : (Jvm.Cond.methodLink "MosaicFloor" (226 : Nat) ({ cls := "MosaicFloor$Plan", name := "borderCells", desc := "()I" } : Jvm.MethodName)) ∈ mm_gw := mm_gwI 359 (by decide +kernel) (by decide +kernel)
theorem mw_347 : (Jvm.Cond.instanceMethod ({ cls := "MosaicFloor$Plan", name := "borderCells", desc := "()I" } : Jvm.MethodName)) ∈ mm_gw := mm_gwI 360 (by decide +kernel) (by decide +kernel)
theorem mw_349 : (Jvm.Cond.code ({ cls := "MosaicFloor$Plan", name := "borderCells", desc := "()I" } : Jvm.MethodName) prog_3_method_7_code (1 : Nat) (Option.some Jvm.ClassFile.FieldType.int)) ∈ mm_gw := mm_gwI 362 (by decide +kernel) (by decide +kernel)
theorem mw_350 : (Jvm.Cond.methodLink "MosaicFloor" (229 : Nat) ({ cls := "MosaicFloor$Plan", name := "borderMeets", desc := "()Z" } : Jvm.MethodName)) ∈ mm_gw := mm_gwI 363 (by decide +kernel) (by decide +kernel)
theorem mw_351 : (Jvm.Cond.instanceMethod ({ cls := "MosaicFloor$Plan", name := "borderMeets", desc := "()Z" } : Jvm.MethodName)) ∈ mm_gw := mm_gwI 364 (by decide +kernel) (by decide +kernel)
theorem mw_353 : (Jvm.Cond.code ({ cls := "MosaicFloor$Plan", name := "borderMeets", desc := "()Z" } : Jvm.MethodName) prog_3_method_17_code (4 : Nat) (Option.some Jvm.ClassFile.FieldType.boolean)) ∈ mm_gw := mm_gwI 366 (by decide +kernel) (by decide +kernel)
theorem mw_354 : (Jvm.Cond.methodLink "MosaicFloor$Plan" (89 : Nat) ({ cls := "MosaicFloor$Plan", name := "patternHasOneShade", desc := "()Z" } : Jvm.MethodName)) ∈ mm_gw := mm_gwI 367 (by decide +kernel) (by decide +kernel)
theorem mw_356 : (Jvm.Cond.instanceMethod ({ cls := "MosaicFloor$Plan", name := "patternHasOneShade", desc := "()Z" } : Jvm.MethodName)) ∈ mm_gw := mm_gwI 369 (by decide +kernel) (by decide +kernel)
theorem mw_357 : (Jvm.Cond.code ({ cls := "MosaicFloor$Plan", name := "patternHasOneShade", desc := "()Z" } : Jvm.MethodName) prog_3_method_18_code (2 : Nat) (Option.some Jvm.ClassFile.FieldType.boolean)) ∈ mm_gw := mm_gwI 370 (by decide +kernel) (by decide +kernel)
theorem mw_358 : (Jvm.Cond.methodLink "MosaicFloor$Plan" (66 : Nat) ({ cls := "MosaicFloor$Plan", name := "borderCells", desc := "()I" } : Jvm.MethodName)) ∈ mm_gw := mm_gwI 371 (by decide +kernel) (by decide +kernel)
theorem mw_359 : (Jvm.Cond.methodLink "MosaicFloor" (107 : Nat) ({ cls := "MosaicFloor", name := "countOfWork", desc := "(I)I" } : Jvm.MethodName)) ∈ mm_gw := mm_gwI 372 (by decide +kernel) (by decide +kernel)
theorem mw_361 : (Jvm.Cond.instanceMethod ({ cls := "MosaicFloor", name := "countOfWork", desc := "(I)I" } : Jvm.MethodName)) ∈ mm_gw := mm_gwI 374 (by decide +kernel) (by decide +kernel)
theorem mw_362 : (Jvm.Cond.code ({ cls := "MosaicFloor", name := "countOfWork", desc := "(I)I" } : Jvm.MethodName) prog_1_method_31_code (2 : Nat) (Option.some Jvm.ClassFile.FieldType.int)) ∈ mm_gw := mm_gwI 375 (by decide +kernel) (by decide +kernel)
theorem mw_363 : (Jvm.Cond.methodLink "MosaicFloor" (210 : Nat) ({ cls := "MosaicFloor$State", name := "sumOfDifferences", desc := "()I" } : Jvm.MethodName)) ∈ mm_gw := mm_gwI 376 (by decide +kernel) (by decide +kernel)
theorem mw_364 : (Jvm.Cond.instanceMethod ({ cls := "MosaicFloor$State", name := "sumOfDifferences", desc := "()I" } : Jvm.MethodName)) ∈ mm_gw := mm_gwI 377 (by decide +kernel) (by decide +kernel)
theorem mw_366 : (Jvm.Cond.code ({ cls := "MosaicFloor$State", name := "sumOfDifferences", desc := "()I" } : Jvm.MethodName) prog_4_method_8_code (4 : Nat) (Option.some Jvm.ClassFile.FieldType.int)) ∈ mm_gw := mm_gwI 379 (by decide +kernel) (by decide +kernel)
theorem mw_367 : (Jvm.Cond.methodLink "MosaicFloor$State" (78 : Nat) ({ cls := "MosaicFloor$State", name := "differenceAt", desc := "(II)I" } : Jvm.MethodName)) ∈ mm_gw := mm_gwI 380 (by decide +kernel) (by decide +kernel)
theorem mw_368 : (Jvm.Cond.methodLink "MosaicFloor" (233 : Nat) ({ cls := "MosaicFloor$State", name := "greatestDifference", desc := "()I" } : Jvm.MethodName)) ∈ mm_gw := mm_gwI 381 (by decide +kernel) (by decide +kernel)
theorem mw_369 : (Jvm.Cond.instanceMethod ({ cls := "MosaicFloor$State", name := "greatestDifference", desc := "()I" } : Jvm.MethodName)) ∈ mm_gw := mm_gwI 382 (by decide +kernel) (by decide +kernel)
theorem mw_371 : (Jvm.Cond.code ({ cls := "MosaicFloor$State", name := "greatestDifference", desc := "()I" } : Jvm.MethodName) prog_4_method_9_code (4 : Nat) (Option.some Jvm.ClassFile.FieldType.int)) ∈ mm_gw := mm_gwI 384 (by decide +kernel) (by decide +kernel)
theorem mw_372 : (Jvm.Cond.methodLink "MosaicFloor$State" (81 : Nat) ({ cls := "java/lang/Math", name := "max", desc := "(II)I" } : Jvm.MethodName)) ∈ mm_gw := mm_gwI 385 (by decide +kernel) (by decide +kernel)
theorem mw_373 : (Jvm.Cond.static ({ cls := "java/lang/Math", name := "max", desc := "(II)I" } : Jvm.MethodName)) ∈ mm_gw := mm_gwI 386 (by decide +kernel) (by decide +kernel)
theorem mw_375 : (Jvm.Cond.methodLink "MosaicFloor" (236 : Nat) ({ cls := "MosaicFloor$Stock", name := "tesseraeAtHand", desc := "()I" } : Jvm.MethodName)) ∈ mm_gw := mm_gwI 388 (by decide +kernel) (by decide +kernel)
theorem mw_376 : (Jvm.Cond.methodLink "MosaicFloor" (119 : Nat) ({ cls := "MosaicFloor$History", name := "states", desc := "()I" } : Jvm.MethodName)) ∈ mm_gw := mm_gwI 389 (by decide +kernel) (by decide +kernel)
theorem mw_377 : (Jvm.Cond.instanceMethod ({ cls := "MosaicFloor$History", name := "states", desc := "()I" } : Jvm.MethodName)) ∈ mm_gw := mm_gwI 390 (by decide +kernel) (by decide +kernel)
theorem mw_379 : (Jvm.Cond.code ({ cls := "MosaicFloor$History", name := "states", desc := "()I" } : Jvm.MethodName) prog_2_method_2_code (1 : Nat) (Option.some Jvm.ClassFile.FieldType.int)) ∈ mm_gw := mm_gwI 392 (by decide +kernel) (by decide +kernel)
theorem mw_380 : (Jvm.Cond.methodLink "MosaicFloor" (110 : Nat) ({ cls := "MosaicFloor", name := "account", desc := "(I)I" } : Jvm.MethodName)) ∈ mm_gw := mm_gwI 393 (by decide +kernel) (by decide +kernel)
theorem mw_382 : (Jvm.Cond.instanceMethod ({ cls := "MosaicFloor", name := "account", desc := "(I)I" } : Jvm.MethodName)) ∈ mm_gw := mm_gwI 395 (by decide +kernel) (by decide +kernel)
theorem mw_383 : (Jvm.Cond.code ({ cls := "MosaicFloor", name := "account", desc := "(I)I" } : Jvm.MethodName) prog_1_method_32_code (2 : Nat) (Option.some Jvm.ClassFile.FieldType.int)) ∈ mm_gw := mm_gwI 396 (by decide +kernel) (by decide +kernel)
theorem mw_384 : (Jvm.Cond.methodLink "MosaicFloor" (245 : Nat) ({ cls := "MosaicFloor$Stock", name := "lengthOfStrips", desc := "()I" } : Jvm.MethodName)) ∈ mm_gw := mm_gwI 397 (by decide +kernel) (by decide +kernel)
theorem mw_385 : (Jvm.Cond.instanceMethod ({ cls := "MosaicFloor$Stock", name := "lengthOfStrips", desc := "()I" } : Jvm.MethodName)) ∈ mm_gw := mm_gwI 398 (by decide +kernel) (by decide +kernel)
theorem mw_387 : (Jvm.Cond.code ({ cls := "MosaicFloor$Stock", name := "lengthOfStrips", desc := "()I" } : Jvm.MethodName) prog_5_method_5_code (6 : Nat) (Option.some Jvm.ClassFile.FieldType.int)) ∈ mm_gw := mm_gwI 400 (by decide +kernel) (by decide +kernel)
theorem mw_388 : (Jvm.Cond.methodLink "MosaicFloor" (248 : Nat) ({ cls := "MosaicFloor$Stock", name := "leftOfStrips", desc := "()I" } : Jvm.MethodName)) ∈ mm_gw := mm_gwI 401 (by decide +kernel) (by decide +kernel)
theorem mw_389 : (Jvm.Cond.instanceMethod ({ cls := "MosaicFloor$Stock", name := "leftOfStrips", desc := "()I" } : Jvm.MethodName)) ∈ mm_gw := mm_gwI 402 (by decide +kernel) (by decide +kernel)
theorem mw_391 : (Jvm.Cond.code ({ cls := "MosaicFloor$Stock", name := "leftOfStrips", desc := "()I" } : Jvm.MethodName) prog_5_method_6_code (6 : Nat) (Option.some Jvm.ClassFile.FieldType.int)) ∈ mm_gw := mm_gwI 404 (by decide +kernel) (by decide +kernel)
theorem mw_392 : (Jvm.Cond.methodLink "MosaicFloor$Stock" (61 : Nat) ({ cls := "MosaicFloor$Strip", name := "left", desc := "()I" } : Jvm.MethodName)) ∈ mm_gw := mm_gwI 405 (by decide +kernel) (by decide +kernel)
theorem mw_393 : (Jvm.Cond.instanceMethod ({ cls := "MosaicFloor$Strip", name := "left", desc := "()I" } : Jvm.MethodName)) ∈ mm_gw := mm_gwI 406 (by decide +kernel) (by decide +kernel)
theorem mw_395 : (Jvm.Cond.code ({ cls := "MosaicFloor$Strip", name := "left", desc := "()I" } : Jvm.MethodName) prog_6_method_4_code (1 : Nat) (Option.some Jvm.ClassFile.FieldType.int)) ∈ mm_gw := mm_gwI 408 (by decide +kernel) (by decide +kernel)
theorem mw_396 : (Jvm.Cond.methodLink "MosaicFloorLaw" (93 : Nat) ({ cls := "MosaicFloor", name := "undo", desc := "()I" } : Jvm.MethodName)) ∈ mm_gw := mm_gwI 409 (by decide +kernel) (by decide +kernel)
theorem mw_397 : (Jvm.Cond.instanceMethod ({ cls := "MosaicFloor", name := "undo", desc := "()I" } : Jvm.MethodName)) ∈ mm_gw := mm_gwI 410 (by decide +kernel) (by decide +kernel)
theorem mw_399 : (Jvm.Cond.code ({ cls := "MosaicFloor", name := "undo", desc := "()I" } : Jvm.MethodName) prog_1_method_10_code (1 : Nat) (Option.some Jvm.ClassFile.FieldType.int)) ∈ mm_gw := mm_gwI 412 (by decide +kernel) (by decide +kernel)
theorem mw_400 : (Jvm.Cond.methodLink "MosaicFloor" (122 : Nat) ({ cls := "MosaicFloor$History", name := "restore", desc := "(LMosaicFloor$State;)V" } : Jvm.MethodName)) ∈ mm_gw := mm_gwI 413 (by decide +kernel) (by decide +kernel)
theorem mw_401 : (Jvm.Cond.instanceMethod ({ cls := "MosaicFloor$History", name := "restore", desc := "(LMosaicFloor$State;)V" } : Jvm.MethodName)) ∈ mm_gw := mm_gwI 414 (by decide +kernel) (by decide +kernel)
theorem mw_403 : (Jvm.Cond.code ({ cls := "MosaicFloor$History", name := "restore", desc := "(LMosaicFloor$State;)V" } : Jvm.MethodName) prog_2_method_5_code (2 : Nat) (Option.none : Option Jvm.ClassFile.FieldType)) ∈ mm_gw := mm_gwI 416 (by decide +kernel) (by decide +kernel)
theorem mw_404 : (Jvm.Cond.methodLink "MosaicFloorLaw" (70 : Nat) ({ cls := "MosaicFloor", name := "strip", desc := "(II)I" } : Jvm.MethodName)) ∈ mm_gw := mm_gwI 417 (by decide +kernel) (by decide +kernel)
theorem mw_405 : (Jvm.Cond.instanceMethod ({ cls := "MosaicFloor", name := "strip", desc := "(II)I" } : Jvm.MethodName)) ∈ mm_gw := mm_gwI 418 (by decide +kernel) (by decide +kernel)
theorem mw_407 : (Jvm.Cond.code ({ cls := "MosaicFloor", name := "strip", desc := "(II)I" } : Jvm.MethodName) prog_1_method_11_code (3 : Nat) (Option.some Jvm.ClassFile.FieldType.int)) ∈ mm_gw := mm_gwI 420 (by decide +kernel) (by decide +kernel)
theorem mw_408 : (Jvm.Cond.methodLink "MosaicFloor" (134 : Nat) ({ cls := "MosaicFloor$Stock", name := "addStrip", desc := "(II)I" } : Jvm.MethodName)) ∈ mm_gw := mm_gwI 421 (by decide +kernel) (by decide +kernel)
theorem mw_409 : (Jvm.Cond.instanceMethod ({ cls := "MosaicFloor$Stock", name := "addStrip", desc := "(II)I" } : Jvm.MethodName)) ∈ mm_gw := mm_gwI 422 (by decide +kernel) (by decide +kernel)
theorem mw_411 : (Jvm.Cond.code ({ cls := "MosaicFloor$Stock", name := "addStrip", desc := "(II)I" } : Jvm.MethodName) prog_5_method_3_code (4 : Nat) (Option.some Jvm.ClassFile.FieldType.int)) ∈ mm_gw := mm_gwI 424 (by decide +kernel) (by decide +kernel)
theorem mw_412 : (Jvm.Cond.methodLink "MosaicFloor$Stock" (54 : Nat) ({ cls := "MosaicFloor$Strip", name := "begin", desc := "(II)V" } : Jvm.MethodName)) ∈ mm_gw := mm_gwI 425 (by decide +kernel) (by decide +kernel)
theorem mw_413 : (Jvm.Cond.instanceMethod ({ cls := "MosaicFloor$Strip", name := "begin", desc := "(II)V" } : Jvm.MethodName)) ∈ mm_gw := mm_gwI 426 (by decide +kernel) (by decide +kernel)
theorem mw_415 : (Jvm.Cond.code ({ cls := "MosaicFloor$Strip", name := "begin", desc := "(II)V" } : Jvm.MethodName) prog_6_method_2_code (3 : Nat) (Option.none : Option Jvm.ClassFile.FieldType)) ∈ mm_gw := mm_gwI 428 (by decide +kernel) (by decide +kernel)
theorem mw_416 : (Jvm.Cond.methodLink "MosaicFloorLaw" (73 : Nat) ({ cls := "MosaicFloor", name := "flaw", desc := "(II)I" } : Jvm.MethodName)) ∈ mm_gw := mm_gwI 429 (by decide +kernel) (by decide +kernel)
theorem mw_417 : (Jvm.Cond.instanceMethod ({ cls := "MosaicFloor", name := "flaw", desc := "(II)I" } : Jvm.MethodName)) ∈ mm_gw := mm_gwI 430 (by decide +kernel) (by decide +kernel)
theorem mw_419 : (Jvm.Cond.code ({ cls := "MosaicFloor", name := "flaw", desc := "(II)I" } : Jvm.MethodName) prog_1_method_12_code (4 : Nat) (Option.some Jvm.ClassFile.FieldType.int)) ∈ mm_gw := mm_gwI 432 (by decide +kernel) (by decide +kernel)
theorem mw_420 : (Jvm.Cond.methodLink "MosaicFloor" (137 : Nat) ({ cls := "MosaicFloor$Stock", name := "stripOrNull", desc := "(I)LMosaicFloor$Strip;" } : Jvm.MethodName)) ∈ mm_gw := mm_gwI 433 (by decide +kernel) (by decide +kernel)
theorem mw_421 : (Jvm.Cond.instanceMethod ({ cls := "MosaicFloor$Stock", name := "stripOrNull", desc := "(I)LMosaicFloor$Strip;" } : Jvm.MethodName)) ∈ mm_gw := mm_gwI 434 (by decide +kernel) (by decide +kernel)
theorem mw_423 : (Jvm.Cond.code ({ cls := "MosaicFloor$Stock", name := "stripOrNull", desc := "(I)LMosaicFloor$Strip;" } : Jvm.MethodName) prog_5_method_4_code (2 : Nat) (Option.some (Jvm.ClassFile.FieldType.object "MosaicFloor$Strip"))) ∈ mm_gw := mm_gwI 436 (by decide +kernel) (by decide +kernel)
theorem mw_424 : (Jvm.Cond.methodLink "MosaicFloor" (149 : Nat) ({ cls := "MosaicFloor$Strip", name := "hasFlawIn", desc := "(II)Z" } : Jvm.MethodName)) ∈ mm_gw := mm_gwI 437 (by decide +kernel) (by decide +kernel)
theorem mw_425 : (Jvm.Cond.instanceMethod ({ cls := "MosaicFloor$Strip", name := "hasFlawIn", desc := "(II)Z" } : Jvm.MethodName)) ∈ mm_gw := mm_gwI 438 (by decide +kernel) (by decide +kernel)
theorem mw_427 : (Jvm.Cond.code ({ cls := "MosaicFloor$Strip", name := "hasFlawIn", desc := "(II)Z" } : Jvm.MethodName) prog_6_method_6_code (4 : Nat) (Option.some Jvm.ClassFile.FieldType.boolean)) ∈ mm_gw := mm_gwI 440 (by decide +kernel) (by decide +kernel)
theorem mw_428 : (Jvm.Cond.methodLink "MosaicFloor" (155 : Nat) ({ cls := "MosaicFloor$Strip", name := "addFlaw", desc := "(I)V" } : Jvm.MethodName)) ∈ mm_gw := mm_gwI 441 (by decide +kernel) (by decide +kernel)
theorem mw_429 : (Jvm.Cond.instanceMethod ({ cls := "MosaicFloor$Strip", name := "addFlaw", desc := "(I)V" } : Jvm.MethodName)) ∈ mm_gw := mm_gwI 442 (by decide +kernel) (by decide +kernel)
theorem mw_431 : (Jvm.Cond.code ({ cls := "MosaicFloor$Strip", name := "addFlaw", desc := "(I)V" } : Jvm.MethodName) prog_6_method_5_code (2 : Nat) (Option.none : Option Jvm.ClassFile.FieldType)) ∈ mm_gw := mm_gwI 444 (by decide +kernel) (by decide +kernel)
theorem mw_432 : (Jvm.Cond.methodLink "MosaicFloorLaw" (76 : Nat) ({ cls := "MosaicFloor", name := "cut", desc := "(I)I" } : Jvm.MethodName)) ∈ mm_gw := mm_gwI 445 (by decide +kernel) (by decide +kernel)
theorem mw_433 : (Jvm.Cond.instanceMethod ({ cls := "MosaicFloor", name := "cut", desc := "(I)I" } : Jvm.MethodName)) ∈ mm_gw := mm_gwI 446 (by decide +kernel) (by decide +kernel)
theorem mw_435 : (Jvm.Cond.code ({ cls := "MosaicFloor", name := "cut", desc := "(I)I" } : Jvm.MethodName) prog_1_method_13_code (3 : Nat) (Option.some Jvm.ClassFile.FieldType.int)) ∈ mm_gw := mm_gwI 448 (by decide +kernel) (by decide +kernel)
theorem mw_436 : (Jvm.Cond.methodLink "MosaicFloor" (159 : Nat) ({ cls := "MosaicFloor$Strip", name := "left", desc := "()I" } : Jvm.MethodName)) ∈ mm_gw := mm_gwI 449 (by decide +kernel) (by decide +kernel)
theorem mw_437 : (Jvm.Cond.methodLink "MosaicFloor" (165 : Nat) ({ cls := "MosaicFloor$Stock", name := "cutFrom", desc := "(LMosaicFloor$Strip;)Z" } : Jvm.MethodName)) ∈ mm_gw := mm_gwI 450 (by decide +kernel) (by decide +kernel)
theorem mw_438 : (Jvm.Cond.instanceMethod ({ cls := "MosaicFloor$Stock", name := "cutFrom", desc := "(LMosaicFloor$Strip;)Z" } : Jvm.MethodName)) ∈ mm_gw := mm_gwI 451 (by decide +kernel) (by decide +kernel)
theorem mw_440 : (Jvm.Cond.code ({ cls := "MosaicFloor$Stock", name := "cutFrom", desc := "(LMosaicFloor$Strip;)Z" } : Jvm.MethodName) prog_5_method_18_code (4 : Nat) (Option.some Jvm.ClassFile.FieldType.boolean)) ∈ mm_gw := mm_gwI 453 (by decide +kernel) (by decide +kernel)
theorem mw_441 : (Jvm.Cond.methodLink "MosaicFloor$Stock" (116 : Nat) ({ cls := "MosaicFloor$Strip", name := "cutOff", desc := "(II)Z" } : Jvm.MethodName)) ∈ mm_gw := mm_gwI 454 (by decide +kernel) (by decide +kernel)
theorem mw_442 : (Jvm.Cond.instanceMethod ({ cls := "MosaicFloor$Strip", name := "cutOff", desc := "(II)Z" } : Jvm.MethodName)) ∈ mm_gw := mm_gwI 455 (by decide +kernel) (by decide +kernel)
theorem mw_444 : (Jvm.Cond.code ({ cls := "MosaicFloor$Strip", name := "cutOff", desc := "(II)Z" } : Jvm.MethodName) prog_6_method_10_code (4 : Nat) (Option.some Jvm.ClassFile.FieldType.boolean)) ∈ mm_gw := mm_gwI 457 (by decide +kernel) (by decide +kernel)
theorem mw_445 : (Jvm.Cond.methodLink "MosaicFloor$Strip" (41 : Nat) ({ cls := "MosaicFloor$Strip", name := "hasFlawIn", desc := "(II)Z" } : Jvm.MethodName)) ∈ mm_gw := mm_gwI 458 (by decide +kernel) (by decide +kernel)
theorem mw_446 : (Jvm.Cond.methodLink "MosaicFloor$Strip" (45 : Nat) ({ cls := "java/lang/Math", name := "min", desc := "(II)I" } : Jvm.MethodName)) ∈ mm_gw := mm_gwI 459 (by decide +kernel) (by decide +kernel)
theorem mw_447 : (Jvm.Cond.methodLink "MosaicFloor$Stock" (119 : Nat) ({ cls := "MosaicFloor$Stock", name := "putAtHand", desc := "(I)V" } : Jvm.MethodName)) ∈ mm_gw := mm_gwI 460 (by decide +kernel) (by decide +kernel)
theorem mw_448 : (Jvm.Cond.instanceMethod ({ cls := "MosaicFloor$Stock", name := "putAtHand", desc := "(I)V" } : Jvm.MethodName)) ∈ mm_gw := mm_gwI 461 (by decide +kernel) (by decide +kernel)
theorem mw_450 : (Jvm.Cond.code ({ cls := "MosaicFloor$Stock", name := "putAtHand", desc := "(I)V" } : Jvm.MethodName) prog_5_method_9_code (2 : Nat) (Option.none : Option Jvm.ClassFile.FieldType)) ∈ mm_gw := mm_gwI 463 (by decide +kernel) (by decide +kernel)
theorem mw_452 : (Jvm.Cond.methodLink "MosaicFloor$Stock" (123 : Nat) ({ cls := "MosaicFloor$Stock", name := "addBroken", desc := "()V" } : Jvm.MethodName)) ∈ mm_gw := mm_gwI 465 (by decide +kernel) (by decide +kernel)
theorem mw_453 : (Jvm.Cond.instanceMethod ({ cls := "MosaicFloor$Stock", name := "addBroken", desc := "()V" } : Jvm.MethodName)) ∈ mm_gw := mm_gwI 466 (by decide +kernel) (by decide +kernel)
theorem mw_455 : (Jvm.Cond.code ({ cls := "MosaicFloor$Stock", name := "addBroken", desc := "()V" } : Jvm.MethodName) prog_5_method_11_code (1 : Nat) (Option.none : Option Jvm.ClassFile.FieldType)) ∈ mm_gw := mm_gwI 468 (by decide +kernel) (by decide +kernel)
theorem mw_456 : (Jvm.Cond.methodLink "MosaicFloorLaw" (15 : Nat) ({ cls := "MosaicFloor", name := "stripOf", desc := "(II)I" } : Jvm.MethodName)) ∈ mm_gw := mm_gwI 469 (by decide +kernel) (by decide +kernel)
theorem mw_457 : (Jvm.Cond.instanceMethod ({ cls := "MosaicFloor", name := "stripOf", desc := "(II)I" } : Jvm.MethodName)) ∈ mm_gw := mm_gwI 470 (by decide +kernel) (by decide +kernel)
theorem mw_459 : (Jvm.Cond.code ({ cls := "MosaicFloor", name := "stripOf", desc := "(II)I" } : Jvm.MethodName) prog_1_method_14_code (4 : Nat) (Option.some Jvm.ClassFile.FieldType.int)) ∈ mm_gw := mm_gwI 472 (by decide +kernel) (by decide +kernel)
theorem mw_460 : (Jvm.Cond.methodLink "MosaicFloor" (175 : Nat) ({ cls := "MosaicFloor$Strip", name := "tesseraeAhead", desc := "(II)I" } : Jvm.MethodName)) ∈ mm_gw := mm_gwI 473 (by decide +kernel) (by decide +kernel)
theorem mw_461 : (Jvm.Cond.instanceMethod ({ cls := "MosaicFloor$Strip", name := "tesseraeAhead", desc := "(II)I" } : Jvm.MethodName)) ∈ mm_gw := mm_gwI 474 (by decide +kernel) (by decide +kernel)
theorem mw_463 : (Jvm.Cond.code ({ cls := "MosaicFloor$Strip", name := "tesseraeAhead", desc := "(II)I" } : Jvm.MethodName) prog_6_method_7_code (5 : Nat) (Option.some Jvm.ClassFile.FieldType.int)) ∈ mm_gw := mm_gwI 476 (by decide +kernel) (by decide +kernel)
theorem mw_464 : (Jvm.Cond.methodLink "MosaicFloor" (178 : Nat) ({ cls := "MosaicFloor$Strip", name := "goodTesseraeAhead", desc := "(II)I" } : Jvm.MethodName)) ∈ mm_gw := mm_gwI 477 (by decide +kernel) (by decide +kernel)
theorem mw_465 : (Jvm.Cond.instanceMethod ({ cls := "MosaicFloor$Strip", name := "goodTesseraeAhead", desc := "(II)I" } : Jvm.MethodName)) ∈ mm_gw := mm_gwI 478 (by decide +kernel) (by decide +kernel)
theorem mw_467 : (Jvm.Cond.code ({ cls := "MosaicFloor$Strip", name := "goodTesseraeAhead", desc := "(II)I" } : Jvm.MethodName) prog_6_method_8_code (7 : Nat) (Option.some Jvm.ClassFile.FieldType.int)) ∈ mm_gw := mm_gwI 480 (by decide +kernel) (by decide +kernel)
theorem mw_468 : (Jvm.Cond.methodLink "MosaicFloor$Strip" (37 : Nat) ({ cls := "MosaicFloor$Strip", name := "tesseraeAhead", desc := "(II)I" } : Jvm.MethodName)) ∈ mm_gw := mm_gwI 481 (by decide +kernel) (by decide +kernel)
theorem mw_469 : (Jvm.Cond.methodLink "MosaicFloorLaw" (102 : Nat) ({ cls := "MosaicFloor", name := "layAll", desc := "()I" } : Jvm.MethodName)) ∈ mm_gw := mm_gwI 482 (by decide +kernel) (by decide +kernel)
theorem mw_470 : (Jvm.Cond.instanceMethod ({ cls := "MosaicFloor", name := "layAll", desc := "()I" } : Jvm.MethodName)) ∈ mm_gw := mm_gwI 483 (by decide +kernel) (by decide +kernel)
theorem mw_472 : (Jvm.Cond.code ({ cls := "MosaicFloor", name := "layAll", desc := "()I" } : Jvm.MethodName) prog_1_method_16_code (1 : Nat) (Option.some Jvm.ClassFile.FieldType.int)) ∈ mm_gw := mm_gwI 485 (by decide +kernel) (by decide +kernel)
theorem mw_473 : (Jvm.Cond.methodLink "MosaicFloor" (190 : Nat) ({ cls := "MosaicFloor$State", name := "layEmptyCells", desc := "()I" } : Jvm.MethodName)) ∈ mm_gw := mm_gwI 486 (by decide +kernel) (by decide +kernel)
theorem mw_474 : (Jvm.Cond.instanceMethod ({ cls := "MosaicFloor$State", name := "layEmptyCells", desc := "()I" } : Jvm.MethodName)) ∈ mm_gw := mm_gwI 487 (by decide +kernel) (by decide +kernel)
theorem mw_476 : (Jvm.Cond.code ({ cls := "MosaicFloor$State", name := "layEmptyCells", desc := "()I" } : Jvm.MethodName) prog_4_method_12_code (4 : Nat) (Option.some Jvm.ClassFile.FieldType.int)) ∈ mm_gw := mm_gwI 489 (by decide +kernel) (by decide +kernel)
theorem mw_477 : (Jvm.Cond.methodLink "MosaicFloor$State" (101 : Nat) ({ cls := "MosaicFloor$State", name := "laidCells", desc := "()I" } : Jvm.MethodName)) ∈ mm_gw := mm_gwI 490 (by decide +kernel) (by decide +kernel)
theorem mw_478 : (Jvm.Cond.methodLink "MosaicFloor$State" (105 : Nat) ({ cls := "MosaicFloor$Plan", name := "borderCells", desc := "()I" } : Jvm.MethodName)) ∈ mm_gw := mm_gwI 491 (by decide +kernel) (by decide +kernel)
theorem mw_479 : (Jvm.Cond.methodLink "MosaicFloor$State" (108 : Nat) ({ cls := "MosaicFloor$Plan", name := "columnOf", desc := "(I)I" } : Jvm.MethodName)) ∈ mm_gw := mm_gwI 492 (by decide +kernel) (by decide +kernel)
theorem mw_480 : (Jvm.Cond.instanceMethod ({ cls := "MosaicFloor$Plan", name := "columnOf", desc := "(I)I" } : Jvm.MethodName)) ∈ mm_gw := mm_gwI 493 (by decide +kernel) (by decide +kernel)
theorem mw_482 : (Jvm.Cond.code ({ cls := "MosaicFloor$Plan", name := "columnOf", desc := "(I)I" } : Jvm.MethodName) prog_3_method_10_code (2 : Nat) (Option.some Jvm.ClassFile.FieldType.int)) ∈ mm_gw := mm_gwI 495 (by decide +kernel) (by decide +kernel)
theorem mw_483 : (Jvm.Cond.methodLink "MosaicFloor$Plan" (63 : Nat) ({ cls := "java/lang/Math", name := "max", desc := "(II)I" } : Jvm.MethodName)) ∈ mm_gw := mm_gwI 496 (by decide +kernel) (by decide +kernel)
theorem mw_484 : (Jvm.Cond.methodLink "MosaicFloor$State" (111 : Nat) ({ cls := "MosaicFloor$Plan", name := "rowOf", desc := "(I)I" } : Jvm.MethodName)) ∈ mm_gw := mm_gwI 497 (by decide +kernel) (by decide +kernel)
theorem mw_485 : (Jvm.Cond.instanceMethod ({ cls := "MosaicFloor$Plan", name := "rowOf", desc := "(I)I" } : Jvm.MethodName)) ∈ mm_gw := mm_gwI 498 (by decide +kernel) (by decide +kernel)
theorem mw_487 : (Jvm.Cond.code ({ cls := "MosaicFloor$Plan", name := "rowOf", desc := "(I)I" } : Jvm.MethodName) prog_3_method_11_code (2 : Nat) (Option.some Jvm.ClassFile.FieldType.int)) ∈ mm_gw := mm_gwI 500 (by decide +kernel) (by decide +kernel)
theorem mw_488 : (Jvm.Cond.methodLink "MosaicFloor$State" (114 : Nat) ({ cls := "MosaicFloor$State", name := "layCellIfPossible", desc := "(II)V" } : Jvm.MethodName)) ∈ mm_gw := mm_gwI 501 (by decide +kernel) (by decide +kernel)
theorem mw_489 : (Jvm.Cond.instanceMethod ({ cls := "MosaicFloor$State", name := "layCellIfPossible", desc := "(II)V" } : Jvm.MethodName)) ∈ mm_gw := mm_gwI 502 (by decide +kernel) (by decide +kernel)
theorem mw_491 : (Jvm.Cond.code ({ cls := "MosaicFloor$State", name := "layCellIfPossible", desc := "(II)V" } : Jvm.MethodName) prog_4_method_11_code (4 : Nat) (Option.none : Option Jvm.ClassFile.FieldType)) ∈ mm_gw := mm_gwI 504 (by decide +kernel) (by decide +kernel)
theorem mw_492 : (Jvm.Cond.methodLink "MosaicFloor$State" (87 : Nat) ({ cls := "MosaicFloor$State", name := "shadeForOrNone", desc := "(II)I" } : Jvm.MethodName)) ∈ mm_gw := mm_gwI 505 (by decide +kernel) (by decide +kernel)
theorem mw_493 : (Jvm.Cond.instanceMethod ({ cls := "MosaicFloor$State", name := "shadeForOrNone", desc := "(II)I" } : Jvm.MethodName)) ∈ mm_gw := mm_gwI 506 (by decide +kernel) (by decide +kernel)
theorem mw_495 : (Jvm.Cond.code ({ cls := "MosaicFloor$State", name := "shadeForOrNone", desc := "(II)I" } : Jvm.MethodName) prog_4_method_10_code (3 : Nat) (Option.some Jvm.ClassFile.FieldType.int)) ∈ mm_gw := mm_gwI 508 (by decide +kernel) (by decide +kernel)
theorem mw_496 : (Jvm.Cond.methodLink "MosaicFloor$State" (84 : Nat) ({ cls := "MosaicFloor$Stock", name := "nearestShadeOrNone", desc := "(I)I" } : Jvm.MethodName)) ∈ mm_gw := mm_gwI 509 (by decide +kernel) (by decide +kernel)
theorem mw_497 : (Jvm.Cond.instanceMethod ({ cls := "MosaicFloor$Stock", name := "nearestShadeOrNone", desc := "(I)I" } : Jvm.MethodName)) ∈ mm_gw := mm_gwI 510 (by decide +kernel) (by decide +kernel)
theorem mw_499 : (Jvm.Cond.code ({ cls := "MosaicFloor$Stock", name := "nearestShadeOrNone", desc := "(I)I" } : Jvm.MethodName) prog_5_method_14_code (7 : Nat) (Option.some Jvm.ClassFile.FieldType.int)) ∈ mm_gw := mm_gwI 512 (by decide +kernel) (by decide +kernel)
theorem mw_500 : (Jvm.Cond.methodLink "MosaicFloor$Stock" (89 : Nat) ({ cls := "MosaicFloor$Stock", name := "nearer", desc := "(III)I" } : Jvm.MethodName)) ∈ mm_gw := mm_gwI 513 (by decide +kernel) (by decide +kernel)
theorem mw_501 : (Jvm.Cond.static ({ cls := "MosaicFloor$Stock", name := "nearer", desc := "(III)I" } : Jvm.MethodName)) ∈ mm_gw := mm_gwI 514 (by decide +kernel) (by decide +kernel)
theorem mw_502 : (Jvm.Cond.code ({ cls := "MosaicFloor$Stock", name := "nearer", desc := "(III)I" } : Jvm.MethodName) prog_5_method_15_code (5 : Nat) (Option.some Jvm.ClassFile.FieldType.int)) ∈ mm_gw := mm_gwI 515 (by decide +kernel) (by decide +kernel)
theorem mw_503 : (Jvm.Cond.methodLink "MosaicFloor$Stock" (97 : Nat) ({ cls := "java/lang/Math", name := "abs", desc := "(I)I" } : Jvm.MethodName)) ∈ mm_gw := mm_gwI 516 (by decide +kernel) (by decide +kernel)
theorem mw_504 : (Jvm.Cond.methodLink "MosaicFloor$Stock" (102 : Nat) ({ cls := "java/lang/Math", name := "min", desc := "(II)I" } : Jvm.MethodName)) ∈ mm_gw := mm_gwI 517 (by decide +kernel) (by decide +kernel)
theorem mw_505 : (Jvm.Cond.methodLink "MosaicFloor$Stock" (93 : Nat) ({ cls := "MosaicFloor$Strip", name := "givesGood", desc := "(II)Z" } : Jvm.MethodName)) ∈ mm_gw := mm_gwI 518 (by decide +kernel) (by decide +kernel)
theorem mw_506 : (Jvm.Cond.instanceMethod ({ cls := "MosaicFloor$Strip", name := "givesGood", desc := "(II)Z" } : Jvm.MethodName)) ∈ mm_gw := mm_gwI 519 (by decide +kernel) (by decide +kernel)
theorem mw_508 : (Jvm.Cond.code ({ cls := "MosaicFloor$Strip", name := "givesGood", desc := "(II)Z" } : Jvm.MethodName) prog_6_method_9_code (6 : Nat) (Option.some Jvm.ClassFile.FieldType.boolean)) ∈ mm_gw := mm_gwI 521 (by decide +kernel) (by decide +kernel)
theorem mw_509 : (Jvm.Cond.methodLink "MosaicFloor$State" (90 : Nat) ({ cls := "MosaicFloor$Stock", name := "bringToHand", desc := "(I)V" } : Jvm.MethodName)) ∈ mm_gw := mm_gwI 522 (by decide +kernel) (by decide +kernel)
theorem mw_510 : (Jvm.Cond.instanceMethod ({ cls := "MosaicFloor$Stock", name := "bringToHand", desc := "(I)V" } : Jvm.MethodName)) ∈ mm_gw := mm_gwI 523 (by decide +kernel) (by decide +kernel)
theorem mw_512 : (Jvm.Cond.code ({ cls := "MosaicFloor$Stock", name := "bringToHand", desc := "(I)V" } : Jvm.MethodName) prog_5_method_16_code (5 : Nat) (Option.none : Option Jvm.ClassFile.FieldType)) ∈ mm_gw := mm_gwI 525 (by decide +kernel) (by decide +kernel)
theorem mw_513 : (Jvm.Cond.methodLink "MosaicFloor$Stock" (69 : Nat) ({ cls := "MosaicFloor$Stock", name := "atHandOf", desc := "(I)I" } : Jvm.MethodName)) ∈ mm_gw := mm_gwI 526 (by decide +kernel) (by decide +kernel)
theorem mw_515 : (Jvm.Cond.instanceMethod ({ cls := "MosaicFloor$Stock", name := "atHandOf", desc := "(I)I" } : Jvm.MethodName)) ∈ mm_gw := mm_gwI 528 (by decide +kernel) (by decide +kernel)
theorem mw_516 : (Jvm.Cond.code ({ cls := "MosaicFloor$Stock", name := "atHandOf", desc := "(I)I" } : Jvm.MethodName) prog_5_method_8_code (2 : Nat) (Option.some Jvm.ClassFile.FieldType.int)) ∈ mm_gw := mm_gwI 529 (by decide +kernel) (by decide +kernel)
theorem mw_517 : (Jvm.Cond.methodLink "MosaicFloor$Stock" (105 : Nat) ({ cls := "MosaicFloor$Stock", name := "firstStripGivingOrNull", desc := "(I)LMosaicFloor$Strip;" } : Jvm.MethodName)) ∈ mm_gw := mm_gwI 530 (by decide +kernel) (by decide +kernel)
theorem mw_519 : (Jvm.Cond.instanceMethod ({ cls := "MosaicFloor$Stock", name := "firstStripGivingOrNull", desc := "(I)LMosaicFloor$Strip;" } : Jvm.MethodName)) ∈ mm_gw := mm_gwI 532 (by decide +kernel) (by decide +kernel)
theorem mw_520 : (Jvm.Cond.code ({ cls := "MosaicFloor$Stock", name := "firstStripGivingOrNull", desc := "(I)LMosaicFloor$Strip;" } : Jvm.MethodName) prog_5_method_17_code (6 : Nat) (Option.some (Jvm.ClassFile.FieldType.object "MosaicFloor$Strip"))) ∈ mm_gw := mm_gwI 533 (by decide +kernel) (by decide +kernel)
theorem mw_521 : (Jvm.Cond.methodLink "MosaicFloor$Stock" (109 : Nat) ({ cls := "MosaicFloor$Strip", name := "tesseraeAhead", desc := "(II)I" } : Jvm.MethodName)) ∈ mm_gw := mm_gwI 534 (by decide +kernel) (by decide +kernel)
theorem mw_522 : (Jvm.Cond.methodLink "MosaicFloor$Stock" (112 : Nat) ({ cls := "MosaicFloor$Stock", name := "cutFrom", desc := "(LMosaicFloor$Strip;)Z" } : Jvm.MethodName)) ∈ mm_gw := mm_gwI 535 (by decide +kernel) (by decide +kernel)
theorem mw_523 : (Jvm.Cond.methodLink "MosaicFloor$State" (94 : Nat) ({ cls := "MosaicFloor$Stock", name := "takeFromHand", desc := "(I)V" } : Jvm.MethodName)) ∈ mm_gw := mm_gwI 536 (by decide +kernel) (by decide +kernel)
theorem mw_524 : (Jvm.Cond.instanceMethod ({ cls := "MosaicFloor$Stock", name := "takeFromHand", desc := "(I)V" } : Jvm.MethodName)) ∈ mm_gw := mm_gwI 537 (by decide +kernel) (by decide +kernel)
theorem mw_526 : (Jvm.Cond.code ({ cls := "MosaicFloor$Stock", name := "takeFromHand", desc := "(I)V" } : Jvm.MethodName) prog_5_method_10_code (2 : Nat) (Option.none : Option Jvm.ClassFile.FieldType)) ∈ mm_gw := mm_gwI 539 (by decide +kernel) (by decide +kernel)
theorem mw_527 : (Jvm.Cond.methodLink "MosaicFloor$State" (97 : Nat) ({ cls := "MosaicFloor$State", name := "putAt", desc := "(III)V" } : Jvm.MethodName)) ∈ mm_gw := mm_gwI 540 (by decide +kernel) (by decide +kernel)
theorem mw_529 : (Jvm.Cond.instanceMethod ({ cls := "MosaicFloor$State", name := "putAt", desc := "(III)V" } : Jvm.MethodName)) ∈ mm_gw := mm_gwI 542 (by decide +kernel) (by decide +kernel)
theorem mw_530 : (Jvm.Cond.code ({ cls := "MosaicFloor$State", name := "putAt", desc := "(III)V" } : Jvm.MethodName) prog_4_method_4_code (4 : Nat) (Option.none : Option Jvm.ClassFile.FieldType)) ∈ mm_gw := mm_gwI 543 (by decide +kernel) (by decide +kernel)
theorem mw_531 : (Jvm.Cond.methodLink "MosaicFloorLaw" (79 : Nat) ({ cls := "MosaicFloor", name := "lift", desc := "(II)I" } : Jvm.MethodName)) ∈ mm_gw := mm_gwI 544 (by decide +kernel) (by decide +kernel)
theorem mw_532 : (Jvm.Cond.instanceMethod ({ cls := "MosaicFloor", name := "lift", desc := "(II)I" } : Jvm.MethodName)) ∈ mm_gw := mm_gwI 545 (by decide +kernel) (by decide +kernel)
theorem mw_534 : (Jvm.Cond.code ({ cls := "MosaicFloor", name := "lift", desc := "(II)I" } : Jvm.MethodName) prog_1_method_17_code (3 : Nat) (Option.some Jvm.ClassFile.FieldType.int)) ∈ mm_gw := mm_gwI 547 (by decide +kernel) (by decide +kernel)
theorem mw_535 : (Jvm.Cond.methodLink "MosaicFloor" (193 : Nat) ({ cls := "MosaicFloor$State", name := "liftToHand", desc := "(II)Z" } : Jvm.MethodName)) ∈ mm_gw := mm_gwI 548 (by decide +kernel) (by decide +kernel)
theorem mw_536 : (Jvm.Cond.instanceMethod ({ cls := "MosaicFloor$State", name := "liftToHand", desc := "(II)Z" } : Jvm.MethodName)) ∈ mm_gw := mm_gwI 549 (by decide +kernel) (by decide +kernel)
theorem mw_538 : (Jvm.Cond.code ({ cls := "MosaicFloor$State", name := "liftToHand", desc := "(II)Z" } : Jvm.MethodName) prog_4_method_13_code (4 : Nat) (Option.some Jvm.ClassFile.FieldType.boolean)) ∈ mm_gw := mm_gwI 551 (by decide +kernel) (by decide +kernel)
theorem mw_539 : (Jvm.Cond.methodLink "MosaicFloor$State" (118 : Nat) ({ cls := "MosaicFloor$Stock", name := "addBroken", desc := "()V" } : Jvm.MethodName)) ∈ mm_gw := mm_gwI 552 (by decide +kernel) (by decide +kernel)
theorem mw_540 : (Jvm.Cond.methodLink "MosaicFloor$State" (121 : Nat) ({ cls := "MosaicFloor$Stock", name := "putAtHand", desc := "(I)V" } : Jvm.MethodName)) ∈ mm_gw := mm_gwI 553 (by decide +kernel) (by decide +kernel)
theorem mw_541 : (Jvm.Cond.methodLink "MosaicFloorLaw" (32 : Nat) ({ cls := "MosaicFloor", name := "ready", desc := "(I)I" } : Jvm.MethodName)) ∈ mm_gw := mm_gwI 554 (by decide +kernel) (by decide +kernel)
theorem mw_542 : (Jvm.Cond.instanceMethod ({ cls := "MosaicFloor", name := "ready", desc := "(I)I" } : Jvm.MethodName)) ∈ mm_gw := mm_gwI 555 (by decide +kernel) (by decide +kernel)
theorem mw_544 : (Jvm.Cond.code ({ cls := "MosaicFloor", name := "ready", desc := "(I)I" } : Jvm.MethodName) prog_1_method_19_code (2 : Nat) (Option.some Jvm.ClassFile.FieldType.int)) ∈ mm_gw := mm_gwI 557 (by decide +kernel) (by decide +kernel)
theorem mw_545 : (Jvm.Cond.methodLink "MosaicFloor" (196 : Nat) ({ cls := "MosaicFloor$Stock", name := "readyOf", desc := "(I)I" } : Jvm.MethodName)) ∈ mm_gw := mm_gwI 558 (by decide +kernel) (by decide +kernel)
theorem mw_546 : (Jvm.Cond.instanceMethod ({ cls := "MosaicFloor$Stock", name := "readyOf", desc := "(I)I" } : Jvm.MethodName)) ∈ mm_gw := mm_gwI 559 (by decide +kernel) (by decide +kernel)
theorem mw_548 : (Jvm.Cond.code ({ cls := "MosaicFloor$Stock", name := "readyOf", desc := "(I)I" } : Jvm.MethodName) prog_5_method_13_code (7 : Nat) (Option.some Jvm.ClassFile.FieldType.int)) ∈ mm_gw := mm_gwI 561 (by decide +kernel) (by decide +kernel)
theorem mw_549 : (Jvm.Cond.methodLink "MosaicFloor$Stock" (85 : Nat) ({ cls := "MosaicFloor$Strip", name := "goodTesseraeAhead", desc := "(II)I" } : Jvm.MethodName)) ∈ mm_gw := mm_gwI 562 (by decide +kernel) (by decide +kernel)
theorem mw_550 : (Jvm.Cond.methodLink "MosaicFloorLaw" (82 : Nat) ({ cls := "MosaicFloor", name := "lacks", desc := "(I)I" } : Jvm.MethodName)) ∈ mm_gw := mm_gwI 563 (by decide +kernel) (by decide +kernel)
theorem mw_551 : (Jvm.Cond.instanceMethod ({ cls := "MosaicFloor", name := "lacks", desc := "(I)I" } : Jvm.MethodName)) ∈ mm_gw := mm_gwI 564 (by decide +kernel) (by decide +kernel)
theorem mw_553 : (Jvm.Cond.code ({ cls := "MosaicFloor", name := "lacks", desc := "(I)I" } : Jvm.MethodName) prog_1_method_20_code (2 : Nat) (Option.some Jvm.ClassFile.FieldType.int)) ∈ mm_gw := mm_gwI 566 (by decide +kernel) (by decide +kernel)
theorem mw_554 : (Jvm.Cond.methodLink "MosaicFloor" (199 : Nat) ({ cls := "MosaicFloor$State", name := "lackOf", desc := "(I)I" } : Jvm.MethodName)) ∈ mm_gw := mm_gwI 567 (by decide +kernel) (by decide +kernel)
theorem mw_555 : (Jvm.Cond.instanceMethod ({ cls := "MosaicFloor$State", name := "lackOf", desc := "(I)I" } : Jvm.MethodName)) ∈ mm_gw := mm_gwI 568 (by decide +kernel) (by decide +kernel)
theorem mw_557 : (Jvm.Cond.code ({ cls := "MosaicFloor$State", name := "lackOf", desc := "(I)I" } : Jvm.MethodName) prog_4_method_14_code (5 : Nat) (Option.some Jvm.ClassFile.FieldType.int)) ∈ mm_gw := mm_gwI 570 (by decide +kernel) (by decide +kernel)
theorem mw_558 : (Jvm.Cond.methodLink "MosaicFloor$State" (124 : Nat) ({ cls := "MosaicFloor$Stock", name := "readyOf", desc := "(I)I" } : Jvm.MethodName)) ∈ mm_gw := mm_gwI 571 (by decide +kernel) (by decide +kernel)
theorem mw_559 : (Jvm.Cond.methodLink "MosaicFloorLaw" (85 : Nat) ({ cls := "MosaicFloor", name := "stripFor", desc := "(I)I" } : Jvm.MethodName)) ∈ mm_gw := mm_gwI 572 (by decide +kernel) (by decide +kernel)
theorem mw_560 : (Jvm.Cond.instanceMethod ({ cls := "MosaicFloor", name := "stripFor", desc := "(I)I" } : Jvm.MethodName)) ∈ mm_gw := mm_gwI 573 (by decide +kernel) (by decide +kernel)
theorem mw_562 : (Jvm.Cond.code ({ cls := "MosaicFloor", name := "stripFor", desc := "(I)I" } : Jvm.MethodName) prog_1_method_21_code (4 : Nat) (Option.some Jvm.ClassFile.FieldType.int)) ∈ mm_gw := mm_gwI 575 (by decide +kernel) (by decide +kernel)
theorem mw_563 : (Jvm.Cond.methodLink "MosaicFloor" (202 : Nat) ({ cls := "java/lang/Math", name := "max", desc := "(II)I" } : Jvm.MethodName)) ∈ mm_gw := mm_gwI 576 (by decide +kernel) (by decide +kernel)
theorem mw_564 : (Jvm.Cond.methodLink "MosaicFloorLaw" (117 : Nat) ({ cls := "MosaicFloor", name := "ifLaid", desc := "()I" } : Jvm.MethodName)) ∈ mm_gw := mm_gwI 577 (by decide +kernel) (by decide +kernel)
theorem mw_565 : (Jvm.Cond.instanceMethod ({ cls := "MosaicFloor", name := "ifLaid", desc := "()I" } : Jvm.MethodName)) ∈ mm_gw := mm_gwI 578 (by decide +kernel) (by decide +kernel)
theorem mw_567 : (Jvm.Cond.code ({ cls := "MosaicFloor", name := "ifLaid", desc := "()I" } : Jvm.MethodName) prog_1_method_22_code (1 : Nat) (Option.some Jvm.ClassFile.FieldType.int)) ∈ mm_gw := mm_gwI 580 (by decide +kernel) (by decide +kernel)
theorem mw_568 : (Jvm.Cond.methodLink "MosaicFloor" (207 : Nat) ({ cls := "MosaicFloor$State", name := "copyFrom", desc := "(LMosaicFloor$State;)V" } : Jvm.MethodName)) ∈ mm_gw := mm_gwI 581 (by decide +kernel) (by decide +kernel)
theorem mw_569 : (Jvm.Cond.methodLink "MosaicFloorLaw" (52 : Nat) ({ cls := "MosaicFloor", name := "fault", desc := "()I" } : Jvm.MethodName)) ∈ mm_gw := mm_gwI 582 (by decide +kernel) (by decide +kernel)
theorem mw_570 : (Jvm.Cond.instanceMethod ({ cls := "MosaicFloor", name := "fault", desc := "()I" } : Jvm.MethodName)) ∈ mm_gw := mm_gwI 583 (by decide +kernel) (by decide +kernel)
theorem mw_572 : (Jvm.Cond.code ({ cls := "MosaicFloor", name := "fault", desc := "()I" } : Jvm.MethodName) prog_1_method_25_code (2 : Nat) (Option.some Jvm.ClassFile.FieldType.int)) ∈ mm_gw := mm_gwI 585 (by decide +kernel) (by decide +kernel)
theorem mw_573 : (Jvm.Cond.methodLink "MosaicFloor" (62 : Nat) ({ cls := "MosaicFloor$Text", name := "firstFaultOrNone", desc := "()I" } : Jvm.MethodName)) ∈ mm_gw := mm_gwI 586 (by decide +kernel) (by decide +kernel)
theorem mw_574 : (Jvm.Cond.instanceMethod ({ cls := "MosaicFloor$Text", name := "firstFaultOrNone", desc := "()I" } : Jvm.MethodName)) ∈ mm_gw := mm_gwI 587 (by decide +kernel) (by decide +kernel)
theorem mw_576 : (Jvm.Cond.code ({ cls := "MosaicFloor$Text", name := "firstFaultOrNone", desc := "()I" } : Jvm.MethodName) prog_7_method_3_code (5 : Nat) (Option.some Jvm.ClassFile.FieldType.int)) ∈ mm_gw := mm_gwI 589 (by decide +kernel) (by decide +kernel)
theorem mw_577 : (Jvm.Cond.methodLink "MosaicFloor$Text" (19 : Nat) ({ cls := "MosaicFloor$Text", name := "isDigit", desc := "(C)Z" } : Jvm.MethodName)) ∈ mm_gw := mm_gwI 590 (by decide +kernel) (by decide +kernel)
theorem mw_578 : (Jvm.Cond.static ({ cls := "MosaicFloor$Text", name := "isDigit", desc := "(C)Z" } : Jvm.MethodName)) ∈ mm_gw := mm_gwI 591 (by decide +kernel) (by decide +kernel)
theorem mw_579 : (Jvm.Cond.code ({ cls := "MosaicFloor$Text", name := "isDigit", desc := "(C)Z" } : Jvm.MethodName) prog_7_method_5_code (1 : Nat) (Option.some Jvm.ClassFile.FieldType.boolean)) ∈ mm_gw := mm_gwI 592 (by decide +kernel) (by decide +kernel)
theorem mw_580 : (Jvm.Cond.methodLink "MosaicFloorLaw" (105 : Nat) ({ cls := "MosaicFloorLaw", name := "lot", desc := "([II)I" } : Jvm.MethodName)) ∈ mm_gw := mm_gwI 593 (by decide +kernel) (by decide +kernel)
theorem mw_581 : (Jvm.Cond.static ({ cls := "MosaicFloorLaw", name := "lot", desc := "([II)I" } : Jvm.MethodName)) ∈ mm_gw := mm_gwI 594 (by decide +kernel) (by decide +kernel)
theorem mw_582 : (Jvm.Cond.code ({ cls := "MosaicFloorLaw", name := "lot", desc := "([II)I" } : Jvm.MethodName) method_2_code (2 : Nat) (Option.some Jvm.ClassFile.FieldType.int)) ∈ mm_gw := mm_gwI 595 (by decide +kernel) (by decide +kernel)
theorem mw_584 : (Jvm.Cond.methodLink "MosaicFloorLaw" (38 : Nat) ({ cls := "MosaicFloorLaw", name := "low", desc := "(II)I" } : Jvm.MethodName)) ∈ mm_gw := mm_gwI 597 (by decide +kernel) (by decide +kernel)
theorem mw_585 : (Jvm.Cond.static ({ cls := "MosaicFloorLaw", name := "low", desc := "(II)I" } : Jvm.MethodName)) ∈ mm_gw := mm_gwI 598 (by decide +kernel) (by decide +kernel)
theorem mw_586 : (Jvm.Cond.code ({ cls := "MosaicFloorLaw", name := "low", desc := "(II)I" } : Jvm.MethodName) method_3_code (2 : Nat) (Option.some Jvm.ClassFile.FieldType.int)) ∈ mm_gw := mm_gwI 599 (by decide +kernel) (by decide +kernel)
theorem mw_587 : (Jvm.Cond.constant "MosaicFloorLaw" (8 : Nat) (2147483647 : Int32)) ∈ mm_gw := mm_gwI 600 (by decide +kernel) (by decide +kernel)
theorem mw_588 : (Jvm.Cond.methodLink "MosaicFloorLaw" (96 : Nat) ({ cls := "MosaicFloorLaw", name := "sound", desc := "(LMosaicFloor;)Z" } : Jvm.MethodName)) ∈ mm_gw := mm_gwI 601 (by decide +kernel) (by decide +kernel)
theorem mw_589 : (Jvm.Cond.static ({ cls := "MosaicFloorLaw", name := "sound", desc := "(LMosaicFloor;)Z" } : Jvm.MethodName)) ∈ mm_gw := mm_gwI 602 (by decide +kernel) (by decide +kernel)
theorem mw_590 : (Jvm.Cond.code ({ cls := "MosaicFloorLaw", name := "sound", desc := "(LMosaicFloor;)Z" } : Jvm.MethodName) method_4_code (21 : Nat) (Option.some Jvm.ClassFile.FieldType.boolean)) ∈ mm_gw := mm_gwI 603 (by decide +kernel) (by decide +kernel)
theorem mw_591 : (Jvm.Cond.methodLink "MosaicFloorLaw" (25 : Nat) ({ cls := "MosaicFloor", name := "nearest", desc := "(II)I" } : Jvm.MethodName)) ∈ mm_gw := mm_gwI 604 (by decide +kernel) (by decide +kernel)
theorem mw_592 : (Jvm.Cond.instanceMethod ({ cls := "MosaicFloor", name := "nearest", desc := "(II)I" } : Jvm.MethodName)) ∈ mm_gw := mm_gwI 605 (by decide +kernel) (by decide +kernel)
theorem mw_594 : (Jvm.Cond.code ({ cls := "MosaicFloor", name := "nearest", desc := "(II)I" } : Jvm.MethodName) prog_1_method_18_code (4 : Nat) (Option.some Jvm.ClassFile.FieldType.int)) ∈ mm_gw := mm_gwI 607 (by decide +kernel) (by decide +kernel)
theorem mw_595 : (Jvm.Cond.methodLink "MosaicFloor" (184 : Nat) ({ cls := "MosaicFloor$State", name := "shadeForOrNone", desc := "(II)I" } : Jvm.MethodName)) ∈ mm_gw := mm_gwI 608 (by decide +kernel) (by decide +kernel)
theorem mw_596 : (Jvm.Cond.constant "MosaicFloorLaw" (28 : Nat) (1073741823 : Int32)) ∈ mm_gw := mm_gwI 609 (by decide +kernel) (by decide +kernel)
theorem mw_597 : (Jvm.Cond.methodLink "MosaicFloorLaw" (99 : Nat) ({ cls := "MosaicFloorLaw", name := "border", desc := "(LMosaicFloor;)Z" } : Jvm.MethodName)) ∈ mm_gw := mm_gwI 610 (by decide +kernel) (by decide +kernel)
theorem mw_598 : (Jvm.Cond.static ({ cls := "MosaicFloorLaw", name := "border", desc := "(LMosaicFloor;)Z" } : Jvm.MethodName)) ∈ mm_gw := mm_gwI 611 (by decide +kernel) (by decide +kernel)
theorem mw_599 : (Jvm.Cond.code ({ cls := "MosaicFloorLaw", name := "border", desc := "(LMosaicFloor;)Z" } : Jvm.MethodName) method_5_code (9 : Nat) (Option.some Jvm.ClassFile.FieldType.boolean)) ∈ mm_gw := mm_gwI 612 (by decide +kernel) (by decide +kernel)
theorem mw_600 : (Jvm.Cond.methodLink "MosaicFloorLaw" (29 : Nat) ({ cls := "MosaicFloor", name := "shade", desc := "(I)I" } : Jvm.MethodName)) ∈ mm_gw := mm_gwI 613 (by decide +kernel) (by decide +kernel)
theorem mw_601 : (Jvm.Cond.instanceMethod ({ cls := "MosaicFloor", name := "shade", desc := "(I)I" } : Jvm.MethodName)) ∈ mm_gw := mm_gwI 614 (by decide +kernel) (by decide +kernel)
theorem mw_603 : (Jvm.Cond.code ({ cls := "MosaicFloor", name := "shade", desc := "(I)I" } : Jvm.MethodName) prog_1_method_9_code (2 : Nat) (Option.some Jvm.ClassFile.FieldType.int)) ∈ mm_gw := mm_gwI 616 (by decide +kernel) (by decide +kernel)
theorem mw_604 : (Jvm.Cond.methodLink "MosaicFloor" (116 : Nat) ({ cls := "MosaicFloor$Plan", name := "patternShade", desc := "(I)I" } : Jvm.MethodName)) ∈ mm_gw := mm_gwI 617 (by decide +kernel) (by decide +kernel)
theorem mw_605 : (Jvm.Cond.methodLink "MosaicFloorLaw" (120 : Nat) ({ cls := "MosaicFloorLaw", name := "near", desc := "(LMosaicFloor;II)Z" } : Jvm.MethodName)) ∈ mm_gw := mm_gwI 618 (by decide +kernel) (by decide +kernel)
theorem mw_606 : (Jvm.Cond.static ({ cls := "MosaicFloorLaw", name := "near", desc := "(LMosaicFloor;II)Z" } : Jvm.MethodName)) ∈ mm_gw := mm_gwI 619 (by decide +kernel) (by decide +kernel)
theorem mw_607 : (Jvm.Cond.code ({ cls := "MosaicFloorLaw", name := "near", desc := "(LMosaicFloor;II)Z" } : Jvm.MethodName) method_6_code (10 : Nat) (Option.some Jvm.ClassFile.FieldType.boolean)) ∈ mm_gw := mm_gwI 620 (by decide +kernel) (by decide +kernel)
theorem mw_608 : (Jvm.Cond.methodLink "MosaicFloorLaw" (109 : Nat) ({ cls := "MosaicFloorLaw", name := "patterns", desc := "(LMosaicFloor;I)Z" } : Jvm.MethodName)) ∈ mm_gw := mm_gwI 621 (by decide +kernel) (by decide +kernel)
theorem mw_609 : (Jvm.Cond.static ({ cls := "MosaicFloorLaw", name := "patterns", desc := "(LMosaicFloor;I)Z" } : Jvm.MethodName)) ∈ mm_gw := mm_gwI 622 (by decide +kernel) (by decide +kernel)
theorem mw_610 : (Jvm.Cond.code ({ cls := "MosaicFloorLaw", name := "patterns", desc := "(LMosaicFloor;I)Z" } : Jvm.MethodName) method_8_code (7 : Nat) (Option.some Jvm.ClassFile.FieldType.boolean)) ∈ mm_gw := mm_gwI 623 (by decide +kernel) (by decide +kernel)
theorem mw_611 : (Jvm.Cond.methodLink "MosaicFloorLaw" (41 : Nat) ({ cls := "MosaicFloor", name := "clearText", desc := "()I" } : Jvm.MethodName)) ∈ mm_gw := mm_gwI 624 (by decide +kernel) (by decide +kernel)
theorem mw_612 : (Jvm.Cond.instanceMethod ({ cls := "MosaicFloor", name := "clearText", desc := "()I" } : Jvm.MethodName)) ∈ mm_gw := mm_gwI 625 (by decide +kernel) (by decide +kernel)
theorem mw_614 : (Jvm.Cond.code ({ cls := "MosaicFloor", name := "clearText", desc := "()I" } : Jvm.MethodName) prog_1_method_24_code (2 : Nat) (Option.some Jvm.ClassFile.FieldType.int)) ∈ mm_gw := mm_gwI 627 (by decide +kernel) (by decide +kernel)
theorem mw_615 : (Jvm.Cond.methodLink "MosaicFloorLaw" (45 : Nat) ({ cls := "MosaicFloorLaw", name := "put", desc := "(LMosaicFloor;I)I" } : Jvm.MethodName)) ∈ mm_gw := mm_gwI 628 (by decide +kernel) (by decide +kernel)
theorem mw_616 : (Jvm.Cond.static ({ cls := "MosaicFloorLaw", name := "put", desc := "(LMosaicFloor;I)I" } : Jvm.MethodName)) ∈ mm_gw := mm_gwI 629 (by decide +kernel) (by decide +kernel)
theorem mw_617 : (Jvm.Cond.code ({ cls := "MosaicFloorLaw", name := "put", desc := "(LMosaicFloor;I)I" } : Jvm.MethodName) method_7_code (2 : Nat) (Option.some Jvm.ClassFile.FieldType.int)) ∈ mm_gw := mm_gwI 630 (by decide +kernel) (by decide +kernel)
theorem mw_618 : (Jvm.Cond.methodLink "MosaicFloorLaw" (35 : Nat) ({ cls := "MosaicFloor", name := "type", desc := "(I)I" } : Jvm.MethodName)) ∈ mm_gw := mm_gwI 631 (by decide +kernel) (by decide +kernel)
theorem mw_619 : (Jvm.Cond.instanceMethod ({ cls := "MosaicFloor", name := "type", desc := "(I)I" } : Jvm.MethodName)) ∈ mm_gw := mm_gwI 632 (by decide +kernel) (by decide +kernel)
theorem mw_621 : (Jvm.Cond.code ({ cls := "MosaicFloor", name := "type", desc := "(I)I" } : Jvm.MethodName) prog_1_method_23_code (2 : Nat) (Option.some Jvm.ClassFile.FieldType.int)) ∈ mm_gw := mm_gwI 634 (by decide +kernel) (by decide +kernel)
theorem mw_622 : (Jvm.Cond.methodLink "MosaicFloor" (214 : Nat) ({ cls := "MosaicFloor$Text", name := "append", desc := "(I)V" } : Jvm.MethodName)) ∈ mm_gw := mm_gwI 635 (by decide +kernel) (by decide +kernel)
theorem mw_623 : (Jvm.Cond.instanceMethod ({ cls := "MosaicFloor$Text", name := "append", desc := "(I)V" } : Jvm.MethodName)) ∈ mm_gw := mm_gwI 636 (by decide +kernel) (by decide +kernel)
theorem mw_625 : (Jvm.Cond.code ({ cls := "MosaicFloor$Text", name := "append", desc := "(I)V" } : Jvm.MethodName) prog_7_method_2_code (2 : Nat) (Option.none : Option Jvm.ClassFile.FieldType)) ∈ mm_gw := mm_gwI 638 (by decide +kernel) (by decide +kernel)
theorem mw_626 : (Jvm.Cond.methodLink "MosaicFloorLaw" (49 : Nat) ({ cls := "MosaicFloor", name := "pattern", desc := "()I" } : Jvm.MethodName)) ∈ mm_gw := mm_gwI 639 (by decide +kernel) (by decide +kernel)
theorem mw_627 : (Jvm.Cond.instanceMethod ({ cls := "MosaicFloor", name := "pattern", desc := "()I" } : Jvm.MethodName)) ∈ mm_gw := mm_gwI 640 (by decide +kernel) (by decide +kernel)
theorem mw_629 : (Jvm.Cond.code ({ cls := "MosaicFloor", name := "pattern", desc := "()I" } : Jvm.MethodName) prog_1_method_4_code (1 : Nat) (Option.some Jvm.ClassFile.FieldType.int)) ∈ mm_gw := mm_gwI 642 (by decide +kernel) (by decide +kernel)
theorem mw_630 : (Jvm.Cond.methodLink "MosaicFloor" (65 : Nat) ({ cls := "MosaicFloor$Plan", name := "takePattern", desc := "(LMosaicFloor$Text;)I" } : Jvm.MethodName)) ∈ mm_gw := mm_gwI 643 (by decide +kernel) (by decide +kernel)
theorem mw_631 : (Jvm.Cond.instanceMethod ({ cls := "MosaicFloor$Plan", name := "takePattern", desc := "(LMosaicFloor$Text;)I" } : Jvm.MethodName)) ∈ mm_gw := mm_gwI 644 (by decide +kernel) (by decide +kernel)
theorem mw_633 : (Jvm.Cond.code ({ cls := "MosaicFloor$Plan", name := "takePattern", desc := "(LMosaicFloor$Text;)I" } : Jvm.MethodName) prog_3_method_4_code (2 : Nat) (Option.some Jvm.ClassFile.FieldType.int)) ∈ mm_gw := mm_gwI 646 (by decide +kernel) (by decide +kernel)
theorem mw_634 : (Jvm.Cond.methodLink "MosaicFloor$Plan" (47 : Nat) ({ cls := "MosaicFloor$Text", name := "readShades", desc := "([I)I" } : Jvm.MethodName)) ∈ mm_gw := mm_gwI 647 (by decide +kernel) (by decide +kernel)
theorem mw_635 : (Jvm.Cond.instanceMethod ({ cls := "MosaicFloor$Text", name := "readShades", desc := "([I)I" } : Jvm.MethodName)) ∈ mm_gw := mm_gwI 648 (by decide +kernel) (by decide +kernel)
theorem mw_637 : (Jvm.Cond.code ({ cls := "MosaicFloor$Text", name := "readShades", desc := "([I)I" } : Jvm.MethodName) prog_7_method_4_code (5 : Nat) (Option.some Jvm.ClassFile.FieldType.int)) ∈ mm_gw := mm_gwI 650 (by decide +kernel) (by decide +kernel)
theorem mw_638 : (Jvm.Cond.methodLink "MosaicFloor$Text" (23 : Nat) ({ cls := "java/lang/Math", name := "min", desc := "(II)I" } : Jvm.MethodName)) ∈ mm_gw := mm_gwI 651 (by decide +kernel) (by decide +kernel)
theorem mw_639 : (Jvm.Cond.methodLink "MosaicFloorLaw" (113 : Nat) ({ cls := "MosaicFloorLaw", name := "lays", desc := "(LMosaicFloor;II)Z" } : Jvm.MethodName)) ∈ mm_gw := mm_gwI 652 (by decide +kernel) (by decide +kernel)
theorem mw_640 : (Jvm.Cond.static ({ cls := "MosaicFloorLaw", name := "lays", desc := "(LMosaicFloor;II)Z" } : Jvm.MethodName)) ∈ mm_gw := mm_gwI 653 (by decide +kernel) (by decide +kernel)
theorem mw_641 : (Jvm.Cond.code ({ cls := "MosaicFloorLaw", name := "lays", desc := "(LMosaicFloor;II)Z" } : Jvm.MethodName) method_9_code (8 : Nat) (Option.some Jvm.ClassFile.FieldType.boolean)) ∈ mm_gw := mm_gwI 654 (by decide +kernel) (by decide +kernel)
theorem mw_642 : (Jvm.Cond.methodLink "MosaicFloorLaw" (55 : Nat) ({ cls := "MosaicFloor", name := "lay", desc := "(II)I" } : Jvm.MethodName)) ∈ mm_gw := mm_gwI 655 (by decide +kernel) (by decide +kernel)
theorem mw_643 : (Jvm.Cond.instanceMethod ({ cls := "MosaicFloor", name := "lay", desc := "(II)I" } : Jvm.MethodName)) ∈ mm_gw := mm_gwI 656 (by decide +kernel) (by decide +kernel)
theorem mw_645 : (Jvm.Cond.code ({ cls := "MosaicFloor", name := "lay", desc := "(II)I" } : Jvm.MethodName) prog_1_method_15_code (3 : Nat) (Option.some Jvm.ClassFile.FieldType.int)) ∈ mm_gw := mm_gwI 658 (by decide +kernel) (by decide +kernel)
theorem mw_646 : (Jvm.Cond.methodLink "MosaicFloor" (187 : Nat) ({ cls := "MosaicFloor$State", name := "layCellIfPossible", desc := "(II)V" } : Jvm.MethodName)) ∈ mm_gw := mm_gwI 659 (by decide +kernel) (by decide +kernel)
theorem mw_647 : (Jvm.Cond.methodLink "MosaicFloorLaw" (89 : Nat) ({ cls := "MosaicFloorLaw", name := "refuses", desc := "(LMosaicFloor;)Z" } : Jvm.MethodName)) ∈ mm_gw := mm_gwI 660 (by decide +kernel) (by decide +kernel)
theorem mw_648 : (Jvm.Cond.static ({ cls := "MosaicFloorLaw", name := "refuses", desc := "(LMosaicFloor;)Z" } : Jvm.MethodName)) ∈ mm_gw := mm_gwI 661 (by decide +kernel) (by decide +kernel)
theorem mw_649 : (Jvm.Cond.code ({ cls := "MosaicFloorLaw", name := "refuses", desc := "(LMosaicFloor;)Z" } : Jvm.MethodName) method_10_code (6 : Nat) (Option.some Jvm.ClassFile.FieldType.boolean)) ∈ mm_gw := mm_gwI 662 (by decide +kernel) (by decide +kernel)
theorem iw_0 : ∀ w ∈ u_ws RX0 TX0 2, w ∈ mm_gw := by decide +kernel
theorem df_0 : ∀ j, j < 2 → defaultValue (tyX0 j) = vp_V [.null, .int 0] j := fun j hj => by rcases (show j = 0 ∨ j = 1 by omega) with rfl | rfl <;> rfl
theorem iw_1 : ∀ w ∈ u_ws RX1 TX1 6, w ∈ mm_gw := by decide +kernel
theorem df_1 : ∀ j, j < 6 → defaultValue (tyX1 j) = vp_V [.null, .null, .int 0, .int 0, .int 0, .int 0] j := fun j hj => by rcases (show j = 0 ∨ j = 1 ∨ j = 2 ∨ j = 3 ∨ j = 4 ∨ j = 5 by omega) with rfl | rfl | rfl | rfl | rfl | rfl <;> rfl
theorem iw_2 : ∀ w ∈ u_ws RX2 TX2 4, w ∈ mm_gw := by decide +kernel
theorem df_2 : ∀ j, j < 4 → defaultValue (tyX2 j) = vp_V [.null, .null, .null, .int 0] j := fun j hj => by rcases (show j = 0 ∨ j = 1 ∨ j = 2 ∨ j = 3 by omega) with rfl | rfl | rfl | rfl <;> rfl
theorem iw_3 : ∀ w ∈ u_ws RX3 TX3 9, w ∈ mm_gw := by decide +kernel
theorem df_3 : ∀ j, j < 9 → defaultValue (tyX3 j) = vp_V [.null, .null, .int 0, .int 0, .int 0, .int 0, .int 0, .int 0, .int 0] j := fun j hj => by rcases (show j = 0 ∨ j = 1 ∨ j = 2 ∨ j = 3 ∨ j = 4 ∨ j = 5 ∨ j = 6 ∨ j = 7 ∨ j = 8 by omega) with rfl | rfl | rfl | rfl | rfl | rfl | rfl | rfl | rfl <;> rfl
theorem iw_4 : ∀ w ∈ u_ws RX4 TX4 6, w ∈ mm_gw := by decide +kernel
theorem df_4 : ∀ j, j < 6 → defaultValue (tyX4 j) = vp_V [.null, .int 0, .int 0, .int 0, .int 0, .int 0] j := fun j hj => by rcases (show j = 0 ∨ j = 1 ∨ j = 2 ∨ j = 3 ∨ j = 4 ∨ j = 5 by omega) with rfl | rfl | rfl | rfl | rfl | rfl <;> rfl
theorem iw_5 : ∀ w ∈ u_ws RX5 TX5 2, w ∈ mm_gw := by decide +kernel
theorem df_5 : ∀ j, j < 2 → defaultValue (tyX5 j) = vp_V [.null, .int 0] j := fun j hj => by rcases (show j = 0 ∨ j = 1 by omega) with rfl | rfl <;> rfl
theorem iw_6 : ∀ w ∈ u_ws RX6 TX6 4, w ∈ mm_gw := by decide +kernel
theorem df_6 : ∀ j, j < 4 → defaultValue (tyX6 j) = vp_V [.null, .null, .null, .null] j := fun j hj => by rcases (show j = 0 ∨ j = 1 ∨ j = 2 ∨ j = 3 by omega) with rfl | rfl | rfl | rfl <;> rfl
theorem mm_u1e {α0 β : Type} {f : α0 → β} {a0 : α0} {r : β} (h : mm_u1 f a0 = r) : f a0 = r := h
theorem mm_u2e {α0 α1 β : Type} {f : α0 → α1 → β} {a0 : α0} {a1 : α1} {r : β} (h : mm_u2 f (a0, a1) = r) : f a0 a1 = r := h
theorem mm_u3e {α0 α1 α2 β : Type} {f : α0 → α1 → α2 → β} {a0 : α0} {a1 : α1} {a2 : α2} {r : β} (h : mm_u3 f (a0, a1, a2) = r) : f a0 a1 a2 = r := h
theorem mm_u4e {α0 α1 α2 α3 β : Type} {f : α0 → α1 → α2 → α3 → β} {a0 : α0} {a1 : α1} {a2 : α2} {a3 : α3} {r : β} (h : mm_u4 f (a0, a1, a2, a3) = r) : f a0 a1 a2 a3 = r := h
theorem mm_u5e {α0 α1 α2 α3 α4 β : Type} {f : α0 → α1 → α2 → α3 → α4 → β} {a0 : α0} {a1 : α1} {a2 : α2} {a3 : α3} {a4 : α4} {r : β} (h : mm_u5 f (a0, a1, a2, a3, a4) = r) : f a0 a1 a2 a3 a4 = r := h
theorem mm_u6e {α0 α1 α2 α3 α4 α5 β : Type} {f : α0 → α1 → α2 → α3 → α4 → α5 → β} {a0 : α0} {a1 : α1} {a2 : α2} {a3 : α3} {a4 : α4} {a5 : α5} {r : β} (h : mm_u6 f (a0, a1, a2, a3, a4, a5) = r) : f a0 a1 a2 a3 a4 a5 = r := h
theorem mm_ht0 {g : mm_G} {s : State} (hK : mm_K g s) : ∀ cA, s.vm.findClass ("[" ++ (FieldType.int).toString) = some cA → cA = g.2 0 := fun cA h => by
  have h2 : s.vm.findClass ("[" ++ (FieldType.int).toString) = some (g.2 0) := (hK.1.2 0 _ rfl).2
  exact Option.some.inj (h.symm.trans h2)
theorem mm_ht1 {g : mm_G} {s : State} (hK : mm_K g s) : ∀ cA, s.vm.findClass ("[" ++ (FieldType.char).toString) = some cA → cA = g.2 1 := fun cA h => by
  have h2 : s.vm.findClass ("[" ++ (FieldType.char).toString) = some (g.2 1) := (hK.1.2 1 _ rfl).2
  exact Option.some.inj (h.symm.trans h2)
theorem mm_ht2 {g : mm_G} {s : State} (hK : mm_K g s) : ∀ cA, s.vm.findClass ("[" ++ (FieldType.object RX4).toString) = some cA → cA = g.2 2 := fun cA h => by
  obtain ⟨kA, comp, h1, h2, h3, h4⟩ := (hK.1.2 2 _ rfl).2
  exact Option.some.inj (h.symm.trans h4)
theorem mm_ht3 {g : mm_G} {s : State} (hK : mm_K g s) : ∀ cA, s.vm.findClass ("[" ++ (FieldType.object RX2).toString) = some cA → cA = g.2 3 := fun cA h => by
  obtain ⟨kA, comp, h1, h2, h3, h4⟩ := (hK.1.2 3 _ rfl).2
  exact Option.some.inj (h.symm.trans h4)
theorem ps_X1_29 : mm_PS RX1 29 1 4 false .int := ⟨RX1, TX1, 6, tyX1, rfl, by decide, iw_1, mw_44, tyX1_ok, nmX1, rfl, by decide +kernel, fun h => by cases h⟩
theorem ps_X1_32 : mm_PS RX1 32 1 5 false .int := ⟨RX1, TX1, 6, tyX1, rfl, by decide, iw_1, mw_47, tyX1_ok, nmX1, rfl, by decide +kernel, fun h => by cases h⟩
theorem fs_X1_9 : mm_FS RX1 9 1 0 := ⟨RX1, TX1, 6, rfl, by decide, iw_1, mw_38⟩
theorem ss_X1_35 : mm_SS RX1 35 yJ7_fill_53178 cJ7_fill_53178 4 (Option.none : Option Jvm.ClassFile.FieldType) 2 := ⟨mw_35, mw_36, mw_4, mw_37, by decide +kernel⟩
theorem oc_i : Cond.code objectInit ⟨#[0xb1]⟩ 1 none ∈ mm_gw := mm_gwI 31 (by decide +kernel) (by decide +kernel)
theorem ps_X1_9 : mm_PS RX1 9 1 0 true (.array .int) := ⟨RX1, TX1, 6, tyX1, rfl, by decide, iw_1, mw_38, tyX1_ok, nmX1, rfl, by decide +kernel, fun _ => rfl⟩
theorem ps_X1_15 : mm_PS RX1 15 1 1 true (.array .int) := ⟨RX1, TX1, 6, tyX1, rfl, by decide, iw_1, mw_39, tyX1_ok, nmX1, rfl, by decide +kernel, fun _ => rfl⟩
theorem ps_X1_18 : mm_PS RX1 18 1 2 false .int := ⟨RX1, TX1, 6, tyX1, rfl, by decide, iw_1, mw_40, tyX1_ok, nmX1, rfl, by decide +kernel, fun h => by cases h⟩
theorem ps_X1_22 : mm_PS RX1 22 1 3 false .int := ⟨RX1, TX1, 6, tyX1, rfl, by decide, iw_1, mw_42, tyX1_ok, nmX1, rfl, by decide +kernel, fun h => by cases h⟩
theorem vs_X1_25 : mm_VS RX1 25 1 yX1_begin cX1_begin 3 (Option.none : Option Jvm.ClassFile.FieldType) 2 := ⟨⟨TX1, 6, rfl⟩, mw_31, mw_32, List.mem_of_getElem? (i := 46) (by decide +kernel), by decide +kernel, mw_3, mw_34, by decide +kernel⟩
theorem ps_X4_9 : mm_PS RX4 9 4 0 true (.array .int) := ⟨RX4, TX4, 6, tyX4, rfl, by decide, iw_4, mw_77, tyX4_ok, nmX4, rfl, by decide +kernel, fun _ => rfl⟩
theorem ps_X3_11 : mm_PS RX3 11 3 0 true (.array (.object "MosaicFloor$Strip")) := ⟨RX3, TX3, 9, tyX3, rfl, by decide, iw_3, mw_103, tyX3_ok, nmX3, rfl, by decide +kernel, fun _ => rfl⟩
theorem ps_X3_17 : mm_PS RX3 17 3 1 true (.array .int) := ⟨RX3, TX3, 9, tyX3, rfl, by decide, iw_3, mw_104, tyX3_ok, nmX3, rfl, by decide +kernel, fun _ => rfl⟩
theorem ps_X3_21 : mm_PS RX3 21 3 3 false .int := ⟨RX3, TX3, 9, tyX3, rfl, by decide, iw_3, mw_107, tyX3_ok, nmX3, rfl, by decide +kernel, fun h => by cases h⟩
theorem ps_X3_25 : mm_PS RX3 25 3 4 false .int := ⟨RX3, TX3, 9, tyX3, rfl, by decide, iw_3, mw_109, tyX3_ok, nmX3, rfl, by decide +kernel, fun h => by cases h⟩
theorem fs_X3_11 : mm_FS RX3 11 3 0 := ⟨RX3, TX3, 9, rfl, by decide, iw_3, mw_103⟩
theorem in_X3_28 : mm_IN RX3 28 yX4_init RX6 cX4_init 1 0 := ⟨mw_74, rfl, mw_6, mw_75, by decide +kernel⟩
theorem is_X2_11 : mm_IS RX2 11 yX1_init cX1_init 1 0 := ⟨mw_27, mw_28, rfl, mw_3, mw_29, by decide +kernel⟩
theorem ps_X2_12 : mm_PS RX2 12 2 0 true (.object "MosaicFloor$Plan") := ⟨RX2, TX2, 4, tyX2, rfl, by decide, iw_2, mw_139, tyX2_ok, nmX2, rfl, by decide +kernel, fun _ => rfl⟩
theorem is_X2_20 : mm_IS RX2 20 yX3_init cX3_init 2 0 := ⟨mw_66, mw_67, rfl, mw_5, mw_68, by decide +kernel⟩
theorem ps_X2_21 : mm_PS RX2 21 2 1 true (.object "MosaicFloor$Stock") := ⟨RX2, TX2, 4, tyX2, rfl, by decide, iw_2, mw_141, tyX2_ok, nmX2, rfl, by decide +kernel, fun _ => rfl⟩
theorem ps_X2_25 : mm_PS RX2 25 2 2 true (.array .int) := ⟨RX2, TX2, 4, tyX2, rfl, by decide, iw_2, mw_143, tyX2_ok, nmX2, rfl, by decide +kernel, fun _ => rfl⟩
theorem fs_X2_25 : mm_FS RX2 25 2 2 := ⟨RX2, TX2, 4, rfl, by decide, iw_2, mw_143⟩
theorem ss_X2_29 : mm_SS RX2 29 yJ7_fill_53178 cJ7_fill_53178 4 (Option.none : Option Jvm.ClassFile.FieldType) 2 := ⟨mw_138, mw_36, mw_4, mw_37, by decide +kernel⟩
theorem ps_X0_11 : mm_PS RX0 11 0 0 true (.array (.object "MosaicFloor$State")) := ⟨RX0, TX0, 2, tyX0, rfl, by decide, iw_0, mw_164, tyX0_ok, nmX0, rfl, by decide +kernel, fun _ => rfl⟩
theorem fs_X0_11 : mm_FS RX0 11 0 0 := ⟨RX0, TX0, 2, rfl, by decide, iw_0, mw_164⟩
theorem is_X0_17 : mm_IS RX0 17 yX2_init cX2_init 1 0 := ⟨mw_163, mw_22, rfl, mw_2, mw_23, by decide +kernel⟩
theorem ps_X5_9 : mm_PS RX5 9 5 0 true (.array .char) := ⟨RX5, TX5, 2, tyX5, rfl, by decide, iw_5, mw_177, tyX5_ok, nmX5, rfl, by decide +kernel, fun _ => rfl⟩
theorem is_X6_9 : mm_IS RX6 9 yX2_init cX2_init 1 0 := ⟨mw_21, mw_22, rfl, mw_2, mw_23, by decide +kernel⟩
theorem ps_X6_10 : mm_PS RX6 10 6 0 true (.object "MosaicFloor$State") := ⟨RX6, TX6, 4, tyX6, rfl, by decide, iw_6, mw_186, tyX6_ok, nmX6, rfl, by decide +kernel, fun _ => rfl⟩
theorem ps_X6_16 : mm_PS RX6 16 6 1 true (.object "MosaicFloor$State") := ⟨RX6, TX6, 4, tyX6, rfl, by decide, iw_6, mw_187, tyX6_ok, nmX6, rfl, by decide +kernel, fun _ => rfl⟩
theorem is_X6_21 : mm_IS RX6 21 yX0_init cX0_init 2 0 := ⟨mw_157, mw_158, rfl, mw_7, mw_159, by decide +kernel⟩
theorem ps_X6_22 : mm_PS RX6 22 6 2 true (.object "MosaicFloor$History") := ⟨RX6, TX6, 4, tyX6, rfl, by decide, iw_6, mw_188, tyX6_ok, nmX6, rfl, by decide +kernel, fun _ => rfl⟩
theorem in_X6_28 : mm_IN RX6 28 yX5_init RX6 cX5_init 1 0 := ⟨mw_174, rfl, mw_8, mw_175, by decide +kernel⟩
theorem ps_X6_29 : mm_PS RX6 29 6 3 true (.object "MosaicFloor$Text") := ⟨RX6, TX6, 4, tyX6, rfl, by decide, iw_6, mw_189, tyX6_ok, nmX6, rfl, by decide +kernel, fun _ => rfl⟩
theorem fs_X0_18 : mm_FS RX0 18 0 1 := ⟨RX0, TX0, 2, rfl, by decide, iw_0, mw_165⟩
theorem ps_X0_18 : mm_PS RX0 18 0 1 false .int := ⟨RX0, TX0, 2, tyX0, rfl, by decide, iw_0, mw_165, tyX0_ok, nmX0, rfl, by decide +kernel, fun h => by cases h⟩
theorem fs_X1_15 : mm_FS RX1 15 1 1 := ⟨RX1, TX1, 6, rfl, by decide, iw_1, mw_39⟩
theorem fs_X1_18 : mm_FS RX1 18 1 2 := ⟨RX1, TX1, 6, rfl, by decide, iw_1, mw_40⟩
theorem fs_X1_22 : mm_FS RX1 22 1 3 := ⟨RX1, TX1, 6, rfl, by decide, iw_1, mw_42⟩
theorem fs_X1_29 : mm_FS RX1 29 1 4 := ⟨RX1, TX1, 6, rfl, by decide, iw_1, mw_44⟩
theorem fs_X1_32 : mm_FS RX1 32 1 5 := ⟨RX1, TX1, 6, rfl, by decide, iw_1, mw_47⟩
theorem fs_X4_9 : mm_FS RX4 9 4 0 := ⟨RX4, TX4, 6, rfl, by decide, iw_4, mw_77⟩
theorem fs_X4_25 : mm_FS RX4 25 4 1 := ⟨RX4, TX4, 6, rfl, by decide, iw_4, mw_78⟩
theorem ps_X4_25 : mm_PS RX4 25 4 1 false .int := ⟨RX4, TX4, 6, tyX4, rfl, by decide, iw_4, mw_78, tyX4_ok, nmX4, rfl, by decide +kernel, fun h => by cases h⟩
theorem fs_X4_15 : mm_FS RX4 15 4 2 := ⟨RX4, TX4, 6, rfl, by decide, iw_4, mw_80⟩
theorem ps_X4_15 : mm_PS RX4 15 4 2 false .int := ⟨RX4, TX4, 6, tyX4, rfl, by decide, iw_4, mw_80, tyX4_ok, nmX4, rfl, by decide +kernel, fun h => by cases h⟩
theorem fs_X4_19 : mm_FS RX4 19 4 3 := ⟨RX4, TX4, 6, rfl, by decide, iw_4, mw_83⟩
theorem ps_X4_19 : mm_PS RX4 19 4 3 false .int := ⟨RX4, TX4, 6, tyX4, rfl, by decide, iw_4, mw_83, tyX4_ok, nmX4, rfl, by decide +kernel, fun h => by cases h⟩
theorem fs_X4_22 : mm_FS RX4 22 4 4 := ⟨RX4, TX4, 6, rfl, by decide, iw_4, mw_86⟩
theorem ps_X4_22 : mm_PS RX4 22 4 4 false .int := ⟨RX4, TX4, 6, tyX4, rfl, by decide, iw_4, mw_86, tyX4_ok, nmX4, rfl, by decide +kernel, fun h => by cases h⟩
theorem fs_X4_28 : mm_FS RX4 28 4 5 := ⟨RX4, TX4, 6, rfl, by decide, iw_4, mw_88⟩
theorem ps_X4_28 : mm_PS RX4 28 4 5 false .int := ⟨RX4, TX4, 6, tyX4, rfl, by decide, iw_4, mw_88, tyX4_ok, nmX4, rfl, by decide +kernel, fun h => by cases h⟩
theorem vs_X3_29 : mm_VS RX3 29 4 yX4_copyFrom cX4_copyFrom 2 (Option.none : Option Jvm.ClassFile.FieldType) 1 := ⟨⟨TX4, 6, rfl⟩, mw_233, mw_234, List.mem_of_getElem? (i := 248) (by decide +kernel), by decide +kernel, mw_6, mw_236, by decide +kernel⟩
theorem fs_X3_17 : mm_FS RX3 17 3 1 := ⟨RX3, TX3, 9, rfl, by decide, iw_3, mw_104⟩
theorem fs_X3_39 : mm_FS RX3 39 3 2 := ⟨RX3, TX3, 9, rfl, by decide, iw_3, mw_105⟩
theorem ps_X3_39 : mm_PS RX3 39 3 2 false .int := ⟨RX3, TX3, 9, tyX3, rfl, by decide, iw_3, mw_105, tyX3_ok, nmX3, rfl, by decide +kernel, fun h => by cases h⟩
theorem fs_X3_21 : mm_FS RX3 21 3 3 := ⟨RX3, TX3, 9, rfl, by decide, iw_3, mw_107⟩
theorem fs_X3_25 : mm_FS RX3 25 3 4 := ⟨RX3, TX3, 9, rfl, by decide, iw_3, mw_109⟩
theorem fs_X3_42 : mm_FS RX3 42 3 5 := ⟨RX3, TX3, 9, rfl, by decide, iw_3, mw_111⟩
theorem ps_X3_42 : mm_PS RX3 42 3 5 false .int := ⟨RX3, TX3, 9, tyX3, rfl, by decide, iw_3, mw_111, tyX3_ok, nmX3, rfl, by decide +kernel, fun h => by cases h⟩
theorem fs_X3_45 : mm_FS RX3 45 3 6 := ⟨RX3, TX3, 9, rfl, by decide, iw_3, mw_113⟩
theorem ps_X3_45 : mm_PS RX3 45 3 6 false .int := ⟨RX3, TX3, 9, tyX3, rfl, by decide, iw_3, mw_113, tyX3_ok, nmX3, rfl, by decide +kernel, fun h => by cases h⟩
theorem fs_X3_48 : mm_FS RX3 48 3 7 := ⟨RX3, TX3, 9, rfl, by decide, iw_3, mw_115⟩
theorem ps_X3_48 : mm_PS RX3 48 3 7 false .int := ⟨RX3, TX3, 9, tyX3, rfl, by decide, iw_3, mw_115, tyX3_ok, nmX3, rfl, by decide +kernel, fun h => by cases h⟩
theorem fs_X3_51 : mm_FS RX3 51 3 8 := ⟨RX3, TX3, 9, rfl, by decide, iw_3, mw_117⟩
theorem ps_X3_51 : mm_PS RX3 51 3 8 false .int := ⟨RX3, TX3, 9, tyX3, rfl, by decide, iw_3, mw_117, tyX3_ok, nmX3, rfl, by decide +kernel, fun h => by cases h⟩
theorem fs_X2_12 : mm_FS RX2 12 2 0 := ⟨RX2, TX2, 4, rfl, by decide, iw_2, mw_139⟩
theorem vs_X2_35 : mm_VS RX2 35 1 yX1_copyFrom cX1_copyFrom 2 (Option.none : Option Jvm.ClassFile.FieldType) 1 := ⟨⟨TX1, 6, rfl⟩, mw_222, mw_223, List.mem_of_getElem? (i := 237) (by decide +kernel), by decide +kernel, mw_3, mw_225, by decide +kernel⟩
theorem fs_X2_21 : mm_FS RX2 21 2 1 := ⟨RX2, TX2, 4, rfl, by decide, iw_2, mw_141⟩
theorem vs_X2_39 : mm_VS RX2 39 3 yX3_copyFrom cX3_copyFrom 3 (Option.none : Option Jvm.ClassFile.FieldType) 1 := ⟨⟨TX3, 9, rfl⟩, mw_229, mw_230, List.mem_of_getElem? (i := 244) (by decide +kernel), by decide +kernel, mw_5, mw_232, by decide +kernel⟩
theorem fs_X2_48 : mm_FS RX2 48 2 3 := ⟨RX2, TX2, 4, rfl, by decide, iw_2, mw_144⟩
theorem ps_X2_48 : mm_PS RX2 48 2 3 false .int := ⟨RX2, TX2, 4, tyX2, rfl, by decide, iw_2, mw_144, tyX2_ok, nmX2, rfl, by decide +kernel, fun h => by cases h⟩
theorem vs_X0_25 : mm_VS RX0 25 2 yX2_copyFrom cX2_copyFrom 2 (Option.none : Option Jvm.ClassFile.FieldType) 1 := ⟨⟨TX2, 4, rfl⟩, mw_218, mw_219, List.mem_of_getElem? (i := 233) (by decide +kernel), by decide +kernel, mw_2, mw_221, by decide +kernel⟩
theorem vs_X0_22 : mm_VS RX0 22 0 yX0_dropOldest cX0_dropOldest 3 (Option.none : Option Jvm.ClassFile.FieldType) 0 := ⟨⟨TX0, 2, rfl⟩, mw_214, mw_216, List.mem_of_getElem? (i := 0) (by decide +kernel), by decide +kernel, mw_7, mw_217, by decide +kernel⟩
theorem ss_X6_33 : mm_SS RX6 33 yX6_isWithin cX6_isWithin 3 (Option.some Jvm.ClassFile.FieldType.boolean) 3 := ⟨mw_203, mw_204, mw_1, mw_205, by decide +kernel⟩
theorem fs_X6_10 : mm_FS RX6 10 6 0 := ⟨RX6, TX6, 4, rfl, by decide, iw_6, mw_186⟩
theorem vs_X6_37 : mm_VS RX6 37 2 yX2_laidCells cX2_laidCells 6 (Option.some Jvm.ClassFile.FieldType.int) 0 := ⟨⟨TX2, 4, rfl⟩, mw_206, mw_207, List.mem_of_getElem? (i := 221) (by decide +kernel), by decide +kernel, mw_2, mw_209, by decide +kernel⟩
theorem fs_X6_22 : mm_FS RX6 22 6 2 := ⟨RX6, TX6, 4, rfl, by decide, iw_6, mw_188⟩
theorem vs_X6_41 : mm_VS RX6 41 0 yX0_keep cX0_keep 2 (Option.none : Option Jvm.ClassFile.FieldType) 1 := ⟨⟨TX0, 2, rfl⟩, mw_210, mw_211, List.mem_of_getElem? (i := 225) (by decide +kernel), by decide +kernel, mw_7, mw_213, by decide +kernel⟩
theorem fs_X6_45 : mm_FS RX6 45 2 0 := ⟨RX2, TX2, 4, rfl, by decide, iw_2, mw_140⟩
theorem vs_X6_49 : mm_VS RX6 49 1 yX1_begin cX1_begin 3 (Option.none : Option Jvm.ClassFile.FieldType) 2 := ⟨⟨TX1, 6, rfl⟩, mw_240, mw_32, List.mem_of_getElem? (i := 46) (by decide +kernel), by decide +kernel, mw_3, mw_34, by decide +kernel⟩
theorem vs_X3_73 : mm_VS RX3 73 3 yX3_tesseraeAtHand cX3_tesseraeAtHand 6 (Option.some Jvm.ClassFile.FieldType.int) 0 := ⟨⟨TX3, 9, rfl⟩, mw_253, mw_254, List.mem_of_getElem? (i := 268) (by decide +kernel), by decide +kernel, mw_5, mw_256, by decide +kernel⟩
theorem ss_X3_76 : mm_SS RX3 76 yJ7_fill_53178 cJ7_fill_53178 4 (Option.none : Option Jvm.ClassFile.FieldType) 2 := ⟨mw_257, mw_36, mw_4, mw_37, by decide +kernel⟩
theorem fs_X6_125 : mm_FS RX6 125 2 1 := ⟨RX2, TX2, 4, rfl, by decide, iw_2, mw_142⟩
theorem fs_X6_162 : mm_FS RX6 162 3 3 := ⟨RX3, TX3, 9, rfl, by decide, iw_3, mw_108⟩
theorem vs_X6_217 : mm_VS RX6 217 3 yX3_throwAway cX3_throwAway 1 (Option.none : Option Jvm.ClassFile.FieldType) 0 := ⟨⟨TX3, 9, rfl⟩, mw_249, mw_250, List.mem_of_getElem? (i := 264) (by decide +kernel), by decide +kernel, mw_5, mw_252, by decide +kernel⟩
theorem ps_X6_162 : mm_PS RX6 162 3 3 false .int := ⟨RX3, TX3, 9, tyX3, rfl, by decide, iw_3, mw_108, tyX3_ok, nmX3, rfl, by decide +kernel, fun h => by cases h⟩
theorem fs_X6_172 : mm_FS RX6 172 3 4 := ⟨RX3, TX3, 9, rfl, by decide, iw_3, mw_110⟩
theorem ps_X6_172 : mm_PS RX6 172 3 4 false .int := ⟨RX3, TX3, 9, tyX3, rfl, by decide, iw_3, mw_110, tyX3_ok, nmX3, rfl, by decide +kernel, fun h => by cases h⟩
theorem vs_X6_55 : mm_VS RX6 55 6 yX6_changeSize cX6_changeSize 3 (Option.some Jvm.ClassFile.FieldType.int) 1 := ⟨⟨TX6, 4, rfl⟩, mw_245, mw_247, List.mem_of_getElem? (i := 1) (by decide +kernel), by decide +kernel, mw_1, mw_248, by decide +kernel⟩
theorem vs_X6_59 : mm_VS RX6 59 6 yX6_changeLoss cX6_changeLoss 3 (Option.some Jvm.ClassFile.FieldType.int) 1 := ⟨⟨TX6, 4, rfl⟩, mw_258, mw_260, List.mem_of_getElem? (i := 2) (by decide +kernel), by decide +kernel, mw_1, mw_261, by decide +kernel⟩
theorem fs_X5_15 : mm_FS RX5 15 5 1 := ⟨RX5, TX5, 2, rfl, by decide, iw_5, mw_178⟩
theorem fs_X5_9 : mm_FS RX5 9 5 0 := ⟨RX5, TX5, 2, rfl, by decide, iw_5, mw_177⟩
theorem ss_X5_19 : mm_SS RX5 19 yX5_isDigit cX5_isDigit 1 (Option.some Jvm.ClassFile.FieldType.boolean) 1 := ⟨mw_577, mw_578, mw_8, mw_579, by decide +kernel⟩
theorem mc_min : Cond.code Lib.Math.min.name Lib.Math.min.code 2 (some .int) ∈ mm_gw := mm_gwI 323 (by decide +kernel) (by decide +kernel)
theorem vs_X1_47 : mm_VS RX1 47 5 yX5_readShades cX5_readShades 5 (Option.some Jvm.ClassFile.FieldType.int) 1 := ⟨⟨TX5, 2, rfl⟩, mw_634, mw_635, List.mem_of_getElem? (i := 649) (by decide +kernel), by decide +kernel, mw_8, mw_637, by decide +kernel⟩
theorem fs_X6_29 : mm_FS RX6 29 6 3 := ⟨RX6, TX6, 4, rfl, by decide, iw_6, mw_189⟩
theorem vs_X6_62 : mm_VS RX6 62 5 yX5_firstFaultOrNone cX5_firstFaultOrNone 5 (Option.some Jvm.ClassFile.FieldType.int) 0 := ⟨⟨TX5, 2, rfl⟩, mw_573, mw_574, List.mem_of_getElem? (i := 588) (by decide +kernel), by decide +kernel, mw_8, mw_576, by decide +kernel⟩
theorem vs_X6_65 : mm_VS RX6 65 1 yX1_takePattern cX1_takePattern 2 (Option.some Jvm.ClassFile.FieldType.int) 1 := ⟨⟨TX1, 6, rfl⟩, mw_630, mw_631, List.mem_of_getElem? (i := 645) (by decide +kernel), by decide +kernel, mw_3, mw_633, by decide +kernel⟩
theorem fs_X6_69 : mm_FS RX6 69 1 3 := ⟨RX1, TX1, 6, rfl, by decide, iw_1, mw_43⟩
theorem ps_X6_69 : mm_PS RX6 69 1 3 false .int := ⟨RX1, TX1, 6, tyX1, rfl, by decide, iw_1, mw_43, tyX1_ok, nmX1, rfl, by decide +kernel, fun h => by cases h⟩
theorem vs_X2_52 : mm_VS RX2 52 1 yX1_hasCell cX1_hasCell 3 (Option.some Jvm.ClassFile.FieldType.boolean) 2 := ⟨⟨TX1, 6, rfl⟩, mw_289, mw_271, List.mem_of_getElem? (i := 285) (by decide +kernel), by decide +kernel, mw_3, mw_273, by decide +kernel⟩
theorem vs_X2_56 : mm_VS RX2 56 2 yX2_laidOrNone cX2_laidOrNone 3 (Option.some Jvm.ClassFile.FieldType.int) 2 := ⟨⟨TX2, 4, rfl⟩, mw_285, mw_286, List.mem_of_getElem? (i := 300) (by decide +kernel), by decide +kernel, mw_2, mw_288, by decide +kernel⟩
theorem vs_X1_53 : mm_VS RX1 53 1 yX1_halfOfBorder cX1_halfOfBorder 1 (Option.some Jvm.ClassFile.FieldType.int) 0 := ⟨⟨TX1, 6, rfl⟩, mw_300, mw_302, List.mem_of_getElem? (i := 3) (by decide +kernel), by decide +kernel, mw_3, mw_303, by decide +kernel⟩
theorem vs_X1_83 : mm_VS RX1 83 1 yX1_patternShade cX1_patternShade 3 (Option.some Jvm.ClassFile.FieldType.int) 1 := ⟨⟨TX1, 6, rfl⟩, mw_311, mw_312, List.mem_of_getElem? (i := 326) (by decide +kernel), by decide +kernel, mw_3, mw_314, by decide +kernel⟩
theorem vs_X1_86 : mm_VS RX1 86 1 yX1_cellsOfWholePatterns cX1_cellsOfWholePatterns 2 (Option.some Jvm.ClassFile.FieldType.int) 1 := ⟨⟨TX1, 6, rfl⟩, mw_315, mw_317, List.mem_of_getElem? (i := 5) (by decide +kernel), by decide +kernel, mw_3, mw_318, by decide +kernel⟩
theorem vs_X1_69 : mm_VS RX1 69 1 yX1_hasCell cX1_hasCell 3 (Option.some Jvm.ClassFile.FieldType.boolean) 2 := ⟨⟨TX1, 6, rfl⟩, mw_294, mw_271, List.mem_of_getElem? (i := 285) (by decide +kernel), by decide +kernel, mw_3, mw_273, by decide +kernel⟩
theorem vs_X1_73 : mm_VS RX1 73 1 yX1_isBorder cX1_isBorder 3 (Option.some Jvm.ClassFile.FieldType.boolean) 2 := ⟨⟨TX1, 6, rfl⟩, mw_295, mw_278, List.mem_of_getElem? (i := 292) (by decide +kernel), by decide +kernel, mw_3, mw_280, by decide +kernel⟩
theorem vs_X1_76 : mm_VS RX1 76 1 yX1_borderNumberAt cX1_borderNumberAt 3 (Option.some Jvm.ClassFile.FieldType.int) 2 := ⟨⟨TX1, 6, rfl⟩, mw_296, mw_297, List.mem_of_getElem? (i := 311) (by decide +kernel), by decide +kernel, mw_3, mw_299, by decide +kernel⟩
theorem vs_X1_79 : mm_VS RX1 79 1 yX1_wantedInBorder cX1_wantedInBorder 6 (Option.some Jvm.ClassFile.FieldType.int) 1 := ⟨⟨TX1, 6, rfl⟩, mw_304, mw_306, List.mem_of_getElem? (i := 4) (by decide +kernel), by decide +kernel, mw_3, mw_307, by decide +kernel⟩
theorem vs_X6_73 : mm_VS RX6 73 1 yX1_hasCell cX1_hasCell 3 (Option.some Jvm.ClassFile.FieldType.boolean) 2 := ⟨⟨TX1, 6, rfl⟩, mw_270, mw_271, List.mem_of_getElem? (i := 285) (by decide +kernel), by decide +kernel, mw_3, mw_273, by decide +kernel⟩
theorem ss_X6_77 : mm_SS RX6 77 yX6_isShade cX6_isShade 1 (Option.some Jvm.ClassFile.FieldType.boolean) 1 := ⟨mw_274, mw_275, mw_1, mw_276, by decide +kernel⟩
theorem vs_X6_81 : mm_VS RX6 81 1 yX1_isBorder cX1_isBorder 3 (Option.some Jvm.ClassFile.FieldType.boolean) 2 := ⟨⟨TX1, 6, rfl⟩, mw_277, mw_278, List.mem_of_getElem? (i := 292) (by decide +kernel), by decide +kernel, mw_3, mw_280, by decide +kernel⟩
theorem vs_X6_84 : mm_VS RX6 84 2 yX2_isLaid cX2_isLaid 3 (Option.some Jvm.ClassFile.FieldType.boolean) 2 := ⟨⟨TX2, 4, rfl⟩, mw_281, mw_282, List.mem_of_getElem? (i := 296) (by decide +kernel), by decide +kernel, mw_2, mw_284, by decide +kernel⟩
theorem vs_X6_87 : mm_VS RX6 87 1 yX1_wantedAt cX1_wantedAt 3 (Option.some Jvm.ClassFile.FieldType.int) 2 := ⟨⟨TX1, 6, rfl⟩, mw_290, mw_291, List.mem_of_getElem? (i := 305) (by decide +kernel), by decide +kernel, mw_3, mw_293, by decide +kernel⟩
theorem vs_X6_91 : mm_VS RX6 91 1 yX1_wantInField cX1_wantInField 4 (Option.none : Option Jvm.ClassFile.FieldType) 3 := ⟨⟨TX1, 6, rfl⟩, mw_319, mw_320, List.mem_of_getElem? (i := 334) (by decide +kernel), by decide +kernel, mw_3, mw_322, by decide +kernel⟩
theorem vs_X2_60 : mm_VS RX2 60 2 yX2_isLaid cX2_isLaid 3 (Option.some Jvm.ClassFile.FieldType.boolean) 2 := ⟨⟨TX2, 4, rfl⟩, mw_332, mw_282, List.mem_of_getElem? (i := 296) (by decide +kernel), by decide +kernel, mw_2, mw_284, by decide +kernel⟩
theorem vs_X2_63 : mm_VS RX2 63 1 yX1_wantedAt cX1_wantedAt 3 (Option.some Jvm.ClassFile.FieldType.int) 2 := ⟨⟨TX1, 6, rfl⟩, mw_333, mw_291, List.mem_of_getElem? (i := 305) (by decide +kernel), by decide +kernel, mw_3, mw_293, by decide +kernel⟩
theorem mc_abs : Cond.code Lib.Math.abs.name Lib.Math.abs.code 1 (some .int) ∈ mm_gw := mm_gwI 349 (by decide +kernel) (by decide +kernel)
theorem vs_X6_95 : mm_VS RX6 95 2 yX2_laidOrNone cX2_laidOrNone 3 (Option.some Jvm.ClassFile.FieldType.int) 2 := ⟨⟨TX2, 4, rfl⟩, mw_327, mw_286, List.mem_of_getElem? (i := 300) (by decide +kernel), by decide +kernel, mw_2, mw_288, by decide +kernel⟩
theorem vs_X6_98 : mm_VS RX6 98 2 yX2_differenceAt cX2_differenceAt 3 (Option.some Jvm.ClassFile.FieldType.int) 2 := ⟨⟨TX2, 4, rfl⟩, mw_328, mw_329, List.mem_of_getElem? (i := 343) (by decide +kernel), by decide +kernel, mw_2, mw_331, by decide +kernel⟩
theorem vs_X6_101 : mm_VS RX6 101 1 yX1_borderNumberAt cX1_borderNumberAt 3 (Option.some Jvm.ClassFile.FieldType.int) 2 := ⟨⟨TX1, 6, rfl⟩, mw_337, mw_297, List.mem_of_getElem? (i := 311) (by decide +kernel), by decide +kernel, mw_3, mw_299, by decide +kernel⟩
theorem vs_X1_89 : mm_VS RX1 89 1 yX1_patternHasOneShade cX1_patternHasOneShade 2 (Option.some Jvm.ClassFile.FieldType.boolean) 0 := ⟨⟨TX1, 6, rfl⟩, mw_354, mw_356, List.mem_of_getElem? (i := 7) (by decide +kernel), by decide +kernel, mw_3, mw_357, by decide +kernel⟩
theorem vs_X1_66 : mm_VS RX1 66 1 yX1_borderCells cX1_borderCells 1 (Option.some Jvm.ClassFile.FieldType.int) 0 := ⟨⟨TX1, 6, rfl⟩, mw_358, mw_347, List.mem_of_getElem? (i := 361) (by decide +kernel), by decide +kernel, mw_3, mw_349, by decide +kernel⟩
theorem fs_X6_220 : mm_FS RX6 220 1 4 := ⟨RX1, TX1, 6, rfl, by decide, iw_1, mw_46⟩
theorem fs_X6_223 : mm_FS RX6 223 1 5 := ⟨RX1, TX1, 6, rfl, by decide, iw_1, mw_49⟩
theorem vs_X6_226 : mm_VS RX6 226 1 yX1_borderCells cX1_borderCells 1 (Option.some Jvm.ClassFile.FieldType.int) 0 := ⟨⟨TX1, 6, rfl⟩, mw_346, mw_347, List.mem_of_getElem? (i := 361) (by decide +kernel), by decide +kernel, mw_3, mw_349, by decide +kernel⟩
theorem fs_X6_113 : mm_FS RX6 113 1 2 := ⟨RX1, TX1, 6, rfl, by decide, iw_1, mw_41⟩
theorem vs_X6_229 : mm_VS RX6 229 1 yX1_borderMeets cX1_borderMeets 4 (Option.some Jvm.ClassFile.FieldType.boolean) 0 := ⟨⟨TX1, 6, rfl⟩, mw_350, mw_351, List.mem_of_getElem? (i := 365) (by decide +kernel), by decide +kernel, mw_3, mw_353, by decide +kernel⟩
theorem fs_X2_72 : mm_FS RX2 72 1 5 := ⟨RX1, TX1, 6, rfl, by decide, iw_1, mw_48⟩
theorem fs_X2_75 : mm_FS RX2 75 1 4 := ⟨RX1, TX1, 6, rfl, by decide, iw_1, mw_45⟩
theorem vs_X2_78 : mm_VS RX2 78 2 yX2_differenceAt cX2_differenceAt 3 (Option.some Jvm.ClassFile.FieldType.int) 2 := ⟨⟨TX2, 4, rfl⟩, mw_367, mw_329, List.mem_of_getElem? (i := 343) (by decide +kernel), by decide +kernel, mw_2, mw_331, by decide +kernel⟩
theorem mc_max : Cond.code Lib.Math.max.name Lib.Math.max.code 2 (some .int) ∈ mm_gw := mm_gwI 387 (by decide +kernel) (by decide +kernel)
theorem vs_X6_210 : mm_VS RX6 210 2 yX2_sumOfDifferences cX2_sumOfDifferences 4 (Option.some Jvm.ClassFile.FieldType.int) 0 := ⟨⟨TX2, 4, rfl⟩, mw_363, mw_364, List.mem_of_getElem? (i := 378) (by decide +kernel), by decide +kernel, mw_2, mw_366, by decide +kernel⟩
theorem vs_X6_233 : mm_VS RX6 233 2 yX2_greatestDifference cX2_greatestDifference 4 (Option.some Jvm.ClassFile.FieldType.int) 0 := ⟨⟨TX2, 4, rfl⟩, mw_368, mw_369, List.mem_of_getElem? (i := 383) (by decide +kernel), by decide +kernel, mw_2, mw_371, by decide +kernel⟩
theorem fs_X6_129 : mm_FS RX6 129 3 2 := ⟨RX3, TX3, 9, rfl, by decide, iw_3, mw_106⟩
theorem vs_X6_236 : mm_VS RX6 236 3 yX3_tesseraeAtHand cX3_tesseraeAtHand 6 (Option.some Jvm.ClassFile.FieldType.int) 0 := ⟨⟨TX3, 9, rfl⟩, mw_375, mw_254, List.mem_of_getElem? (i := 268) (by decide +kernel), by decide +kernel, mw_5, mw_256, by decide +kernel⟩
theorem fs_X6_239 : mm_FS RX6 239 3 5 := ⟨RX3, TX3, 9, rfl, by decide, iw_3, mw_112⟩
theorem fs_X6_242 : mm_FS RX6 242 2 3 := ⟨RX2, TX2, 4, rfl, by decide, iw_2, mw_145⟩
theorem vs_X6_119 : mm_VS RX6 119 0 yX0_states cX0_states 1 (Option.some Jvm.ClassFile.FieldType.int) 0 := ⟨⟨TX0, 2, rfl⟩, mw_376, mw_377, List.mem_of_getElem? (i := 391) (by decide +kernel), by decide +kernel, mw_7, mw_379, by decide +kernel⟩
theorem fs_X6_213 : mm_FS RX6 213 5 1 := ⟨RX5, TX5, 2, rfl, by decide, iw_5, mw_179⟩
theorem fs_X3_58 : mm_FS RX3 58 4 2 := ⟨RX4, TX4, 6, rfl, by decide, iw_4, mw_81⟩
theorem vs_X3_61 : mm_VS RX3 61 4 yX4_left cX4_left 1 (Option.some Jvm.ClassFile.FieldType.int) 0 := ⟨⟨TX4, 6, rfl⟩, mw_392, mw_393, List.mem_of_getElem? (i := 407) (by decide +kernel), by decide +kernel, mw_6, mw_395, by decide +kernel⟩
theorem vs_X6_245 : mm_VS RX6 245 3 yX3_lengthOfStrips cX3_lengthOfStrips 6 (Option.some Jvm.ClassFile.FieldType.int) 0 := ⟨⟨TX3, 9, rfl⟩, mw_384, mw_385, List.mem_of_getElem? (i := 399) (by decide +kernel), by decide +kernel, mw_5, mw_387, by decide +kernel⟩
theorem vs_X6_248 : mm_VS RX6 248 3 yX3_leftOfStrips cX3_leftOfStrips 6 (Option.some Jvm.ClassFile.FieldType.int) 0 := ⟨⟨TX3, 9, rfl⟩, mw_388, mw_389, List.mem_of_getElem? (i := 403) (by decide +kernel), by decide +kernel, mw_5, mw_391, by decide +kernel⟩
theorem fs_X6_251 : mm_FS RX6 251 3 6 := ⟨RX3, TX3, 9, rfl, by decide, iw_3, mw_114⟩
theorem fs_X6_254 : mm_FS RX6 254 3 7 := ⟨RX3, TX3, 9, rfl, by decide, iw_3, mw_116⟩
theorem fs_X6_257 : mm_FS RX6 257 3 8 := ⟨RX3, TX3, 9, rfl, by decide, iw_3, mw_118⟩
theorem vs_X6_110 : mm_VS RX6 110 6 yX6_account cX6_account 2 (Option.some Jvm.ClassFile.FieldType.int) 1 := ⟨⟨TX6, 4, rfl⟩, mw_380, mw_382, List.mem_of_getElem? (i := 9) (by decide +kernel), by decide +kernel, mw_1, mw_383, by decide +kernel⟩
theorem vs_X6_107 : mm_VS RX6 107 6 yX6_countOfWork cX6_countOfWork 2 (Option.some Jvm.ClassFile.FieldType.int) 1 := ⟨⟨TX6, 4, rfl⟩, mw_359, mw_361, List.mem_of_getElem? (i := 8) (by decide +kernel), by decide +kernel, mw_1, mw_362, by decide +kernel⟩
theorem vs_X6_104 : mm_VS RX6 104 6 yX6_countOfPlan cX6_countOfPlan 2 (Option.some Jvm.ClassFile.FieldType.int) 1 := ⟨⟨TX6, 4, rfl⟩, mw_342, mw_344, List.mem_of_getElem? (i := 6) (by decide +kernel), by decide +kernel, mw_1, mw_345, by decide +kernel⟩
theorem vs_X6_116 : mm_VS RX6 116 1 yX1_patternShade cX1_patternShade 3 (Option.some Jvm.ClassFile.FieldType.int) 1 := ⟨⟨TX1, 6, rfl⟩, mw_604, mw_312, List.mem_of_getElem? (i := 326) (by decide +kernel), by decide +kernel, mw_3, mw_314, by decide +kernel⟩
theorem vs_X6_122 : mm_VS RX6 122 0 yX0_restore cX0_restore 2 (Option.none : Option Jvm.ClassFile.FieldType) 1 := ⟨⟨TX0, 2, rfl⟩, mw_400, mw_401, List.mem_of_getElem? (i := 415) (by decide +kernel), by decide +kernel, mw_7, mw_403, by decide +kernel⟩
theorem vs_X3_54 : mm_VS RX3 54 4 yX4_begin cX4_begin 3 (Option.none : Option Jvm.ClassFile.FieldType) 2 := ⟨⟨TX4, 6, rfl⟩, mw_412, mw_413, List.mem_of_getElem? (i := 427) (by decide +kernel), by decide +kernel, mw_6, mw_415, by decide +kernel⟩
theorem vs_X6_134 : mm_VS RX6 134 3 yX3_addStrip cX3_addStrip 4 (Option.some Jvm.ClassFile.FieldType.int) 2 := ⟨⟨TX3, 9, rfl⟩, mw_408, mw_409, List.mem_of_getElem? (i := 423) (by decide +kernel), by decide +kernel, mw_5, mw_411, by decide +kernel⟩
theorem vs_X6_137 : mm_VS RX6 137 3 yX3_stripOrNull cX3_stripOrNull 2 (Option.some (Jvm.ClassFile.FieldType.object "MosaicFloor$Strip")) 1 := ⟨⟨TX3, 9, rfl⟩, mw_420, mw_421, List.mem_of_getElem? (i := 435) (by decide +kernel), by decide +kernel, mw_5, mw_423, by decide +kernel⟩
theorem fs_X6_141 : mm_FS RX6 141 4 4 := ⟨RX4, TX4, 6, rfl, by decide, iw_4, mw_87⟩
theorem fs_X6_146 : mm_FS RX6 146 4 2 := ⟨RX4, TX4, 6, rfl, by decide, iw_4, mw_82⟩
theorem vs_X6_149 : mm_VS RX6 149 4 yX4_hasFlawIn cX4_hasFlawIn 4 (Option.some Jvm.ClassFile.FieldType.boolean) 2 := ⟨⟨TX4, 6, rfl⟩, mw_424, mw_425, List.mem_of_getElem? (i := 439) (by decide +kernel), by decide +kernel, mw_6, mw_427, by decide +kernel⟩
theorem fs_X6_152 : mm_FS RX6 152 4 1 := ⟨RX4, TX4, 6, rfl, by decide, iw_4, mw_79⟩
theorem vs_X6_155 : mm_VS RX6 155 4 yX4_addFlaw cX4_addFlaw 2 (Option.none : Option Jvm.ClassFile.FieldType) 1 := ⟨⟨TX4, 6, rfl⟩, mw_428, mw_429, List.mem_of_getElem? (i := 443) (by decide +kernel), by decide +kernel, mw_6, mw_431, by decide +kernel⟩
theorem vs_X4_41 : mm_VS RX4 41 4 yX4_hasFlawIn cX4_hasFlawIn 4 (Option.some Jvm.ClassFile.FieldType.boolean) 2 := ⟨⟨TX4, 6, rfl⟩, mw_445, mw_425, List.mem_of_getElem? (i := 439) (by decide +kernel), by decide +kernel, mw_6, mw_427, by decide +kernel⟩
theorem sn_X3_65 : mm_SN RX3 65 yX6_isShade RX6 cX6_isShade 1 (Option.some Jvm.ClassFile.FieldType.boolean) 1 := ⟨mw_275, mw_1, mw_276, by decide +kernel⟩
theorem vs_X3_116 : mm_VS RX3 116 4 yX4_cutOff cX4_cutOff 4 (Option.some Jvm.ClassFile.FieldType.boolean) 2 := ⟨⟨TX4, 6, rfl⟩, mw_441, mw_442, List.mem_of_getElem? (i := 456) (by decide +kernel), by decide +kernel, mw_6, mw_444, by decide +kernel⟩
theorem vs_X3_123 : mm_VS RX3 123 3 yX3_addBroken cX3_addBroken 1 (Option.none : Option Jvm.ClassFile.FieldType) 0 := ⟨⟨TX3, 9, rfl⟩, mw_452, mw_453, List.mem_of_getElem? (i := 467) (by decide +kernel), by decide +kernel, mw_5, mw_455, by decide +kernel⟩
theorem fs_X3_82 : mm_FS RX3 82 4 3 := ⟨RX4, TX4, 6, rfl, by decide, iw_4, mw_84⟩
theorem vs_X3_119 : mm_VS RX3 119 3 yX3_putAtHand cX3_putAtHand 2 (Option.none : Option Jvm.ClassFile.FieldType) 1 := ⟨⟨TX3, 9, rfl⟩, mw_447, mw_448, List.mem_of_getElem? (i := 462) (by decide +kernel), by decide +kernel, mw_5, mw_450, by decide +kernel⟩
theorem vs_X6_159 : mm_VS RX6 159 4 yX4_left cX4_left 1 (Option.some Jvm.ClassFile.FieldType.int) 0 := ⟨⟨TX4, 6, rfl⟩, mw_436, mw_393, List.mem_of_getElem? (i := 407) (by decide +kernel), by decide +kernel, mw_6, mw_395, by decide +kernel⟩
theorem vs_X6_165 : mm_VS RX6 165 3 yX3_cutFrom cX3_cutFrom 4 (Option.some Jvm.ClassFile.FieldType.boolean) 1 := ⟨⟨TX3, 9, rfl⟩, mw_437, mw_438, List.mem_of_getElem? (i := 452) (by decide +kernel), by decide +kernel, mw_5, mw_440, by decide +kernel⟩
theorem vs_X4_37 : mm_VS RX4 37 4 yX4_tesseraeAhead cX4_tesseraeAhead 5 (Option.some Jvm.ClassFile.FieldType.int) 2 := ⟨⟨TX4, 6, rfl⟩, mw_468, mw_461, List.mem_of_getElem? (i := 475) (by decide +kernel), by decide +kernel, mw_6, mw_463, by decide +kernel⟩
theorem fs_X6_169 : mm_FS RX6 169 4 3 := ⟨RX4, TX4, 6, rfl, by decide, iw_4, mw_85⟩
theorem vs_X6_175 : mm_VS RX6 175 4 yX4_tesseraeAhead cX4_tesseraeAhead 5 (Option.some Jvm.ClassFile.FieldType.int) 2 := ⟨⟨TX4, 6, rfl⟩, mw_460, mw_461, List.mem_of_getElem? (i := 475) (by decide +kernel), by decide +kernel, mw_6, mw_463, by decide +kernel⟩
theorem vs_X6_178 : mm_VS RX6 178 4 yX4_goodTesseraeAhead cX4_goodTesseraeAhead 7 (Option.some Jvm.ClassFile.FieldType.int) 2 := ⟨⟨TX4, 6, rfl⟩, mw_464, mw_465, List.mem_of_getElem? (i := 479) (by decide +kernel), by decide +kernel, mw_6, mw_467, by decide +kernel⟩
theorem fs_X6_181 : mm_FS RX6 181 4 5 := ⟨RX4, TX4, 6, rfl, by decide, iw_4, mw_89⟩
theorem ss_X3_89 : mm_SS RX3 89 yX3_nearer cX3_nearer 5 (Option.some Jvm.ClassFile.FieldType.int) 3 := ⟨mw_500, mw_501, mw_5, mw_502, by decide +kernel⟩
theorem vs_X3_93 : mm_VS RX3 93 4 yX4_givesGood cX4_givesGood 6 (Option.some Jvm.ClassFile.FieldType.boolean) 2 := ⟨⟨TX4, 6, rfl⟩, mw_505, mw_506, List.mem_of_getElem? (i := 520) (by decide +kernel), by decide +kernel, mw_6, mw_508, by decide +kernel⟩
theorem vs_X2_84 : mm_VS RX2 84 3 yX3_nearestShadeOrNone cX3_nearestShadeOrNone 7 (Option.some Jvm.ClassFile.FieldType.int) 1 := ⟨⟨TX3, 9, rfl⟩, mw_496, mw_497, List.mem_of_getElem? (i := 511) (by decide +kernel), by decide +kernel, mw_5, mw_499, by decide +kernel⟩
theorem vs_X3_69 : mm_VS RX3 69 3 yX3_atHandOf cX3_atHandOf 2 (Option.some Jvm.ClassFile.FieldType.int) 1 := ⟨⟨TX3, 9, rfl⟩, mw_513, mw_515, List.mem_of_getElem? (i := 10) (by decide +kernel), by decide +kernel, mw_5, mw_516, by decide +kernel⟩
theorem vs_X3_105 : mm_VS RX3 105 3 yX3_firstStripGivingOrNull cX3_firstStripGivingOrNull 6 (Option.some (Jvm.ClassFile.FieldType.object "MosaicFloor$Strip")) 1 := ⟨⟨TX3, 9, rfl⟩, mw_517, mw_519, List.mem_of_getElem? (i := 11) (by decide +kernel), by decide +kernel, mw_5, mw_520, by decide +kernel⟩
theorem vs_X3_109 : mm_VS RX3 109 4 yX4_tesseraeAhead cX4_tesseraeAhead 5 (Option.some Jvm.ClassFile.FieldType.int) 2 := ⟨⟨TX4, 6, rfl⟩, mw_521, mw_461, List.mem_of_getElem? (i := 475) (by decide +kernel), by decide +kernel, mw_6, mw_463, by decide +kernel⟩
theorem vs_X3_112 : mm_VS RX3 112 3 yX3_cutFrom cX3_cutFrom 4 (Option.some Jvm.ClassFile.FieldType.boolean) 1 := ⟨⟨TX3, 9, rfl⟩, mw_522, mw_438, List.mem_of_getElem? (i := 452) (by decide +kernel), by decide +kernel, mw_5, mw_440, by decide +kernel⟩
theorem vs_X2_87 : mm_VS RX2 87 2 yX2_shadeForOrNone cX2_shadeForOrNone 3 (Option.some Jvm.ClassFile.FieldType.int) 2 := ⟨⟨TX2, 4, rfl⟩, mw_492, mw_493, List.mem_of_getElem? (i := 507) (by decide +kernel), by decide +kernel, mw_2, mw_495, by decide +kernel⟩
theorem vs_X2_90 : mm_VS RX2 90 3 yX3_bringToHand cX3_bringToHand 5 (Option.none : Option Jvm.ClassFile.FieldType) 1 := ⟨⟨TX3, 9, rfl⟩, mw_509, mw_510, List.mem_of_getElem? (i := 524) (by decide +kernel), by decide +kernel, mw_5, mw_512, by decide +kernel⟩
theorem vs_X2_94 : mm_VS RX2 94 3 yX3_takeFromHand cX3_takeFromHand 2 (Option.none : Option Jvm.ClassFile.FieldType) 1 := ⟨⟨TX3, 9, rfl⟩, mw_523, mw_524, List.mem_of_getElem? (i := 538) (by decide +kernel), by decide +kernel, mw_5, mw_526, by decide +kernel⟩
theorem vs_X2_97 : mm_VS RX2 97 2 yX2_putAt cX2_putAt 4 (Option.none : Option Jvm.ClassFile.FieldType) 3 := ⟨⟨TX2, 4, rfl⟩, mw_527, mw_529, List.mem_of_getElem? (i := 12) (by decide +kernel), by decide +kernel, mw_2, mw_530, by decide +kernel⟩
theorem vs_X6_184 : mm_VS RX6 184 2 yX2_shadeForOrNone cX2_shadeForOrNone 3 (Option.some Jvm.ClassFile.FieldType.int) 2 := ⟨⟨TX2, 4, rfl⟩, mw_595, mw_493, List.mem_of_getElem? (i := 507) (by decide +kernel), by decide +kernel, mw_2, mw_495, by decide +kernel⟩
theorem vs_X6_187 : mm_VS RX6 187 2 yX2_layCellIfPossible cX2_layCellIfPossible 4 (Option.none : Option Jvm.ClassFile.FieldType) 2 := ⟨⟨TX2, 4, rfl⟩, mw_646, mw_489, List.mem_of_getElem? (i := 503) (by decide +kernel), by decide +kernel, mw_2, mw_491, by decide +kernel⟩
theorem vs_X2_101 : mm_VS RX2 101 2 yX2_laidCells cX2_laidCells 6 (Option.some Jvm.ClassFile.FieldType.int) 0 := ⟨⟨TX2, 4, rfl⟩, mw_477, mw_207, List.mem_of_getElem? (i := 221) (by decide +kernel), by decide +kernel, mw_2, mw_209, by decide +kernel⟩
theorem vs_X2_105 : mm_VS RX2 105 1 yX1_borderCells cX1_borderCells 1 (Option.some Jvm.ClassFile.FieldType.int) 0 := ⟨⟨TX1, 6, rfl⟩, mw_478, mw_347, List.mem_of_getElem? (i := 361) (by decide +kernel), by decide +kernel, mw_3, mw_349, by decide +kernel⟩
theorem vs_X2_108 : mm_VS RX2 108 1 yX1_columnOf cX1_columnOf 2 (Option.some Jvm.ClassFile.FieldType.int) 1 := ⟨⟨TX1, 6, rfl⟩, mw_479, mw_480, List.mem_of_getElem? (i := 494) (by decide +kernel), by decide +kernel, mw_3, mw_482, by decide +kernel⟩
theorem vs_X2_111 : mm_VS RX2 111 1 yX1_rowOf cX1_rowOf 2 (Option.some Jvm.ClassFile.FieldType.int) 1 := ⟨⟨TX1, 6, rfl⟩, mw_484, mw_485, List.mem_of_getElem? (i := 499) (by decide +kernel), by decide +kernel, mw_3, mw_487, by decide +kernel⟩
theorem vs_X2_114 : mm_VS RX2 114 2 yX2_layCellIfPossible cX2_layCellIfPossible 4 (Option.none : Option Jvm.ClassFile.FieldType) 2 := ⟨⟨TX2, 4, rfl⟩, mw_488, mw_489, List.mem_of_getElem? (i := 503) (by decide +kernel), by decide +kernel, mw_2, mw_491, by decide +kernel⟩
theorem vs_X6_190 : mm_VS RX6 190 2 yX2_layEmptyCells cX2_layEmptyCells 4 (Option.some Jvm.ClassFile.FieldType.int) 0 := ⟨⟨TX2, 4, rfl⟩, mw_473, mw_474, List.mem_of_getElem? (i := 488) (by decide +kernel), by decide +kernel, mw_2, mw_476, by decide +kernel⟩
theorem vs_X2_121 : mm_VS RX2 121 3 yX3_putAtHand cX3_putAtHand 2 (Option.none : Option Jvm.ClassFile.FieldType) 1 := ⟨⟨TX3, 9, rfl⟩, mw_540, mw_448, List.mem_of_getElem? (i := 462) (by decide +kernel), by decide +kernel, mw_5, mw_450, by decide +kernel⟩
theorem vs_X2_118 : mm_VS RX2 118 3 yX3_addBroken cX3_addBroken 1 (Option.none : Option Jvm.ClassFile.FieldType) 0 := ⟨⟨TX3, 9, rfl⟩, mw_539, mw_453, List.mem_of_getElem? (i := 467) (by decide +kernel), by decide +kernel, mw_5, mw_455, by decide +kernel⟩
theorem vs_X6_193 : mm_VS RX6 193 2 yX2_liftToHand cX2_liftToHand 4 (Option.some Jvm.ClassFile.FieldType.boolean) 2 := ⟨⟨TX2, 4, rfl⟩, mw_535, mw_536, List.mem_of_getElem? (i := 550) (by decide +kernel), by decide +kernel, mw_2, mw_538, by decide +kernel⟩
theorem vs_X3_85 : mm_VS RX3 85 4 yX4_goodTesseraeAhead cX4_goodTesseraeAhead 7 (Option.some Jvm.ClassFile.FieldType.int) 2 := ⟨⟨TX4, 6, rfl⟩, mw_549, mw_465, List.mem_of_getElem? (i := 479) (by decide +kernel), by decide +kernel, mw_6, mw_467, by decide +kernel⟩
theorem vs_X6_196 : mm_VS RX6 196 3 yX3_readyOf cX3_readyOf 7 (Option.some Jvm.ClassFile.FieldType.int) 1 := ⟨⟨TX3, 9, rfl⟩, mw_545, mw_546, List.mem_of_getElem? (i := 560) (by decide +kernel), by decide +kernel, mw_5, mw_548, by decide +kernel⟩
theorem vs_X2_124 : mm_VS RX2 124 3 yX3_readyOf cX3_readyOf 7 (Option.some Jvm.ClassFile.FieldType.int) 1 := ⟨⟨TX3, 9, rfl⟩, mw_558, mw_546, List.mem_of_getElem? (i := 560) (by decide +kernel), by decide +kernel, mw_5, mw_548, by decide +kernel⟩
theorem vs_X6_199 : mm_VS RX6 199 2 yX2_lackOf cX2_lackOf 5 (Option.some Jvm.ClassFile.FieldType.int) 1 := ⟨⟨TX2, 4, rfl⟩, mw_554, mw_555, List.mem_of_getElem? (i := 569) (by decide +kernel), by decide +kernel, mw_2, mw_557, by decide +kernel⟩
theorem fs_X6_16 : mm_FS RX6 16 6 1 := ⟨RX6, TX6, 4, rfl, by decide, iw_6, mw_187⟩
theorem vs_X6_207 : mm_VS RX6 207 2 yX2_copyFrom cX2_copyFrom 2 (Option.none : Option Jvm.ClassFile.FieldType) 1 := ⟨⟨TX2, 4, rfl⟩, mw_568, mw_219, List.mem_of_getElem? (i := 233) (by decide +kernel), by decide +kernel, mw_2, mw_221, by decide +kernel⟩
theorem ps_X5_15 : mm_PS RX5 15 5 1 false .int := ⟨RX5, TX5, 2, tyX5, rfl, by decide, iw_5, mw_178, tyX5_ok, nmX5, rfl, by decide +kernel, fun h => by cases h⟩
theorem vs_X6_214 : mm_VS RX6 214 5 yX5_append cX5_append 2 (Option.none : Option Jvm.ClassFile.FieldType) 1 := ⟨⟨TX5, 2, rfl⟩, mw_622, mw_623, List.mem_of_getElem? (i := 637) (by decide +kernel), by decide +kernel, mw_8, mw_625, by decide +kernel⟩
theorem ps_X6_213 : mm_PS RX6 213 5 1 false .int := ⟨RX5, TX5, 2, tyX5, rfl, by decide, iw_5, mw_179, tyX5_ok, nmX5, rfl, by decide +kernel, fun h => by cases h⟩
theorem vs_L_9 : mm_VS RL 9 6 yX6_count cX6_count 2 (Option.some Jvm.ClassFile.FieldType.int) 1 := ⟨⟨TX6, 4, rfl⟩, mw_338, mw_339, List.mem_of_getElem? (i := 353) (by decide +kernel), by decide +kernel, mw_1, mw_341, by decide +kernel⟩
theorem vs_L_15 : mm_VS RL 15 6 yX6_stripOf cX6_stripOf 4 (Option.some Jvm.ClassFile.FieldType.int) 2 := ⟨⟨TX6, 4, rfl⟩, mw_456, mw_457, List.mem_of_getElem? (i := 471) (by decide +kernel), by decide +kernel, mw_1, mw_459, by decide +kernel⟩
theorem vs_L_21 : mm_VS RL 21 6 yX6_cell cX6_cell 4 (Option.some Jvm.ClassFile.FieldType.int) 3 := ⟨⟨TX6, 4, rfl⟩, mw_323, mw_324, List.mem_of_getElem? (i := 338) (by decide +kernel), by decide +kernel, mw_1, mw_326, by decide +kernel⟩
theorem vs_L_25 : mm_VS RL 25 6 yX6_nearest cX6_nearest 4 (Option.some Jvm.ClassFile.FieldType.int) 2 := ⟨⟨TX6, 4, rfl⟩, mw_591, mw_592, List.mem_of_getElem? (i := 606) (by decide +kernel), by decide +kernel, mw_1, mw_594, by decide +kernel⟩
theorem vs_L_29 : mm_VS RL 29 6 yX6_shade cX6_shade 2 (Option.some Jvm.ClassFile.FieldType.int) 1 := ⟨⟨TX6, 4, rfl⟩, mw_600, mw_601, List.mem_of_getElem? (i := 615) (by decide +kernel), by decide +kernel, mw_1, mw_603, by decide +kernel⟩
theorem vs_L_32 : mm_VS RL 32 6 yX6_ready cX6_ready 2 (Option.some Jvm.ClassFile.FieldType.int) 1 := ⟨⟨TX6, 4, rfl⟩, mw_541, mw_542, List.mem_of_getElem? (i := 556) (by decide +kernel), by decide +kernel, mw_1, mw_544, by decide +kernel⟩
theorem vs_L_35 : mm_VS RL 35 6 yX6_type cX6_type 2 (Option.some Jvm.ClassFile.FieldType.int) 1 := ⟨⟨TX6, 4, rfl⟩, mw_618, mw_619, List.mem_of_getElem? (i := 633) (by decide +kernel), by decide +kernel, mw_1, mw_621, by decide +kernel⟩
theorem ss_L_38 : mm_SS RL 38 yL_low cL_low 2 (Option.some Jvm.ClassFile.FieldType.int) 2 := ⟨mw_584, mw_585, mw_0, mw_586, by decide +kernel⟩
theorem vs_L_41 : mm_VS RL 41 6 yX6_clearText cX6_clearText 2 (Option.some Jvm.ClassFile.FieldType.int) 0 := ⟨⟨TX6, 4, rfl⟩, mw_611, mw_612, List.mem_of_getElem? (i := 626) (by decide +kernel), by decide +kernel, mw_1, mw_614, by decide +kernel⟩
theorem ss_L_45 : mm_SS RL 45 yL_put cL_put 2 (Option.some Jvm.ClassFile.FieldType.int) 2 := ⟨mw_615, mw_616, mw_0, mw_617, by decide +kernel⟩
theorem vs_L_49 : mm_VS RL 49 6 yX6_pattern cX6_pattern 1 (Option.some Jvm.ClassFile.FieldType.int) 0 := ⟨⟨TX6, 4, rfl⟩, mw_626, mw_627, List.mem_of_getElem? (i := 641) (by decide +kernel), by decide +kernel, mw_1, mw_629, by decide +kernel⟩
theorem vs_L_52 : mm_VS RL 52 6 yX6_fault cX6_fault 2 (Option.some Jvm.ClassFile.FieldType.int) 0 := ⟨⟨TX6, 4, rfl⟩, mw_569, mw_570, List.mem_of_getElem? (i := 584) (by decide +kernel), by decide +kernel, mw_1, mw_572, by decide +kernel⟩
theorem vs_L_55 : mm_VS RL 55 6 yX6_lay cX6_lay 3 (Option.some Jvm.ClassFile.FieldType.int) 2 := ⟨⟨TX6, 4, rfl⟩, mw_642, mw_643, List.mem_of_getElem? (i := 657) (by decide +kernel), by decide +kernel, mw_1, mw_645, by decide +kernel⟩
theorem vs_L_58 : mm_VS RL 58 6 yX6_floor cX6_floor 3 (Option.some Jvm.ClassFile.FieldType.int) 2 := ⟨⟨TX6, 4, rfl⟩, mw_199, mw_200, List.mem_of_getElem? (i := 214) (by decide +kernel), by decide +kernel, mw_1, mw_202, by decide +kernel⟩
theorem vs_L_61 : mm_VS RL 61 6 yX6_set cX6_set 3 (Option.some Jvm.ClassFile.FieldType.int) 2 := ⟨⟨TX6, 4, rfl⟩, mw_241, mw_242, List.mem_of_getElem? (i := 256) (by decide +kernel), by decide +kernel, mw_1, mw_244, by decide +kernel⟩
theorem vs_L_64 : mm_VS RL 64 6 yX6_way cX6_way 3 (Option.some Jvm.ClassFile.FieldType.int) 1 := ⟨⟨TX6, 4, rfl⟩, mw_262, mw_263, List.mem_of_getElem? (i := 277) (by decide +kernel), by decide +kernel, mw_1, mw_265, by decide +kernel⟩
theorem vs_L_67 : mm_VS RL 67 6 yX6_want cX6_want 5 (Option.some Jvm.ClassFile.FieldType.int) 3 := ⟨⟨TX6, 4, rfl⟩, mw_266, mw_267, List.mem_of_getElem? (i := 281) (by decide +kernel), by decide +kernel, mw_1, mw_269, by decide +kernel⟩
theorem vs_L_70 : mm_VS RL 70 6 yX6_strip cX6_strip 3 (Option.some Jvm.ClassFile.FieldType.int) 2 := ⟨⟨TX6, 4, rfl⟩, mw_404, mw_405, List.mem_of_getElem? (i := 419) (by decide +kernel), by decide +kernel, mw_1, mw_407, by decide +kernel⟩
theorem vs_L_73 : mm_VS RL 73 6 yX6_flaw cX6_flaw 4 (Option.some Jvm.ClassFile.FieldType.int) 2 := ⟨⟨TX6, 4, rfl⟩, mw_416, mw_417, List.mem_of_getElem? (i := 431) (by decide +kernel), by decide +kernel, mw_1, mw_419, by decide +kernel⟩
theorem vs_L_76 : mm_VS RL 76 6 yX6_cut cX6_cut 3 (Option.some Jvm.ClassFile.FieldType.int) 1 := ⟨⟨TX6, 4, rfl⟩, mw_432, mw_433, List.mem_of_getElem? (i := 447) (by decide +kernel), by decide +kernel, mw_1, mw_435, by decide +kernel⟩
theorem vs_L_79 : mm_VS RL 79 6 yX6_lift cX6_lift 3 (Option.some Jvm.ClassFile.FieldType.int) 2 := ⟨⟨TX6, 4, rfl⟩, mw_531, mw_532, List.mem_of_getElem? (i := 546) (by decide +kernel), by decide +kernel, mw_1, mw_534, by decide +kernel⟩
theorem vs_L_82 : mm_VS RL 82 6 yX6_lacks cX6_lacks 2 (Option.some Jvm.ClassFile.FieldType.int) 1 := ⟨⟨TX6, 4, rfl⟩, mw_550, mw_551, List.mem_of_getElem? (i := 565) (by decide +kernel), by decide +kernel, mw_1, mw_553, by decide +kernel⟩
theorem vs_L_85 : mm_VS RL 85 6 yX6_stripFor cX6_stripFor 4 (Option.some Jvm.ClassFile.FieldType.int) 1 := ⟨⟨TX6, 4, rfl⟩, mw_559, mw_560, List.mem_of_getElem? (i := 574) (by decide +kernel), by decide +kernel, mw_1, mw_562, by decide +kernel⟩
theorem ss_L_89 : mm_SS RL 89 yL_refuses cL_refuses 6 (Option.some Jvm.ClassFile.FieldType.boolean) 1 := ⟨mw_647, mw_648, mw_0, mw_649, by decide +kernel⟩
theorem vs_L_93 : mm_VS RL 93 6 yX6_undo cX6_undo 1 (Option.some Jvm.ClassFile.FieldType.int) 0 := ⟨⟨TX6, 4, rfl⟩, mw_396, mw_397, List.mem_of_getElem? (i := 411) (by decide +kernel), by decide +kernel, mw_1, mw_399, by decide +kernel⟩
theorem ss_L_96 : mm_SS RL 96 yL_sound cL_sound 21 (Option.some Jvm.ClassFile.FieldType.boolean) 1 := ⟨mw_588, mw_589, mw_0, mw_590, by decide +kernel⟩
theorem ss_L_99 : mm_SS RL 99 yL_border cL_border 9 (Option.some Jvm.ClassFile.FieldType.boolean) 1 := ⟨mw_597, mw_598, mw_0, mw_599, by decide +kernel⟩
theorem vs_L_102 : mm_VS RL 102 6 yX6_layAll cX6_layAll 1 (Option.some Jvm.ClassFile.FieldType.int) 0 := ⟨⟨TX6, 4, rfl⟩, mw_469, mw_470, List.mem_of_getElem? (i := 484) (by decide +kernel), by decide +kernel, mw_1, mw_472, by decide +kernel⟩
theorem ss_L_105 : mm_SS RL 105 yL_lot cL_lot 2 (Option.some Jvm.ClassFile.FieldType.int) 2 := ⟨mw_580, mw_581, mw_0, mw_582, by decide +kernel⟩
theorem ss_L_120 : mm_SS RL 120 yL_near cL_near 10 (Option.some Jvm.ClassFile.FieldType.boolean) 3 := ⟨mw_605, mw_606, mw_0, mw_607, by decide +kernel⟩
theorem vs_L_117 : mm_VS RL 117 6 yX6_ifLaid cX6_ifLaid 1 (Option.some Jvm.ClassFile.FieldType.int) 0 := ⟨⟨TX6, 4, rfl⟩, mw_564, mw_565, List.mem_of_getElem? (i := 579) (by decide +kernel), by decide +kernel, mw_1, mw_567, by decide +kernel⟩
theorem ss_L_113 : mm_SS RL 113 yL_lays cL_lays 8 (Option.some Jvm.ClassFile.FieldType.boolean) 3 := ⟨mw_639, mw_640, mw_0, mw_641, by decide +kernel⟩
theorem ss_L_109 : mm_SS RL 109 yL_patterns cL_patterns 7 (Option.some Jvm.ClassFile.FieldType.boolean) 2 := ⟨mw_608, mw_609, mw_0, mw_610, by decide +kernel⟩
