-- words
theorem w_0 : (Cond.initialized "OrbitBoxLaw") ∈ ob_g := ob_w1 0 rfl rfl
theorem w_1 : (Cond.initialized "OrbitBox") ∈ ob_g := ob_w1 1 rfl rfl
theorem w_2 : (Cond.initialized "OrbitBox$Row") ∈ ob_g := ob_w1 2 rfl rfl
theorem w_3 : (Cond.initialized "OrbitBox$Receiver") ∈ ob_g := ob_w1 3 rfl rfl
theorem w_4 : (Cond.initialized "OrbitBox$Gate") ∈ ob_g := ob_w1 4 rfl rfl
theorem w_5 : (Cond.initialized "OrbitBox$Timetable") ∈ ob_g := ob_w1 5 rfl rfl
theorem w_6 : (Cond.initialized "java/lang/Math") ∈ ob_g := ob_w1 6 rfl rfl
theorem w_7 : (Cond.initialized "OrbitBox$Events") ∈ ob_g := ob_w1 7 rfl rfl
theorem w_8 : (Cond.initialized "OrbitBox$Ring") ∈ ob_g := ob_w1 8 rfl rfl
theorem w_9 : (Cond.initialized "OrbitBox$Table") ∈ ob_g := ob_w1 9 rfl rfl
theorem w_10 : (Cond.initialized "OrbitBox$Downlink") ∈ ob_g := ob_w1 10 rfl rfl
theorem w_11 : (Cond.initialized "OrbitBox$Reports") ∈ ob_g := ob_w1 11 rfl rfl
theorem w_12 : (Cond.initialized "OrbitBox$Craft") ∈ ob_g := ob_w1 12 rfl rfl
theorem w_13 : (Cond.initialized "OrbitBox$Handler") ∈ ob_g := ob_w1 13 rfl rfl
theorem w_14 : (Cond.initialized "OrbitBoxModel") ∈ ob_g := ob_w1 14 rfl rfl
theorem w_15 : (Cond.initialized "java/lang/Integer") ∈ ob_g := ob_w1 15 rfl rfl
theorem w_16 : (Cond.initialized "java/lang/System") ∈ ob_g := ob_w1 16 rfl rfl
theorem w_20 : (Cond.initialized "java/util/NoSuchElementException") ∈ ob_g := ob_w1 20 rfl rfl
theorem w_21 : (Cond.classLink "OrbitBoxLaw" (8 : Nat) "OrbitBox") ∈ ob_g := ob_w1 21 rfl rfl
theorem w_22 : (Cond.instantiable "OrbitBox" (11 : Nat)) ∈ ob_g := ob_w1 22 rfl rfl
theorem w_23 : (Cond.methodLink "OrbitBoxLaw" (28 : Nat) ({ cls := "OrbitBox", name := "<init>", desc := "(IIIII)V" } : MethodName)) ∈ ob_g := ob_w1 23 rfl rfl
theorem w_24 : (Cond.instanceMethod ({ cls := "OrbitBox", name := "<init>", desc := "(IIIII)V" } : MethodName)) ∈ ob_g := ob_w1 24 rfl rfl
theorem w_25 : (Cond.code ({ cls := "OrbitBox", name := "<init>", desc := "(IIIII)V" } : MethodName) prog_1_method_1_code (6 : Nat) (Option.none : Option FieldType)) ∈ ob_g := ob_w1 25 rfl rfl
theorem w_26 : (Cond.methodLink "OrbitBox" (1 : Nat) ({ cls := "java/lang/Object", name := "<init>", desc := "()V" } : MethodName)) ∈ ob_g := ob_w1 26 rfl rfl
theorem w_27 : (Cond.instanceMethod ({ cls := "java/lang/Object", name := "<init>", desc := "()V" } : MethodName)) ∈ ob_g := ob_w1 27 rfl rfl
theorem w_28 : (Cond.code ({ cls := "java/lang/Object", name := "<init>", desc := "()V" } : MethodName) object_method_1_code (1 : Nat) (Option.none : Option FieldType)) ∈ ob_g := ob_w1 28 rfl rfl
theorem w_29 : (Cond.classLink "OrbitBox" (7 : Nat) "OrbitBox$Row") ∈ ob_g := ob_w1 29 rfl rfl
theorem w_30 : (Cond.instantiable "OrbitBox$Row" (2 : Nat)) ∈ ob_g := ob_w1 30 rfl rfl
theorem w_31 : (Cond.methodLink "OrbitBox" (11 : Nat) ({ cls := "OrbitBox$Row", name := "<init>", desc := "(I)V" } : MethodName)) ∈ ob_g := ob_w1 31 rfl rfl
theorem w_32 : (Cond.instanceMethod ({ cls := "OrbitBox$Row", name := "<init>", desc := "(I)V" } : MethodName)) ∈ ob_g := ob_w1 32 rfl rfl
theorem w_33 : (Cond.code ({ cls := "OrbitBox$Row", name := "<init>", desc := "(I)V" } : MethodName) prog_10_method_1_code (2 : Nat) (Option.none : Option FieldType)) ∈ ob_g := ob_w1 33 rfl rfl
theorem w_34 : (Cond.methodLink "OrbitBox$Row" (1 : Nat) ({ cls := "java/lang/Object", name := "<init>", desc := "()V" } : MethodName)) ∈ ob_g := ob_w1 34 rfl rfl
theorem w_35 : (Cond.fieldLink "OrbitBox$Row" (7 : Nat) "OrbitBox$Row" "bytes" "[I") ∈ ob_g := ob_w1 35 rfl rfl
theorem w_37 : (Cond.fieldLink "OrbitBox$Row" (13 : Nat) "OrbitBox$Row" "length" "I") ∈ ob_g := ob_w1 37 rfl rfl
theorem w_52 : (Cond.arrayClass FieldType.int) ∈ ob_g := ob_w1 52 rfl rfl
theorem w_53 : (Cond.classLink "OrbitBox" (25 : Nat) "OrbitBox$Receiver") ∈ ob_g := ob_w1 53 rfl rfl
theorem w_54 : (Cond.instantiable "OrbitBox$Receiver" (7 : Nat)) ∈ ob_g := ob_w1 54 rfl rfl
theorem w_55 : (Cond.methodLink "OrbitBox" (27 : Nat) ({ cls := "OrbitBox$Receiver", name := "<init>", desc := "()V" } : MethodName)) ∈ ob_g := ob_w1 55 rfl rfl
theorem w_56 : (Cond.instanceMethod ({ cls := "OrbitBox$Receiver", name := "<init>", desc := "()V" } : MethodName)) ∈ ob_g := ob_w1 56 rfl rfl
theorem w_57 : (Cond.code ({ cls := "OrbitBox$Receiver", name := "<init>", desc := "()V" } : MethodName) prog_7_method_1_code (1 : Nat) (Option.none : Option FieldType)) ∈ ob_g := ob_w1 57 rfl rfl
theorem w_58 : (Cond.methodLink "OrbitBox$Receiver" (1 : Nat) ({ cls := "java/lang/Object", name := "<init>", desc := "()V" } : MethodName)) ∈ ob_g := ob_w1 58 rfl rfl
theorem w_59 : (Cond.classLink "OrbitBox$Receiver" (7 : Nat) "OrbitBox$Row") ∈ ob_g := ob_w1 59 rfl rfl
theorem w_60 : (Cond.methodLink "OrbitBox$Receiver" (11 : Nat) ({ cls := "OrbitBox$Row", name := "<init>", desc := "(I)V" } : MethodName)) ∈ ob_g := ob_w1 60 rfl rfl
theorem w_61 : (Cond.fieldLink "OrbitBox$Receiver" (14 : Nat) "OrbitBox$Receiver" "candidate" "LOrbitBox$Row;") ∈ ob_g := ob_w1 61 rfl rfl
theorem w_63 : (Cond.fieldLink "OrbitBox$Receiver" (18 : Nat) "OrbitBox$Receiver" "collects" "Z") ∈ ob_g := ob_w1 63 rfl rfl
theorem w_65 : (Cond.fieldLink "OrbitBox$Receiver" (26 : Nat) "OrbitBox$Receiver" "window" "I") ∈ ob_g := ob_w1 65 rfl rfl
theorem w_66 : (Cond.fieldLink "OrbitBox$Receiver" (31 : Nat) "OrbitBox$Receiver" "bits" "I") ∈ ob_g := ob_w1 66 rfl rfl
theorem w_67 : (Cond.fieldLink "OrbitBox$Receiver" (53 : Nat) "OrbitBox$Receiver" "block" "J") ∈ ob_g := ob_w1 67 rfl rfl
theorem w_68 : (Cond.fieldLink "OrbitBox$Receiver" (57 : Nat) "OrbitBox$Receiver" "remainder" "I") ∈ ob_g := ob_w1 68 rfl rfl
theorem w_70 : (Cond.fieldLink "OrbitBox$Receiver" (74 : Nat) "OrbitBox$Receiver" "putRight" "I") ∈ ob_g := ob_w1 70 rfl rfl
theorem w_86 : (Cond.classLink "OrbitBox" (32 : Nat) "OrbitBox$Gate") ∈ ob_g := ob_w1 86 rfl rfl
theorem w_87 : (Cond.instantiable "OrbitBox$Gate" (10 : Nat)) ∈ ob_g := ob_w1 87 rfl rfl
theorem w_88 : (Cond.methodLink "OrbitBox" (34 : Nat) ({ cls := "OrbitBox$Gate", name := "<init>", desc := "()V" } : MethodName)) ∈ ob_g := ob_w1 88 rfl rfl
theorem w_89 : (Cond.instanceMethod ({ cls := "OrbitBox$Gate", name := "<init>", desc := "()V" } : MethodName)) ∈ ob_g := ob_w1 89 rfl rfl
theorem w_90 : (Cond.code ({ cls := "OrbitBox$Gate", name := "<init>", desc := "()V" } : MethodName) prog_5_method_1_code (2 : Nat) (Option.none : Option FieldType)) ∈ ob_g := ob_w1 90 rfl rfl
theorem w_91 : (Cond.methodLink "OrbitBox$Gate" (3 : Nat) ({ cls := "java/lang/Object", name := "<init>", desc := "()V" } : MethodName)) ∈ ob_g := ob_w1 91 rfl rfl
theorem w_92 : (Cond.classLink "OrbitBox$Gate" (11 : Nat) "OrbitBox$Row") ∈ ob_g := ob_w1 92 rfl rfl
theorem w_94 : (Cond.methodLink "OrbitBox$Gate" (17 : Nat) ({ cls := "OrbitBox$Row", name := "<init>", desc := "(I)V" } : MethodName)) ∈ ob_g := ob_w1 94 rfl rfl
theorem w_95 : (Cond.fieldLink "OrbitBox$Gate" (13 : Nat) "OrbitBox$Gate" "queue" "[LOrbitBox$Row;") ∈ ob_g := ob_w1 95 rfl rfl
theorem w_96 : (Cond.fieldLink "OrbitBox$Gate" (78 : Nat) "OrbitBox$Gate" "first" "I") ∈ ob_g := ob_w1 96 rfl rfl
theorem w_98 : (Cond.fieldLink "OrbitBox$Gate" (75 : Nat) "OrbitBox$Gate" "queued" "I") ∈ ob_g := ob_w1 98 rfl rfl
theorem w_99 : (Cond.fieldLink "OrbitBox$Gate" (20 : Nat) "OrbitBox$Gate" "status" "I") ∈ ob_g := ob_w1 99 rfl rfl
theorem w_102 : (Cond.fieldLink "OrbitBox$Gate" (59 : Nat) "OrbitBox$Gate" "next" "I") ∈ ob_g := ob_w1 102 rfl rfl
theorem w_103 : (Cond.fieldLink "OrbitBox$Gate" (69 : Nat) "OrbitBox$Gate" "waits" "Z") ∈ ob_g := ob_w1 103 rfl rfl
theorem w_104 : (Cond.fieldLink "OrbitBox$Gate" (62 : Nat) "OrbitBox$Gate" "again" "Z") ∈ ob_g := ob_w1 104 rfl rfl
theorem w_105 : (Cond.fieldLink "OrbitBox$Gate" (72 : Nat) "OrbitBox$Gate" "beside" "I") ∈ ob_g := ob_w1 105 rfl rfl
theorem w_106 : (Cond.fieldLink "OrbitBox$Gate" (28 : Nat) "OrbitBox$Gate" "refused" "I") ∈ ob_g := ob_w1 106 rfl rfl
theorem w_109 : (Cond.fieldLink "OrbitBox$Gate" (85 : Nat) "OrbitBox$Gate" "accepted" "I") ∈ ob_g := ob_w1 109 rfl rfl
theorem w_131 : (Cond.classLink "OrbitBox" (39 : Nat) "OrbitBox$Timetable") ∈ ob_g := ob_w1 131 rfl rfl
theorem w_132 : (Cond.instantiable "OrbitBox$Timetable" (4 : Nat)) ∈ ob_g := ob_w1 132 rfl rfl
theorem w_133 : (Cond.methodLink "OrbitBox" (41 : Nat) ({ cls := "OrbitBox", name := "nearest", desc := "(III)I" } : MethodName)) ∈ ob_g := ob_w1 133 rfl rfl
theorem w_134 : (Cond.static ({ cls := "OrbitBox", name := "nearest", desc := "(III)I" } : MethodName)) ∈ ob_g := ob_w1 134 rfl rfl
theorem w_135 : (Cond.code ({ cls := "OrbitBox", name := "nearest", desc := "(III)I" } : MethodName) prog_1_method_14_code (3 : Nat) (Option.some FieldType.int)) ∈ ob_g := ob_w1 135 rfl rfl
theorem w_136 : (Cond.methodLink "OrbitBox" (216 : Nat) ({ cls := "java/lang/Math", name := "min", desc := "(II)I" } : MethodName)) ∈ ob_g := ob_w1 136 rfl rfl
theorem w_137 : (Cond.static ({ cls := "java/lang/Math", name := "min", desc := "(II)I" } : MethodName)) ∈ ob_g := ob_w1 137 rfl rfl
theorem w_138 : (Cond.code ({ cls := "java/lang/Math", name := "min", desc := "(II)I" } : MethodName) prog_17_method_69_code (2 : Nat) (Option.some FieldType.int)) ∈ ob_g := ob_w1 138 rfl rfl
theorem w_139 : (Cond.methodLink "OrbitBox" (221 : Nat) ({ cls := "java/lang/Math", name := "max", desc := "(II)I" } : MethodName)) ∈ ob_g := ob_w1 139 rfl rfl
theorem w_140 : (Cond.static ({ cls := "java/lang/Math", name := "max", desc := "(II)I" } : MethodName)) ∈ ob_g := ob_w1 140 rfl rfl
theorem w_141 : (Cond.code ({ cls := "java/lang/Math", name := "max", desc := "(II)I" } : MethodName) prog_17_method_65_code (2 : Nat) (Option.some FieldType.int)) ∈ ob_g := ob_w1 141 rfl rfl
theorem w_142 : (Cond.methodLink "OrbitBox" (45 : Nat) ({ cls := "OrbitBox$Timetable", name := "<init>", desc := "(I)V" } : MethodName)) ∈ ob_g := ob_w1 142 rfl rfl
theorem w_143 : (Cond.instanceMethod ({ cls := "OrbitBox$Timetable", name := "<init>", desc := "(I)V" } : MethodName)) ∈ ob_g := ob_w1 143 rfl rfl
theorem w_144 : (Cond.code ({ cls := "OrbitBox$Timetable", name := "<init>", desc := "(I)V" } : MethodName) prog_12_method_1_code (3 : Nat) (Option.none : Option FieldType)) ∈ ob_g := ob_w1 144 rfl rfl
theorem w_145 : (Cond.methodLink "OrbitBox$Timetable" (3 : Nat) ({ cls := "java/lang/Object", name := "<init>", desc := "()V" } : MethodName)) ∈ ob_g := ob_w1 145 rfl rfl
theorem w_146 : (Cond.classLink "OrbitBox$Timetable" (15 : Nat) "OrbitBox$Row") ∈ ob_g := ob_w1 146 rfl rfl
theorem w_147 : (Cond.methodLink "OrbitBox$Timetable" (21 : Nat) ({ cls := "OrbitBox$Row", name := "<init>", desc := "(I)V" } : MethodName)) ∈ ob_g := ob_w1 147 rfl rfl
theorem w_148 : (Cond.fieldLink "OrbitBox$Timetable" (9 : Nat) "OrbitBox$Timetable" "times" "[I") ∈ ob_g := ob_w1 148 rfl rfl
theorem w_150 : (Cond.fieldLink "OrbitBox$Timetable" (17 : Nat) "OrbitBox$Timetable" "commands" "[LOrbitBox$Row;") ∈ ob_g := ob_w1 150 rfl rfl
theorem w_152 : (Cond.fieldLink "OrbitBox$Timetable" (24 : Nat) "OrbitBox$Timetable" "size" "I") ∈ ob_g := ob_w1 152 rfl rfl
theorem w_166 : (Cond.classLink "OrbitBox" (50 : Nat) "OrbitBox$Events") ∈ ob_g := ob_w1 166 rfl rfl
theorem w_167 : (Cond.instantiable "OrbitBox$Events" (6 : Nat)) ∈ ob_g := ob_w1 167 rfl rfl
theorem w_168 : (Cond.methodLink "OrbitBox" (52 : Nat) ({ cls := "OrbitBox$Events", name := "<init>", desc := "()V" } : MethodName)) ∈ ob_g := ob_w1 168 rfl rfl
theorem w_169 : (Cond.instanceMethod ({ cls := "OrbitBox$Events", name := "<init>", desc := "()V" } : MethodName)) ∈ ob_g := ob_w1 169 rfl rfl
theorem w_170 : (Cond.code ({ cls := "OrbitBox$Events", name := "<init>", desc := "()V" } : MethodName) prog_4_method_1_code (2 : Nat) (Option.none : Option FieldType)) ∈ ob_g := ob_w1 170 rfl rfl
theorem w_171 : (Cond.methodLink "OrbitBox$Events" (3 : Nat) ({ cls := "java/lang/Object", name := "<init>", desc := "()V" } : MethodName)) ∈ ob_g := ob_w1 171 rfl rfl
theorem w_172 : (Cond.classLink "OrbitBox$Events" (9 : Nat) "OrbitBox$Ring") ∈ ob_g := ob_w1 172 rfl rfl
theorem w_173 : (Cond.instantiable "OrbitBox$Ring" (3 : Nat)) ∈ ob_g := ob_w1 173 rfl rfl
theorem w_174 : (Cond.methodLink "OrbitBox$Events" (13 : Nat) ({ cls := "OrbitBox$Ring", name := "<init>", desc := "(I)V" } : MethodName)) ∈ ob_g := ob_w1 174 rfl rfl
theorem w_175 : (Cond.instanceMethod ({ cls := "OrbitBox$Ring", name := "<init>", desc := "(I)V" } : MethodName)) ∈ ob_g := ob_w1 175 rfl rfl
theorem w_176 : (Cond.code ({ cls := "OrbitBox$Ring", name := "<init>", desc := "(I)V" } : MethodName) prog_9_method_1_code (2 : Nat) (Option.none : Option FieldType)) ∈ ob_g := ob_w1 176 rfl rfl
theorem w_177 : (Cond.methodLink "OrbitBox$Ring" (1 : Nat) ({ cls := "java/lang/Object", name := "<init>", desc := "()V" } : MethodName)) ∈ ob_g := ob_w1 177 rfl rfl
theorem w_178 : (Cond.fieldLink "OrbitBox$Ring" (7 : Nat) "OrbitBox$Ring" "cells" "[I") ∈ ob_g := ob_w1 178 rfl rfl
theorem w_180 : (Cond.fieldLink "OrbitBox$Ring" (13 : Nat) "OrbitBox$Ring" "head" "I") ∈ ob_g := ob_w1 180 rfl rfl
theorem w_181 : (Cond.fieldLink "OrbitBox$Ring" (17 : Nat) "OrbitBox$Ring" "size" "I") ∈ ob_g := ob_w1 181 rfl rfl
theorem w_195 : (Cond.classLink "OrbitBox$Events" (30 : Nat) "OrbitBox$Row") ∈ ob_g := ob_w1 195 rfl rfl
theorem w_196 : (Cond.methodLink "OrbitBox$Events" (36 : Nat) ({ cls := "OrbitBox$Row", name := "<init>", desc := "(I)V" } : MethodName)) ∈ ob_g := ob_w1 196 rfl rfl
theorem w_197 : (Cond.fieldLink "OrbitBox$Events" (16 : Nat) "OrbitBox$Events" "raised" "LOrbitBox$Ring;") ∈ ob_g := ob_w1 197 rfl rfl
theorem w_199 : (Cond.fieldLink "OrbitBox$Events" (20 : Nat) "OrbitBox$Events" "silent" "[Z") ∈ ob_g := ob_w1 199 rfl rfl
theorem w_201 : (Cond.fieldLink "OrbitBox$Events" (24 : Nat) "OrbitBox$Events" "hasAction" "[Z") ∈ ob_g := ob_w1 201 rfl rfl
theorem w_203 : (Cond.fieldLink "OrbitBox$Events" (27 : Nat) "OrbitBox$Events" "actionOn" "[Z") ∈ ob_g := ob_w1 203 rfl rfl
theorem w_205 : (Cond.fieldLink "OrbitBox$Events" (32 : Nat) "OrbitBox$Events" "actions" "[LOrbitBox$Row;") ∈ ob_g := ob_w1 205 rfl rfl
theorem w_208 : (Cond.fieldLink "OrbitBox$Events" (48 : Nat) "OrbitBox$Events" "lost" "I") ∈ ob_g := ob_w1 208 rfl rfl
theorem w_222 : (Cond.arrayClass FieldType.boolean) ∈ ob_g := ob_w1 222 rfl rfl
theorem w_223 : (Cond.classLink "OrbitBox" (57 : Nat) "OrbitBox$Table") ∈ ob_g := ob_w1 223 rfl rfl
theorem w_224 : (Cond.instantiable "OrbitBox$Table" (4 : Nat)) ∈ ob_g := ob_w1 224 rfl rfl
theorem w_225 : (Cond.methodLink "OrbitBox" (59 : Nat) ({ cls := "OrbitBox$Table", name := "<init>", desc := "(II)V" } : MethodName)) ∈ ob_g := ob_w1 225 rfl rfl
theorem w_226 : (Cond.instanceMethod ({ cls := "OrbitBox$Table", name := "<init>", desc := "(II)V" } : MethodName)) ∈ ob_g := ob_w1 226 rfl rfl
theorem w_227 : (Cond.code ({ cls := "OrbitBox$Table", name := "<init>", desc := "(II)V" } : MethodName) prog_11_method_1_code (3 : Nat) (Option.none : Option FieldType)) ∈ ob_g := ob_w1 227 rfl rfl
theorem w_228 : (Cond.methodLink "OrbitBox$Table" (5 : Nat) ({ cls := "java/lang/Object", name := "<init>", desc := "()V" } : MethodName)) ∈ ob_g := ob_w1 228 rfl rfl
theorem w_229 : (Cond.fieldLink "OrbitBox$Table" (11 : Nat) "OrbitBox$Table" "most" "I") ∈ ob_g := ob_w1 229 rfl rfl
theorem w_230 : (Cond.fieldLink "OrbitBox$Table" (15 : Nat) "OrbitBox$Table" "width" "I") ∈ ob_g := ob_w1 230 rfl rfl
theorem w_231 : (Cond.fieldLink "OrbitBox$Table" (18 : Nat) "OrbitBox$Table" "cells" "[I") ∈ ob_g := ob_w1 231 rfl rfl
theorem w_232 : (Cond.fieldLink "OrbitBox$Table" (22 : Nat) "OrbitBox$Table" "size" "I") ∈ ob_g := ob_w1 232 rfl rfl
