-- words
theorem w_960 : (Cond.code ({ cls := "OrbitBox$Downlink", name := "fill", desc := "(LOrbitBox$Row;LOrbitBox$Ring;)I" } : MethodName) prog_3_method_5_code (7 : Nat) (Option.some FieldType.int)) ∈ ob_g := ob_w5 0 rfl rfl
theorem w_961 : (Cond.methodLink "OrbitBox$Downlink" (74 : Nat) ({ cls := "java/lang/Math", name := "max", desc := "(II)I" } : MethodName)) ∈ ob_g := ob_w5 1 rfl rfl
theorem w_962 : (Cond.methodLink "OrbitBox$Downlink" (79 : Nat) ({ cls := "OrbitBox$Downlink", name := "putEmptyPacket", desc := "(LOrbitBox$Ring;I)V" } : MethodName)) ∈ ob_g := ob_w5 2 rfl rfl
theorem w_963 : (Cond.static ({ cls := "OrbitBox$Downlink", name := "putEmptyPacket", desc := "(LOrbitBox$Ring;I)V" } : MethodName)) ∈ ob_g := ob_w5 3 rfl rfl
theorem w_964 : (Cond.code ({ cls := "OrbitBox$Downlink", name := "putEmptyPacket", desc := "(LOrbitBox$Ring;I)V" } : MethodName) prog_3_method_6_code (3 : Nat) (Option.none : Option FieldType)) ∈ ob_g := ob_w5 4 rfl rfl
theorem w_965 : (Cond.methodLink "OrbitBox$Downlink" (87 : Nat) ({ cls := "OrbitBox$Ring", name := "put", desc := "(I)V" } : MethodName)) ∈ ob_g := ob_w5 5 rfl rfl
theorem w_966 : (Cond.methodLink "OrbitBox$Downlink" (83 : Nat) ({ cls := "OrbitBox$Ring", name := "take", desc := "()I" } : MethodName)) ∈ ob_g := ob_w5 6 rfl rfl
theorem w_967 : (Cond.methodLink "OrbitBox$Downlink" (66 : Nat) ({ cls := "OrbitBox$Row", name := "replace", desc := "(III)V" } : MethodName)) ∈ ob_g := ob_w5 7 rfl rfl
theorem w_968 : (Cond.methodLink "OrbitBox$Downlink" (70 : Nat) ({ cls := "OrbitBox$Row", name := "check", desc := "(II)I" } : MethodName)) ∈ ob_g := ob_w5 8 rfl rfl
theorem w_969 : (Cond.methodLink "OrbitBoxLaw" (69 : Nat) ({ cls := "OrbitBox", name := "word", desc := "()I" } : MethodName)) ∈ ob_g := ob_w5 9 rfl rfl
theorem w_970 : (Cond.instanceMethod ({ cls := "OrbitBox", name := "word", desc := "()I" } : MethodName)) ∈ ob_g := ob_w5 10 rfl rfl
theorem w_971 : (Cond.selects "OrbitBox" ({ cls := "OrbitBox", name := "word", desc := "()I" } : MethodName) ({ cls := "OrbitBox", name := "word", desc := "()I" } : MethodName)) ∈ ob_g := ob_w5 11 rfl rfl
theorem w_972 : (Cond.code ({ cls := "OrbitBox", name := "word", desc := "()I" } : MethodName) prog_1_method_9_code (1 : Nat) (Option.some FieldType.int)) ∈ ob_g := ob_w5 12 rfl rfl
theorem w_973 : (Cond.methodLink "OrbitBoxLaw" (73 : Nat) ({ cls := "OrbitBox", name := "memory", desc := "(I)I" } : MethodName)) ∈ ob_g := ob_w5 13 rfl rfl
theorem w_974 : (Cond.instanceMethod ({ cls := "OrbitBox", name := "memory", desc := "(I)I" } : MethodName)) ∈ ob_g := ob_w5 14 rfl rfl
theorem w_975 : (Cond.selects "OrbitBox" ({ cls := "OrbitBox", name := "memory", desc := "(I)I" } : MethodName) ({ cls := "OrbitBox", name := "memory", desc := "(I)I" } : MethodName)) ∈ ob_g := ob_w5 15 rfl rfl
theorem w_976 : (Cond.code ({ cls := "OrbitBox", name := "memory", desc := "(I)I" } : MethodName) prog_1_method_10_code (2 : Nat) (Option.some FieldType.int)) ∈ ob_g := ob_w5 16 rfl rfl
theorem w_977 : (Cond.methodLink "OrbitBoxLaw" (80 : Nat) ({ cls := "OrbitBox", name := "limit", desc := "(II)I" } : MethodName)) ∈ ob_g := ob_w5 17 rfl rfl
theorem w_978 : (Cond.instanceMethod ({ cls := "OrbitBox", name := "limit", desc := "(II)I" } : MethodName)) ∈ ob_g := ob_w5 18 rfl rfl
theorem w_979 : (Cond.selects "OrbitBox" ({ cls := "OrbitBox", name := "limit", desc := "(II)I" } : MethodName) ({ cls := "OrbitBox", name := "limit", desc := "(II)I" } : MethodName)) ∈ ob_g := ob_w5 19 rfl rfl
theorem w_980 : (Cond.code ({ cls := "OrbitBox", name := "limit", desc := "(II)I" } : MethodName) prog_1_method_12_code (4 : Nat) (Option.some FieldType.int)) ∈ ob_g := ob_w5 20 rfl rfl
theorem w_981 : (Cond.methodLink "OrbitBox" (191 : Nat) ({ cls := "OrbitBox$Table", name := "find", desc := "(I)I" } : MethodName)) ∈ ob_g := ob_w5 21 rfl rfl
theorem w_982 : (Cond.methodLink "OrbitBox" (194 : Nat) ({ cls := "OrbitBox$Table", name := "get", desc := "(II)I" } : MethodName)) ∈ ob_g := ob_w5 22 rfl rfl
theorem w_983 : (Cond.methodLink "OrbitBoxLaw" (84 : Nat) ({ cls := "OrbitBox", name := "state", desc := "(I)I" } : MethodName)) ∈ ob_g := ob_w5 23 rfl rfl
theorem w_984 : (Cond.instanceMethod ({ cls := "OrbitBox", name := "state", desc := "(I)I" } : MethodName)) ∈ ob_g := ob_w5 24 rfl rfl
theorem w_985 : (Cond.selects "OrbitBox" ({ cls := "OrbitBox", name := "state", desc := "(I)I" } : MethodName) ({ cls := "OrbitBox", name := "state", desc := "(I)I" } : MethodName)) ∈ ob_g := ob_w5 25 rfl rfl
theorem w_986 : (Cond.code ({ cls := "OrbitBox", name := "state", desc := "(I)I" } : MethodName) prog_1_method_13_code (2 : Nat) (Option.some FieldType.int)) ∈ ob_g := ob_w5 26 rfl rfl
theorem w_987 : (Cond.methodLink "OrbitBox" (210 : Nat) ({ cls := "OrbitBox$Events", name := "raisedCount", desc := "()I" } : MethodName)) ∈ ob_g := ob_w5 27 rfl rfl
theorem w_988 : (Cond.methodLink "OrbitBoxLaw" (22 : Nat) ({ cls := "OrbitBoxLaw", name := "cell", desc := "([II)I" } : MethodName)) ∈ ob_g := ob_w5 28 rfl rfl
theorem w_989 : (Cond.static ({ cls := "OrbitBoxLaw", name := "cell", desc := "([II)I" } : MethodName)) ∈ ob_g := ob_w5 29 rfl rfl
theorem w_990 : (Cond.code ({ cls := "OrbitBoxLaw", name := "cell", desc := "([II)I" } : MethodName) method_2_code (2 : Nat) (Option.some FieldType.int)) ∈ ob_g := ob_w5 30 rfl rfl
theorem w_991 : (Cond.methodLink "OrbitBoxLaw" (58 : Nat) ({ cls := "OrbitBoxLaw", name := "down", desc := "(LOrbitBox;II[J)I" } : MethodName)) ∈ ob_g := ob_w5 31 rfl rfl
theorem w_992 : (Cond.static ({ cls := "OrbitBoxLaw", name := "down", desc := "(LOrbitBox;II[J)I" } : MethodName)) ∈ ob_g := ob_w5 32 rfl rfl
theorem w_993 : (Cond.codeWith ({ cls := "OrbitBoxLaw", name := "down", desc := "(LOrbitBox;II[J)I" } : MethodName) method_3_code (5 : Nat) (Option.some FieldType.int) [((0 : Nat), (10 : Nat), (13 : Nat), (13 : Nat))]) ∈ ob_g := ob_w5 33 rfl rfl
theorem w_994 : (Cond.classLink "OrbitBoxLaw" (13 : Nat) "java/util/NoSuchElementException") ∈ ob_g := ob_w5 34 rfl rfl
theorem w_995 : (Cond.methodLink "OrbitBoxLaw" (7 : Nat) ({ cls := "OrbitBox", name := "down", desc := "(II)I" } : MethodName)) ∈ ob_g := ob_w5 35 rfl rfl
theorem w_996 : (Cond.instanceMethod ({ cls := "OrbitBox", name := "down", desc := "(II)I" } : MethodName)) ∈ ob_g := ob_w5 36 rfl rfl
theorem w_997 : (Cond.selects "OrbitBox" ({ cls := "OrbitBox", name := "down", desc := "(II)I" } : MethodName) ({ cls := "OrbitBox", name := "down", desc := "(II)I" } : MethodName)) ∈ ob_g := ob_w5 37 rfl rfl
theorem w_998 : (Cond.code ({ cls := "OrbitBox", name := "down", desc := "(II)I" } : MethodName) prog_1_method_7_code (3 : Nat) (Option.some FieldType.int)) ∈ ob_g := ob_w5 38 rfl rfl
theorem w_999 : (Cond.classLink "OrbitBox" (169 : Nat) "java/util/NoSuchElementException") ∈ ob_g := ob_w5 39 rfl rfl
theorem w_1060 : (Cond.methodLink "OrbitBoxLaw" (65 : Nat) ({ cls := "OrbitBoxLaw", name := "value", desc := "(LOrbitBox;I[J)I" } : MethodName)) ∈ ob_g := ob_w5 100 rfl rfl
theorem w_1061 : (Cond.static ({ cls := "OrbitBoxLaw", name := "value", desc := "(LOrbitBox;I[J)I" } : MethodName)) ∈ ob_g := ob_w5 101 rfl rfl
theorem w_1062 : (Cond.codeWith ({ cls := "OrbitBoxLaw", name := "value", desc := "(LOrbitBox;I[J)I" } : MethodName) method_4_code (4 : Nat) (Option.some FieldType.int) [((0 : Nat), (9 : Nat), (12 : Nat), (13 : Nat))]) ∈ ob_g := ob_w5 102 rfl rfl
theorem w_1063 : (Cond.methodLink "OrbitBoxLaw" (15 : Nat) ({ cls := "OrbitBox", name := "value", desc := "(I)I" } : MethodName)) ∈ ob_g := ob_w5 103 rfl rfl
theorem w_1064 : (Cond.instanceMethod ({ cls := "OrbitBox", name := "value", desc := "(I)I" } : MethodName)) ∈ ob_g := ob_w5 104 rfl rfl
theorem w_1065 : (Cond.selects "OrbitBox" ({ cls := "OrbitBox", name := "value", desc := "(I)I" } : MethodName) ({ cls := "OrbitBox", name := "value", desc := "(I)I" } : MethodName)) ∈ ob_g := ob_w5 105 rfl rfl
theorem w_1066 : (Cond.code ({ cls := "OrbitBox", name := "value", desc := "(I)I" } : MethodName) prog_1_method_8_code (2 : Nat) (Option.some FieldType.int)) ∈ ob_g := ob_w5 106 rfl rfl
theorem w_1067 : (Cond.methodLink "OrbitBox" (176 : Nat) ({ cls := "OrbitBox$Craft", name := "read", desc := "(I)I" } : MethodName)) ∈ ob_g := ob_w5 107 rfl rfl
theorem w_1068 : (Cond.methodLink "OrbitBoxLaw" (77 : Nat) ({ cls := "OrbitBoxLaw", name := "entry", desc := "(LOrbitBox;II[J)I" } : MethodName)) ∈ ob_g := ob_w5 108 rfl rfl
theorem w_1069 : (Cond.static ({ cls := "OrbitBoxLaw", name := "entry", desc := "(LOrbitBox;II[J)I" } : MethodName)) ∈ ob_g := ob_w5 109 rfl rfl
theorem w_1070 : (Cond.codeWith ({ cls := "OrbitBoxLaw", name := "entry", desc := "(LOrbitBox;II[J)I" } : MethodName) method_5_code (5 : Nat) (Option.some FieldType.int) [((0 : Nat), (10 : Nat), (13 : Nat), (13 : Nat))]) ∈ ob_g := ob_w5 110 rfl rfl
theorem w_1071 : (Cond.methodLink "OrbitBoxLaw" (19 : Nat) ({ cls := "OrbitBox", name := "entry", desc := "(II)I" } : MethodName)) ∈ ob_g := ob_w5 111 rfl rfl
theorem w_1072 : (Cond.instanceMethod ({ cls := "OrbitBox", name := "entry", desc := "(II)I" } : MethodName)) ∈ ob_g := ob_w5 112 rfl rfl
theorem w_1073 : (Cond.selects "OrbitBox" ({ cls := "OrbitBox", name := "entry", desc := "(II)I" } : MethodName) ({ cls := "OrbitBox", name := "entry", desc := "(II)I" } : MethodName)) ∈ ob_g := ob_w5 113 rfl rfl
theorem w_1074 : (Cond.code ({ cls := "OrbitBox", name := "entry", desc := "(II)I" } : MethodName) prog_1_method_11_code (3 : Nat) (Option.some FieldType.int)) ∈ ob_g := ob_w5 114 rfl rfl
theorem w_1075 : (Cond.methodLink "OrbitBox" (185 : Nat) ({ cls := "OrbitBox$Timetable", name := "numberOf", desc := "(I)I" } : MethodName)) ∈ ob_g := ob_w5 115 rfl rfl
theorem w_1076 : (Cond.classLink "OrbitBoxLaw" (31 : Nat) "OrbitBoxModel") ∈ ob_g := ob_w5 116 rfl rfl
theorem w_1077 : (Cond.instantiable "OrbitBoxModel" (91 : Nat)) ∈ ob_g := ob_w5 117 rfl rfl
theorem w_1078 : (Cond.methodLink "OrbitBoxLaw" (33 : Nat) ({ cls := "OrbitBoxModel", name := "<init>", desc := "(IIIII)V" } : MethodName)) ∈ ob_g := ob_w5 118 rfl rfl
theorem w_1079 : (Cond.instanceMethod ({ cls := "OrbitBoxModel", name := "<init>", desc := "(IIIII)V" } : MethodName)) ∈ ob_g := ob_w5 119 rfl rfl
theorem w_1080 : (Cond.code ({ cls := "OrbitBoxModel", name := "<init>", desc := "(IIIII)V" } : MethodName) prog_14_method_2_code (7 : Nat) (Option.none : Option FieldType)) ∈ ob_g := ob_w5 120 rfl rfl
theorem w_1081 : (Cond.methodLink "OrbitBoxModel" (1 : Nat) ({ cls := "java/lang/Object", name := "<init>", desc := "()V" } : MethodName)) ∈ ob_g := ob_w5 121 rfl rfl
theorem w_1082 : (Cond.classLink "OrbitBoxModel" (139 : Nat) "[[B") ∈ ob_g := ob_w5 122 rfl rfl
theorem w_1084 : (Cond.classLink "OrbitBoxModel" (144 : Nat) "[[Z") ∈ ob_g := ob_w5 124 rfl rfl
theorem w_1086 : (Cond.methodLink "OrbitBoxModel" (158 : Nat) ({ cls := "OrbitBoxModel", name := "within", desc := "(III)I" } : MethodName)) ∈ ob_g := ob_w5 126 rfl rfl
theorem w_1087 : (Cond.static ({ cls := "OrbitBoxModel", name := "within", desc := "(III)I" } : MethodName)) ∈ ob_g := ob_w5 127 rfl rfl
theorem w_1088 : (Cond.code ({ cls := "OrbitBoxModel", name := "within", desc := "(III)I" } : MethodName) prog_14_method_1_code (3 : Nat) (Option.some FieldType.int)) ∈ ob_g := ob_w5 128 rfl rfl
theorem w_1089 : (Cond.fieldLink "OrbitBoxModel" (162 : Nat) "OrbitBoxModel" "entriesMost" "I") ∈ ob_g := ob_w5 129 rfl rfl
theorem w_1090 : (Cond.fieldLink "OrbitBoxModel" (165 : Nat) "OrbitBoxModel" "frameLength" "I") ∈ ob_g := ob_w5 130 rfl rfl
theorem w_1091 : (Cond.fieldLink "OrbitBoxModel" (168 : Nat) "OrbitBoxModel" "framesMost" "I") ∈ ob_g := ob_w5 131 rfl rfl
theorem w_1092 : (Cond.fieldLink "OrbitBoxModel" (171 : Nat) "OrbitBoxModel" "patience" "I") ∈ ob_g := ob_w5 132 rfl rfl
theorem w_1093 : (Cond.fieldLink "OrbitBoxModel" (174 : Nat) "OrbitBoxModel" "storeMost" "I") ∈ ob_g := ob_w5 133 rfl rfl
theorem w_1094 : (Cond.fieldLink "OrbitBoxModel" (468 : Nat) "OrbitBoxModel" "thrownCode" "I") ∈ ob_g := ob_w5 134 rfl rfl
theorem w_1095 : (Cond.fieldLink "OrbitBoxModel" (7 : Nat) "OrbitBoxModel" "tape" "[B") ∈ ob_g := ob_w5 135 rfl rfl
theorem w_1096 : (Cond.fieldLink "OrbitBoxModel" (471 : Nat) "OrbitBoxModel" "taped" "I") ∈ ob_g := ob_w5 136 rfl rfl
theorem w_1097 : (Cond.fieldLink "OrbitBoxModel" (184 : Nat) "OrbitBoxModel" "collects" "Z") ∈ ob_g := ob_w5 137 rfl rfl
theorem w_1098 : (Cond.fieldLink "OrbitBoxModel" (197 : Nat) "OrbitBoxModel" "searched" "I") ∈ ob_g := ob_w5 138 rfl rfl
theorem w_1099 : (Cond.fieldLink "OrbitBoxModel" (194 : Nat) "OrbitBoxModel" "latest" "I") ∈ ob_g := ob_w5 139 rfl rfl
theorem w_1100 : (Cond.fieldLink "OrbitBoxModel" (13 : Nat) "OrbitBoxModel" "block" "[Z") ∈ ob_g := ob_w5 140 rfl rfl
theorem w_1101 : (Cond.fieldLink "OrbitBoxModel" (188 : Nat) "OrbitBoxModel" "blockBits" "I") ∈ ob_g := ob_w5 141 rfl rfl
theorem w_1102 : (Cond.fieldLink "OrbitBoxModel" (17 : Nat) "OrbitBoxModel" "candidate" "[B") ∈ ob_g := ob_w5 142 rfl rfl
theorem w_1103 : (Cond.fieldLink "OrbitBoxModel" (201 : Nat) "OrbitBoxModel" "candidateBytes" "I") ∈ ob_g := ob_w5 143 rfl rfl
theorem w_1104 : (Cond.fieldLink "OrbitBoxModel" (208 : Nat) "OrbitBoxModel" "putRight" "I") ∈ ob_g := ob_w5 144 rfl rfl
theorem w_1105 : (Cond.fieldLink "OrbitBoxModel" (222 : Nat) "OrbitBoxModel" "refused" "I") ∈ ob_g := ob_w5 145 rfl rfl
theorem w_1106 : (Cond.fieldLink "OrbitBoxModel" (251 : Nat) "OrbitBoxModel" "accepted" "I") ∈ ob_g := ob_w5 146 rfl rfl
theorem w_1107 : (Cond.fieldLink "OrbitBoxModel" (20 : Nat) "OrbitBoxModel" "rest" "[Z") ∈ ob_g := ob_w5 147 rfl rfl
theorem w_1108 : (Cond.fieldLink "OrbitBoxModel" (23 : Nat) "OrbitBoxModel" "gate" "I") ∈ ob_g := ob_w5 148 rfl rfl
theorem w_1109 : (Cond.fieldLink "OrbitBoxModel" (238 : Nat) "OrbitBoxModel" "next" "I") ∈ ob_g := ob_w5 149 rfl rfl
theorem w_1110 : (Cond.fieldLink "OrbitBoxModel" (235 : Nat) "OrbitBoxModel" "beside" "I") ∈ ob_g := ob_w5 150 rfl rfl
theorem w_1111 : (Cond.fieldLink "OrbitBoxModel" (248 : Nat) "OrbitBoxModel" "waits" "Z") ∈ ob_g := ob_w5 151 rfl rfl
theorem w_1112 : (Cond.fieldLink "OrbitBoxModel" (245 : Nat) "OrbitBoxModel" "again" "Z") ∈ ob_g := ob_w5 152 rfl rfl
theorem w_1113 : (Cond.fieldLink "OrbitBoxModel" (27 : Nat) "OrbitBoxModel" "queue" "[B") ∈ ob_g := ob_w5 153 rfl rfl
theorem w_1114 : (Cond.fieldLink "OrbitBoxModel" (30 : Nat) "OrbitBoxModel" "queueBytes" "[I") ∈ ob_g := ob_w5 154 rfl rfl
theorem w_1115 : (Cond.fieldLink "OrbitBoxModel" (229 : Nat) "OrbitBoxModel" "queued" "I") ∈ ob_g := ob_w5 155 rfl rfl
theorem w_1116 : (Cond.fieldLink "OrbitBoxModel" (34 : Nat) "OrbitBoxModel" "command" "[B") ∈ ob_g := ob_w5 156 rfl rfl
theorem w_1117 : (Cond.fieldLink "OrbitBoxModel" (258 : Nat) "OrbitBoxModel" "commandBytes" "I") ∈ ob_g := ob_w5 157 rfl rfl
theorem w_1118 : (Cond.fieldLink "OrbitBoxModel" (279 : Nat) "OrbitBoxModel" "handled" "I") ∈ ob_g := ob_w5 158 rfl rfl
theorem w_1119 : (Cond.fieldLink "OrbitBoxModel" (285 : Nat) "OrbitBoxModel" "failed" "I") ∈ ob_g := ob_w5 159 rfl rfl
theorem w_1120 : (Cond.fieldLink "OrbitBoxModel" (37 : Nat) "OrbitBoxModel" "formThere" "[Z") ∈ ob_g := ob_w5 160 rfl rfl
theorem w_1121 : (Cond.fieldLink "OrbitBoxModel" (40 : Nat) "OrbitBoxModel" "formOn" "[Z") ∈ ob_g := ob_w5 161 rfl rfl
theorem w_1122 : (Cond.fieldLink "OrbitBoxModel" (43 : Nat) "OrbitBoxModel" "formEvery" "[I") ∈ ob_g := ob_w5 162 rfl rfl
theorem w_1123 : (Cond.fieldLink "OrbitBoxModel" (46 : Nat) "OrbitBoxModel" "formSize" "[I") ∈ ob_g := ob_w5 163 rfl rfl
theorem w_1124 : (Cond.fieldLink "OrbitBoxModel" (49 : Nat) "OrbitBoxModel" "formIs" "[I") ∈ ob_g := ob_w5 164 rfl rfl
theorem w_1125 : (Cond.fieldLink "OrbitBoxModel" (345 : Nat) "OrbitBoxModel" "forms" "I") ∈ ob_g := ob_w5 165 rfl rfl
theorem w_1126 : (Cond.fieldLink "OrbitBoxModel" (52 : Nat) "OrbitBoxModel" "memory" "[B") ∈ ob_g := ob_w5 166 rfl rfl
theorem w_1127 : (Cond.fieldLink "OrbitBoxModel" (55 : Nat) "OrbitBoxModel" "sensor" "[I") ∈ ob_g := ob_w5 167 rfl rfl
theorem w_1128 : (Cond.fieldLink "OrbitBoxModel" (58 : Nat) "OrbitBoxModel" "actuator" "[I") ∈ ob_g := ob_w5 168 rfl rfl
theorem w_1129 : (Cond.fieldLink "OrbitBoxModel" (61 : Nat) "OrbitBoxModel" "mode" "I") ∈ ob_g := ob_w5 169 rfl rfl
theorem w_1130 : (Cond.fieldLink "OrbitBoxModel" (372 : Nat) "OrbitBoxModel" "clock" "I") ∈ ob_g := ob_w5 170 rfl rfl
theorem w_1131 : (Cond.fieldLink "OrbitBoxModel" (64 : Nat) "OrbitBoxModel" "entryTime" "[I") ∈ ob_g := ob_w5 171 rfl rfl
theorem w_1132 : (Cond.fieldLink "OrbitBoxModel" (67 : Nat) "OrbitBoxModel" "entryBytes" "[I") ∈ ob_g := ob_w5 172 rfl rfl
theorem w_1133 : (Cond.fieldLink "OrbitBoxModel" (70 : Nat) "OrbitBoxModel" "entryCommand" "[B") ∈ ob_g := ob_w5 173 rfl rfl
theorem w_1134 : (Cond.fieldLink "OrbitBoxModel" (369 : Nat) "OrbitBoxModel" "entries" "I") ∈ ob_g := ob_w5 174 rfl rfl
theorem w_1135 : (Cond.fieldLink "OrbitBoxModel" (380 : Nat) "OrbitBoxModel" "tableOn" "Z") ∈ ob_g := ob_w5 175 rfl rfl
theorem w_1136 : (Cond.fieldLink "OrbitBoxModel" (73 : Nat) "OrbitBoxModel" "limitThere" "[Z") ∈ ob_g := ob_w5 176 rfl rfl
theorem w_1137 : (Cond.fieldLink "OrbitBoxModel" (76 : Nat) "OrbitBoxModel" "limitOn" "[Z") ∈ ob_g := ob_w5 177 rfl rfl
theorem w_1138 : (Cond.fieldLink "OrbitBoxModel" (79 : Nat) "OrbitBoxModel" "limitOf" "[I") ∈ ob_g := ob_w5 178 rfl rfl
theorem w_1139 : (Cond.fieldLink "OrbitBoxModel" (82 : Nat) "OrbitBoxModel" "limitTimes" "[I") ∈ ob_g := ob_w5 179 rfl rfl
theorem w_1140 : (Cond.fieldLink "OrbitBoxModel" (85 : Nat) "OrbitBoxModel" "limitLow" "[I") ∈ ob_g := ob_w5 180 rfl rfl
theorem w_1141 : (Cond.fieldLink "OrbitBoxModel" (88 : Nat) "OrbitBoxModel" "limitHigh" "[I") ∈ ob_g := ob_w5 181 rfl rfl
theorem w_1142 : (Cond.fieldLink "OrbitBoxModel" (91 : Nat) "OrbitBoxModel" "limitEvent" "[I") ∈ ob_g := ob_w5 182 rfl rfl
theorem w_1143 : (Cond.fieldLink "OrbitBoxModel" (94 : Nat) "OrbitBoxModel" "limitLink" "[I") ∈ ob_g := ob_w5 183 rfl rfl
theorem w_1144 : (Cond.fieldLink "OrbitBoxModel" (97 : Nat) "OrbitBoxModel" "limitCount" "[I") ∈ ob_g := ob_w5 184 rfl rfl
theorem w_1145 : (Cond.fieldLink "OrbitBoxModel" (389 : Nat) "OrbitBoxModel" "limits" "I") ∈ ob_g := ob_w5 185 rfl rfl
theorem w_1146 : (Cond.fieldLink "OrbitBoxModel" (392 : Nat) "OrbitBoxModel" "broken" "I") ∈ ob_g := ob_w5 186 rfl rfl
theorem w_1147 : (Cond.fieldLink "OrbitBoxModel" (398 : Nat) "OrbitBoxModel" "alarm" "I") ∈ ob_g := ob_w5 187 rfl rfl
theorem w_1148 : (Cond.fieldLink "OrbitBoxModel" (395 : Nat) "OrbitBoxModel" "alarmed" "Z") ∈ ob_g := ob_w5 188 rfl rfl
theorem w_1149 : (Cond.fieldLink "OrbitBoxModel" (100 : Nat) "OrbitBoxModel" "told" "[Z") ∈ ob_g := ob_w5 189 rfl rfl
theorem w_1150 : (Cond.fieldLink "OrbitBoxModel" (103 : Nat) "OrbitBoxModel" "actionThere" "[Z") ∈ ob_g := ob_w5 190 rfl rfl
theorem w_1151 : (Cond.fieldLink "OrbitBoxModel" (106 : Nat) "OrbitBoxModel" "actionOn" "[Z") ∈ ob_g := ob_w5 191 rfl rfl
theorem w_1152 : (Cond.fieldLink "OrbitBoxModel" (109 : Nat) "OrbitBoxModel" "actionCommand" "[B") ∈ ob_g := ob_w5 192 rfl rfl
theorem w_1153 : (Cond.fieldLink "OrbitBoxModel" (112 : Nat) "OrbitBoxModel" "actionBytes" "[I") ∈ ob_g := ob_w5 193 rfl rfl
theorem w_1154 : (Cond.fieldLink "OrbitBoxModel" (115 : Nat) "OrbitBoxModel" "raisedEvent" "[I") ∈ ob_g := ob_w5 194 rfl rfl
theorem w_1155 : (Cond.fieldLink "OrbitBoxModel" (118 : Nat) "OrbitBoxModel" "raisedWith" "[I") ∈ ob_g := ob_w5 195 rfl rfl
theorem w_1156 : (Cond.fieldLink "OrbitBoxModel" (401 : Nat) "OrbitBoxModel" "raised" "I") ∈ ob_g := ob_w5 196 rfl rfl
theorem w_1157 : (Cond.fieldLink "OrbitBoxModel" (404 : Nat) "OrbitBoxModel" "eventsLost" "I") ∈ ob_g := ob_w5 197 rfl rfl
theorem w_1158 : (Cond.fieldLink "OrbitBoxModel" (121 : Nat) "OrbitBoxModel" "packet" "[B") ∈ ob_g := ob_w5 198 rfl rfl
theorem w_1159 : (Cond.fieldLink "OrbitBoxModel" (414 : Nat) "OrbitBoxModel" "packetBytes" "I") ∈ ob_g := ob_w5 199 rfl rfl
theorem w_1160 : (Cond.fieldLink "OrbitBoxModel" (418 : Nat) "OrbitBoxModel" "reports" "I") ∈ ob_g := ob_w5 200 rfl rfl
theorem w_1161 : (Cond.fieldLink "OrbitBoxModel" (425 : Nat) "OrbitBoxModel" "reportsLost" "I") ∈ ob_g := ob_w5 201 rfl rfl
theorem w_1162 : (Cond.fieldLink "OrbitBoxModel" (124 : Nat) "OrbitBoxModel" "reportsOf" "[I") ∈ ob_g := ob_w5 202 rfl rfl
theorem w_1163 : (Cond.fieldLink "OrbitBoxModel" (127 : Nat) "OrbitBoxModel" "stored" "[Z") ∈ ob_g := ob_w5 203 rfl rfl
theorem w_1164 : (Cond.fieldLink "OrbitBoxModel" (130 : Nat) "OrbitBoxModel" "store" "[B") ∈ ob_g := ob_w5 204 rfl rfl
theorem w_1165 : (Cond.fieldLink "OrbitBoxModel" (133 : Nat) "OrbitBoxModel" "keptBytes" "[I") ∈ ob_g := ob_w5 205 rfl rfl
theorem w_1166 : (Cond.fieldLink "OrbitBoxModel" (136 : Nat) "OrbitBoxModel" "keptTime" "[I") ∈ ob_g := ob_w5 206 rfl rfl
theorem w_1167 : (Cond.fieldLink "OrbitBoxModel" (443 : Nat) "OrbitBoxModel" "kept" "I") ∈ ob_g := ob_w5 207 rfl rfl
theorem w_1168 : (Cond.fieldLink "OrbitBoxModel" (431 : Nat) "OrbitBoxModel" "storeBytes" "I") ∈ ob_g := ob_w5 208 rfl rfl
theorem w_1169 : (Cond.fieldLink "OrbitBoxModel" (449 : Nat) "OrbitBoxModel" "retrieving" "Z") ∈ ob_g := ob_w5 209 rfl rfl
theorem w_1170 : (Cond.fieldLink "OrbitBoxModel" (452 : Nat) "OrbitBoxModel" "from" "I") ∈ ob_g := ob_w5 210 rfl rfl
theorem w_1171 : (Cond.fieldLink "OrbitBoxModel" (455 : Nat) "OrbitBoxModel" "to" "I") ∈ ob_g := ob_w5 211 rfl rfl
theorem w_1172 : (Cond.fieldLink "OrbitBoxModel" (446 : Nat) "OrbitBoxModel" "reached" "I") ∈ ob_g := ob_w5 212 rfl rfl
theorem w_1173 : (Cond.fieldLink "OrbitBoxModel" (141 : Nat) "OrbitBoxModel" "row" "[[B") ∈ ob_g := ob_w5 213 rfl rfl
theorem w_1174 : (Cond.fieldLink "OrbitBoxModel" (146 : Nat) "OrbitBoxModel" "begins" "[[Z") ∈ ob_g := ob_w5 214 rfl rfl
theorem w_1175 : (Cond.fieldLink "OrbitBoxModel" (149 : Nat) "OrbitBoxModel" "wait" "[I") ∈ ob_g := ob_w5 215 rfl rfl
theorem w_1176 : (Cond.fieldLink "OrbitBoxModel" (152 : Nat) "OrbitBoxModel" "frames" "[B") ∈ ob_g := ob_w5 216 rfl rfl
theorem w_1177 : (Cond.fieldLink "OrbitBoxModel" (487 : Nat) "OrbitBoxModel" "framesThere" "I") ∈ ob_g := ob_w5 217 rfl rfl
theorem w_1178 : (Cond.fieldLink "OrbitBoxModel" (461 : Nat) "OrbitBoxModel" "framesBefore" "I") ∈ ob_g := ob_w5 218 rfl rfl
theorem w_1179 : (Cond.fieldLink "OrbitBoxModel" (155 : Nat) "OrbitBoxModel" "framesOf" "[I") ∈ ob_g := ob_w5 219 rfl rfl
