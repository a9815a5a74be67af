-- words
theorem w_1363 : (Cond.arrayClass FieldType.byte) ∈ ob_g := ob_w6 163 rfl rfl
theorem w_1364 : (Cond.methodLink "OrbitBoxLaw" (62 : Nat) ({ cls := "OrbitBoxModel", name := "thrown", desc := "()I" } : MethodName)) ∈ ob_g := ob_w6 164 rfl rfl
theorem w_1365 : (Cond.instanceMethod ({ cls := "OrbitBoxModel", name := "thrown", desc := "()I" } : MethodName)) ∈ ob_g := ob_w6 165 rfl rfl
theorem w_1366 : (Cond.selects "OrbitBoxModel" ({ cls := "OrbitBoxModel", name := "thrown", desc := "()I" } : MethodName) ({ cls := "OrbitBoxModel", name := "thrown", desc := "()I" } : MethodName)) ∈ ob_g := ob_w6 166 rfl rfl
theorem w_1367 : (Cond.code ({ cls := "OrbitBoxModel", name := "thrown", desc := "()I" } : MethodName) prog_14_method_60_code (1 : Nat) (Option.some FieldType.int)) ∈ ob_g := ob_w6 167 rfl rfl
theorem w_1368 : (Cond.methodLink "OrbitBoxLaw" (38 : Nat) ({ cls := "OrbitBoxModel", name := "feed", desc := "(IIIII)Z" } : MethodName)) ∈ ob_g := ob_w6 168 rfl rfl
theorem w_1369 : (Cond.instanceMethod ({ cls := "OrbitBoxModel", name := "feed", desc := "(IIIII)Z" } : MethodName)) ∈ ob_g := ob_w6 169 rfl rfl
theorem w_1370 : (Cond.selects "OrbitBoxModel" ({ cls := "OrbitBoxModel", name := "feed", desc := "(IIIII)Z" } : MethodName) ({ cls := "OrbitBoxModel", name := "feed", desc := "(IIIII)Z" } : MethodName)) ∈ ob_g := ob_w6 170 rfl rfl
theorem w_1371 : (Cond.code ({ cls := "OrbitBoxModel", name := "feed", desc := "(IIIII)Z" } : MethodName) prog_14_method_61_code (8 : Nat) (Option.some FieldType.boolean)) ∈ ob_g := ob_w6 171 rfl rfl
theorem w_1372 : (Cond.methodLink "OrbitBoxLaw" (43 : Nat) ({ cls := "OrbitBoxModel", name := "end", desc := "(I)Z" } : MethodName)) ∈ ob_g := ob_w6 172 rfl rfl
theorem w_1373 : (Cond.instanceMethod ({ cls := "OrbitBoxModel", name := "end", desc := "(I)Z" } : MethodName)) ∈ ob_g := ob_w6 173 rfl rfl
theorem w_1374 : (Cond.selects "OrbitBoxModel" ({ cls := "OrbitBoxModel", name := "end", desc := "(I)Z" } : MethodName) ({ cls := "OrbitBoxModel", name := "end", desc := "(I)Z" } : MethodName)) ∈ ob_g := ob_w6 174 rfl rfl
theorem w_1375 : (Cond.code ({ cls := "OrbitBoxModel", name := "end", desc := "(I)Z" } : MethodName) prog_14_method_62_code (2 : Nat) (Option.some FieldType.boolean)) ∈ ob_g := ob_w6 175 rfl rfl
theorem w_1376 : (Cond.methodLink "OrbitBoxLaw" (48 : Nat) ({ cls := "OrbitBoxModel", name := "uplink", desc := "()I" } : MethodName)) ∈ ob_g := ob_w6 176 rfl rfl
theorem w_1377 : (Cond.instanceMethod ({ cls := "OrbitBoxModel", name := "uplink", desc := "()I" } : MethodName)) ∈ ob_g := ob_w6 177 rfl rfl
theorem w_1378 : (Cond.selects "OrbitBoxModel" ({ cls := "OrbitBoxModel", name := "uplink", desc := "()I" } : MethodName) ({ cls := "OrbitBoxModel", name := "uplink", desc := "()I" } : MethodName)) ∈ ob_g := ob_w6 178 rfl rfl
theorem w_1379 : (Cond.code ({ cls := "OrbitBoxModel", name := "uplink", desc := "()I" } : MethodName) prog_14_method_63_code (4 : Nat) (Option.some FieldType.int)) ∈ ob_g := ob_w6 179 rfl rfl
theorem w_1380 : (Cond.methodLink "OrbitBoxModel" (474 : Nat) ({ cls := "OrbitBoxModel", name := "bit", desc := "(Z)V" } : MethodName)) ∈ ob_g := ob_w6 180 rfl rfl
theorem w_1382 : (Cond.instanceMethod ({ cls := "OrbitBoxModel", name := "bit", desc := "(Z)V" } : MethodName)) ∈ ob_g := ob_w6 182 rfl rfl
theorem w_1383 : (Cond.code ({ cls := "OrbitBoxModel", name := "bit", desc := "(Z)V" } : MethodName) prog_14_method_6_code (4 : Nat) (Option.none : Option FieldType)) ∈ ob_g := ob_w6 183 rfl rfl
theorem w_1384 : (Cond.methodLink "OrbitBoxModel" (191 : Nat) ({ cls := "OrbitBoxModel", name := "blockCame", desc := "()V" } : MethodName)) ∈ ob_g := ob_w6 184 rfl rfl
theorem w_1386 : (Cond.instanceMethod ({ cls := "OrbitBoxModel", name := "blockCame", desc := "()V" } : MethodName)) ∈ ob_g := ob_w6 186 rfl rfl
theorem w_1387 : (Cond.code ({ cls := "OrbitBoxModel", name := "blockCame", desc := "()V" } : MethodName) prog_14_method_8_code (5 : Nat) (Option.none : Option FieldType)) ∈ ob_g := ob_w6 187 rfl rfl
theorem w_1388 : (Cond.methodLink "OrbitBoxModel" (204 : Nat) ({ cls := "OrbitBoxModel", name := "divides", desc := "(I)Z" } : MethodName)) ∈ ob_g := ob_w6 188 rfl rfl
theorem w_1390 : (Cond.instanceMethod ({ cls := "OrbitBoxModel", name := "divides", desc := "(I)Z" } : MethodName)) ∈ ob_g := ob_w6 190 rfl rfl
theorem w_1391 : (Cond.code ({ cls := "OrbitBoxModel", name := "divides", desc := "(I)Z" } : MethodName) prog_14_method_7_code (3 : Nat) (Option.some FieldType.boolean)) ∈ ob_g := ob_w6 191 rfl rfl
theorem w_1392 : (Cond.methodLink "OrbitBoxModel" (211 : Nat) ({ cls := "OrbitBoxModel", name := "frameCame", desc := "()V" } : MethodName)) ∈ ob_g := ob_w6 192 rfl rfl
theorem w_1394 : (Cond.instanceMethod ({ cls := "OrbitBoxModel", name := "frameCame", desc := "()V" } : MethodName)) ∈ ob_g := ob_w6 194 rfl rfl
theorem w_1395 : (Cond.code ({ cls := "OrbitBoxModel", name := "frameCame", desc := "()V" } : MethodName) prog_14_method_10_code (5 : Nat) (Option.none : Option FieldType)) ∈ ob_g := ob_w6 195 rfl rfl
theorem w_1396 : (Cond.methodLink "OrbitBoxModel" (218 : Nat) ({ cls := "OrbitBoxModel", name := "valid", desc := "()Z" } : MethodName)) ∈ ob_g := ob_w6 196 rfl rfl
theorem w_1398 : (Cond.instanceMethod ({ cls := "OrbitBoxModel", name := "valid", desc := "()Z" } : MethodName)) ∈ ob_g := ob_w6 198 rfl rfl
theorem w_1399 : (Cond.code ({ cls := "OrbitBoxModel", name := "valid", desc := "()Z" } : MethodName) prog_14_method_9_code (6 : Nat) (Option.some FieldType.boolean)) ∈ ob_g := ob_w6 199 rfl rfl
theorem w_1400 : (Cond.methodLink "OrbitBoxModel" (180 : Nat) ({ cls := "OrbitBoxModel", name := "two", desc := "([BI)I" } : MethodName)) ∈ ob_g := ob_w6 200 rfl rfl
theorem w_1401 : (Cond.static ({ cls := "OrbitBoxModel", name := "two", desc := "([BI)I" } : MethodName)) ∈ ob_g := ob_w6 201 rfl rfl
theorem w_1402 : (Cond.code ({ cls := "OrbitBoxModel", name := "two", desc := "([BI)I" } : MethodName) prog_14_method_4_code (2 : Nat) (Option.some FieldType.int)) ∈ ob_g := ob_w6 202 rfl rfl
theorem w_1403 : (Cond.methodLink "OrbitBoxModel" (214 : Nat) ({ cls := "OrbitBoxModel", name := "check", desc := "([BII)I" } : MethodName)) ∈ ob_g := ob_w6 203 rfl rfl
theorem w_1404 : (Cond.static ({ cls := "OrbitBoxModel", name := "check", desc := "([BII)I" } : MethodName)) ∈ ob_g := ob_w6 204 rfl rfl
theorem w_1405 : (Cond.code ({ cls := "OrbitBoxModel", name := "check", desc := "([BII)I" } : MethodName) prog_14_method_3_code (6 : Nat) (Option.some FieldType.int)) ∈ ob_g := ob_w6 205 rfl rfl
theorem w_1406 : (Cond.constant "OrbitBoxModel" (177 : Nat) (65535 : Int32)) ∈ ob_g := ob_w6 206 rfl rfl
theorem w_1407 : (Cond.constant "OrbitBoxModel" (178 : Nat) (65536 : Int32)) ∈ ob_g := ob_w6 207 rfl rfl
theorem w_1408 : (Cond.constant "OrbitBoxModel" (179 : Nat) (69665 : Int32)) ∈ ob_g := ob_w6 208 rfl rfl
theorem w_1409 : (Cond.methodLink "OrbitBoxModel" (225 : Nat) ({ cls := "OrbitBoxModel", name := "controlCame", desc := "(I)V" } : MethodName)) ∈ ob_g := ob_w6 209 rfl rfl
theorem w_1411 : (Cond.instanceMethod ({ cls := "OrbitBoxModel", name := "controlCame", desc := "(I)V" } : MethodName)) ∈ ob_g := ob_w6 211 rfl rfl
theorem w_1412 : (Cond.code ({ cls := "OrbitBoxModel", name := "controlCame", desc := "(I)V" } : MethodName) prog_14_method_11_code (2 : Nat) (Option.none : Option FieldType)) ∈ ob_g := ob_w6 212 rfl rfl
theorem w_1413 : (Cond.methodLink "OrbitBoxModel" (232 : Nat) ({ cls := "OrbitBoxModel", name := "queueBody", desc := "(I)V" } : MethodName)) ∈ ob_g := ob_w6 213 rfl rfl
theorem w_1415 : (Cond.instanceMethod ({ cls := "OrbitBoxModel", name := "queueBody", desc := "(I)V" } : MethodName)) ∈ ob_g := ob_w6 215 rfl rfl
theorem w_1416 : (Cond.code ({ cls := "OrbitBoxModel", name := "queueBody", desc := "(I)V" } : MethodName) prog_14_method_13_code (3 : Nat) (Option.none : Option FieldType)) ∈ ob_g := ob_w6 216 rfl rfl
theorem w_1417 : (Cond.methodLink "OrbitBoxModel" (241 : Nat) ({ cls := "OrbitBoxModel", name := "numberedCame", desc := "(II)V" } : MethodName)) ∈ ob_g := ob_w6 217 rfl rfl
theorem w_1419 : (Cond.instanceMethod ({ cls := "OrbitBoxModel", name := "numberedCame", desc := "(II)V" } : MethodName)) ∈ ob_g := ob_w6 219 rfl rfl
theorem w_1420 : (Cond.code ({ cls := "OrbitBoxModel", name := "numberedCame", desc := "(II)V" } : MethodName) prog_14_method_12_code (3 : Nat) (Option.none : Option FieldType)) ∈ ob_g := ob_w6 220 rfl rfl
theorem w_1421 : (Cond.constant "OrbitBoxModel" (200 : Nat) (60304 : Int32)) ∈ ob_g := ob_w6 221 rfl rfl
theorem w_1422 : (Cond.methodLink "OrbitBoxLaw" (53 : Nat) ({ cls := "OrbitBoxModel", name := "sense", desc := "(II)Z" } : MethodName)) ∈ ob_g := ob_w6 222 rfl rfl
theorem w_1423 : (Cond.instanceMethod ({ cls := "OrbitBoxModel", name := "sense", desc := "(II)Z" } : MethodName)) ∈ ob_g := ob_w6 223 rfl rfl
theorem w_1424 : (Cond.selects "OrbitBoxModel" ({ cls := "OrbitBoxModel", name := "sense", desc := "(II)Z" } : MethodName) ({ cls := "OrbitBoxModel", name := "sense", desc := "(II)Z" } : MethodName)) ∈ ob_g := ob_w6 224 rfl rfl
theorem w_1425 : (Cond.code ({ cls := "OrbitBoxModel", name := "sense", desc := "(II)Z" } : MethodName) prog_14_method_64_code (3 : Nat) (Option.some FieldType.boolean)) ∈ ob_g := ob_w6 225 rfl rfl
theorem w_1426 : (Cond.methodLink "OrbitBoxLaw" (57 : Nat) ({ cls := "OrbitBoxModel", name := "tick", desc := "()I" } : MethodName)) ∈ ob_g := ob_w6 226 rfl rfl
theorem w_1427 : (Cond.instanceMethod ({ cls := "OrbitBoxModel", name := "tick", desc := "()I" } : MethodName)) ∈ ob_g := ob_w6 227 rfl rfl
theorem w_1428 : (Cond.selects "OrbitBoxModel" ({ cls := "OrbitBoxModel", name := "tick", desc := "()I" } : MethodName) ({ cls := "OrbitBoxModel", name := "tick", desc := "()I" } : MethodName)) ∈ ob_g := ob_w6 228 rfl rfl
theorem w_1429 : (Cond.code ({ cls := "OrbitBoxModel", name := "tick", desc := "()I" } : MethodName) prog_14_method_65_code (3 : Nat) (Option.some FieldType.int)) ∈ ob_g := ob_w6 229 rfl rfl
theorem w_1430 : (Cond.methodLink "OrbitBoxModel" (386 : Nat) ({ cls := "OrbitBoxModel", name := "due", desc := "(I)I" } : MethodName)) ∈ ob_g := ob_w6 230 rfl rfl
theorem w_1432 : (Cond.instanceMethod ({ cls := "OrbitBoxModel", name := "due", desc := "(I)I" } : MethodName)) ∈ ob_g := ob_w6 232 rfl rfl
theorem w_1433 : (Cond.code ({ cls := "OrbitBoxModel", name := "due", desc := "(I)I" } : MethodName) prog_14_method_33_code (5 : Nat) (Option.some FieldType.int)) ∈ ob_g := ob_w6 233 rfl rfl
theorem w_1434 : (Cond.methodLink "OrbitBoxModel" (407 : Nat) ({ cls := "OrbitBoxModel", name := "take", desc := "([BII)V" } : MethodName)) ∈ ob_g := ob_w6 234 rfl rfl
theorem w_1436 : (Cond.instanceMethod ({ cls := "OrbitBoxModel", name := "take", desc := "([BII)V" } : MethodName)) ∈ ob_g := ob_w6 236 rfl rfl
theorem w_1437 : (Cond.code ({ cls := "OrbitBoxModel", name := "take", desc := "([BII)V" } : MethodName) prog_14_method_16_code (5 : Nat) (Option.none : Option FieldType)) ∈ ob_g := ob_w6 237 rfl rfl
theorem w_1438 : (Cond.methodLink "OrbitBoxModel" (383 : Nat) ({ cls := "OrbitBoxModel", name := "dropEntry", desc := "(I)V" } : MethodName)) ∈ ob_g := ob_w6 238 rfl rfl
