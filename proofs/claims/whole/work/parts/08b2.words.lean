-- words
theorem w_244 : (Cond.classLink "OrbitBox" (66 : Nat) "OrbitBox$Downlink") ∈ ob_g := ob_w2 4 rfl rfl
theorem w_245 : (Cond.instantiable "OrbitBox$Downlink" (7 : Nat)) ∈ ob_g := ob_w2 5 rfl rfl
theorem w_246 : (Cond.methodLink "OrbitBox" (68 : Nat) ({ cls := "OrbitBox$Downlink", name := "<init>", desc := "(II)V" } : MethodName)) ∈ ob_g := ob_w2 6 rfl rfl
theorem w_247 : (Cond.instanceMethod ({ cls := "OrbitBox$Downlink", name := "<init>", desc := "(II)V" } : MethodName)) ∈ ob_g := ob_w2 7 rfl rfl
theorem w_248 : (Cond.code ({ cls := "OrbitBox$Downlink", name := "<init>", desc := "(II)V" } : MethodName) prog_3_method_1_code (4 : Nat) (Option.none : Option FieldType)) ∈ ob_g := ob_w2 8 rfl rfl
theorem w_249 : (Cond.methodLink "OrbitBox$Downlink" (3 : Nat) ({ cls := "java/lang/Object", name := "<init>", desc := "()V" } : MethodName)) ∈ ob_g := ob_w2 9 rfl rfl
theorem w_250 : (Cond.classLink "OrbitBox$Downlink" (15 : Nat) "OrbitBox$Ring") ∈ ob_g := ob_w2 10 rfl rfl
theorem w_251 : (Cond.methodLink "OrbitBox$Downlink" (17 : Nat) ({ cls := "OrbitBox$Ring", name := "<init>", desc := "(I)V" } : MethodName)) ∈ ob_g := ob_w2 11 rfl rfl
theorem w_252 : (Cond.classLink "OrbitBox$Downlink" (31 : Nat) "OrbitBox$Row") ∈ ob_g := ob_w2 12 rfl rfl
theorem w_253 : (Cond.methodLink "OrbitBox$Downlink" (37 : Nat) ({ cls := "OrbitBox$Row", name := "<init>", desc := "(I)V" } : MethodName)) ∈ ob_g := ob_w2 13 rfl rfl
theorem w_254 : (Cond.fieldLink "OrbitBox$Downlink" (20 : Nat) "OrbitBox$Downlink" "live" "LOrbitBox$Ring;") ∈ ob_g := ob_w2 14 rfl rfl
theorem w_256 : (Cond.fieldLink "OrbitBox$Downlink" (24 : Nat) "OrbitBox$Downlink" "replay" "LOrbitBox$Ring;") ∈ ob_g := ob_w2 16 rfl rfl
theorem w_258 : (Cond.fieldLink "OrbitBox$Downlink" (33 : Nat) "OrbitBox$Downlink" "frames" "[LOrbitBox$Row;") ∈ ob_g := ob_w2 18 rfl rfl
theorem w_260 : (Cond.fieldLink "OrbitBox$Downlink" (9 : Nat) "OrbitBox$Downlink" "frameLength" "I") ∈ ob_g := ob_w2 20 rfl rfl
theorem w_262 : (Cond.fieldLink "OrbitBox$Downlink" (27 : Nat) "OrbitBox$Downlink" "sentOf" "[I") ∈ ob_g := ob_w2 22 rfl rfl
theorem w_263 : (Cond.fieldLink "OrbitBox$Downlink" (55 : Nat) "OrbitBox$Downlink" "sentInAll" "I") ∈ ob_g := ob_w2 23 rfl rfl
theorem w_264 : (Cond.fieldLink "OrbitBox$Downlink" (45 : Nat) "OrbitBox$Downlink" "sent" "I") ∈ ob_g := ob_w2 24 rfl rfl
theorem w_281 : (Cond.classLink "OrbitBox" (73 : Nat) "OrbitBox$Reports") ∈ ob_g := ob_w2 41 rfl rfl
theorem w_282 : (Cond.instantiable "OrbitBox$Reports" (12 : Nat)) ∈ ob_g := ob_w2 42 rfl rfl
theorem w_283 : (Cond.methodLink "OrbitBox" (79 : Nat) ({ cls := "OrbitBox$Reports", name := "<init>", desc := "(LOrbitBox$Ring;I)V" } : MethodName)) ∈ ob_g := ob_w2 43 rfl rfl
theorem w_284 : (Cond.instanceMethod ({ cls := "OrbitBox$Reports", name := "<init>", desc := "(LOrbitBox$Ring;I)V" } : MethodName)) ∈ ob_g := ob_w2 44 rfl rfl
theorem w_285 : (Cond.code ({ cls := "OrbitBox$Reports", name := "<init>", desc := "(LOrbitBox$Ring;I)V" } : MethodName) prog_8_method_1_code (3 : Nat) (Option.none : Option FieldType)) ∈ ob_g := ob_w2 45 rfl rfl
theorem w_286 : (Cond.methodLink "OrbitBox$Reports" (3 : Nat) ({ cls := "java/lang/Object", name := "<init>", desc := "()V" } : MethodName)) ∈ ob_g := ob_w2 46 rfl rfl
theorem w_287 : (Cond.classLink "OrbitBox$Reports" (15 : Nat) "OrbitBox$Ring") ∈ ob_g := ob_w2 47 rfl rfl
theorem w_288 : (Cond.methodLink "OrbitBox$Reports" (17 : Nat) ({ cls := "OrbitBox$Ring", name := "<init>", desc := "(I)V" } : MethodName)) ∈ ob_g := ob_w2 48 rfl rfl
theorem w_289 : (Cond.classLink "OrbitBox$Reports" (23 : Nat) "OrbitBox$Row") ∈ ob_g := ob_w2 49 rfl rfl
theorem w_290 : (Cond.methodLink "OrbitBox$Reports" (25 : Nat) ({ cls := "OrbitBox$Row", name := "<init>", desc := "(I)V" } : MethodName)) ∈ ob_g := ob_w2 50 rfl rfl
theorem w_291 : (Cond.fieldLink "OrbitBox$Reports" (9 : Nat) "OrbitBox$Reports" "live" "LOrbitBox$Ring;") ∈ ob_g := ob_w2 51 rfl rfl
theorem w_293 : (Cond.fieldLink "OrbitBox$Reports" (20 : Nat) "OrbitBox$Reports" "store" "LOrbitBox$Ring;") ∈ ob_g := ob_w2 53 rfl rfl
theorem w_295 : (Cond.fieldLink "OrbitBox$Reports" (26 : Nat) "OrbitBox$Reports" "packet" "LOrbitBox$Row;") ∈ ob_g := ob_w2 55 rfl rfl
theorem w_296 : (Cond.fieldLink "OrbitBox$Reports" (30 : Nat) "OrbitBox$Reports" "stored" "[Z") ∈ ob_g := ob_w2 56 rfl rfl
theorem w_298 : (Cond.fieldLink "OrbitBox$Reports" (34 : Nat) "OrbitBox$Reports" "made" "[I") ∈ ob_g := ob_w2 58 rfl rfl
theorem w_299 : (Cond.fieldLink "OrbitBox$Reports" (47 : Nat) "OrbitBox$Reports" "madeInAll" "I") ∈ ob_g := ob_w2 59 rfl rfl
theorem w_301 : (Cond.fieldLink "OrbitBox$Reports" (62 : Nat) "OrbitBox$Reports" "lost" "I") ∈ ob_g := ob_w2 61 rfl rfl
theorem w_303 : (Cond.fieldLink "OrbitBox$Reports" (75 : Nat) "OrbitBox$Reports" "packets" "I") ∈ ob_g := ob_w2 63 rfl rfl
theorem w_304 : (Cond.fieldLink "OrbitBox$Reports" (91 : Nat) "OrbitBox$Reports" "retrieving" "Z") ∈ ob_g := ob_w2 64 rfl rfl
theorem w_307 : (Cond.fieldLink "OrbitBox$Reports" (95 : Nat) "OrbitBox$Reports" "retrieveFrom" "I") ∈ ob_g := ob_w2 67 rfl rfl
theorem w_308 : (Cond.fieldLink "OrbitBox$Reports" (98 : Nat) "OrbitBox$Reports" "retrieveTo" "I") ∈ ob_g := ob_w2 68 rfl rfl
theorem w_309 : (Cond.fieldLink "OrbitBox$Reports" (88 : Nat) "OrbitBox$Reports" "retrieveNext" "I") ∈ ob_g := ob_w2 69 rfl rfl
theorem w_335 : (Cond.classLink "OrbitBox" (86 : Nat) "OrbitBox$Craft") ∈ ob_g := ob_w2 95 rfl rfl
theorem w_336 : (Cond.instantiable "OrbitBox$Craft" (13 : Nat)) ∈ ob_g := ob_w2 96 rfl rfl
theorem w_337 : (Cond.methodLink "OrbitBox" (88 : Nat) ({ cls := "OrbitBox$Craft", name := "<init>", desc := "(ILOrbitBox$Receiver;LOrbitBox$Gate;LOrbitBox$Timetable;LOrbitBox$Events;LOrbitBox$Reports;)V" } : MethodName)) ∈ ob_g := ob_w2 97 rfl rfl
theorem w_338 : (Cond.instanceMethod ({ cls := "OrbitBox$Craft", name := "<init>", desc := "(ILOrbitBox$Receiver;LOrbitBox$Gate;LOrbitBox$Timetable;LOrbitBox$Events;LOrbitBox$Reports;)V" } : MethodName)) ∈ ob_g := ob_w2 98 rfl rfl
theorem w_339 : (Cond.code ({ cls := "OrbitBox$Craft", name := "<init>", desc := "(ILOrbitBox$Receiver;LOrbitBox$Gate;LOrbitBox$Timetable;LOrbitBox$Events;LOrbitBox$Reports;)V" } : MethodName) prog_2_method_1_code (7 : Nat) (Option.none : Option FieldType)) ∈ ob_g := ob_w2 99 rfl rfl
theorem w_340 : (Cond.methodLink "OrbitBox$Craft" (3 : Nat) ({ cls := "java/lang/Object", name := "<init>", desc := "()V" } : MethodName)) ∈ ob_g := ob_w2 100 rfl rfl
theorem w_341 : (Cond.fieldLink "OrbitBox$Craft" (9 : Nat) "OrbitBox$Craft" "patience" "I") ∈ ob_g := ob_w2 101 rfl rfl
theorem w_342 : (Cond.fieldLink "OrbitBox$Craft" (15 : Nat) "OrbitBox$Craft" "receiver" "LOrbitBox$Receiver;") ∈ ob_g := ob_w2 102 rfl rfl
theorem w_344 : (Cond.fieldLink "OrbitBox$Craft" (19 : Nat) "OrbitBox$Craft" "gate" "LOrbitBox$Gate;") ∈ ob_g := ob_w2 104 rfl rfl
theorem w_346 : (Cond.fieldLink "OrbitBox$Craft" (23 : Nat) "OrbitBox$Craft" "timetable" "LOrbitBox$Timetable;") ∈ ob_g := ob_w2 106 rfl rfl
theorem w_348 : (Cond.fieldLink "OrbitBox$Craft" (27 : Nat) "OrbitBox$Craft" "events" "LOrbitBox$Events;") ∈ ob_g := ob_w2 108 rfl rfl
theorem w_349 : (Cond.fieldLink "OrbitBox$Craft" (31 : Nat) "OrbitBox$Craft" "reports" "LOrbitBox$Reports;") ∈ ob_g := ob_w2 109 rfl rfl
theorem w_351 : (Cond.fieldLink "OrbitBox$Craft" (35 : Nat) "OrbitBox$Craft" "wires" "[I") ∈ ob_g := ob_w2 111 rfl rfl
theorem w_353 : (Cond.fieldLink "OrbitBox$Craft" (39 : Nat) "OrbitBox$Craft" "mode" "I") ∈ ob_g := ob_w2 113 rfl rfl
theorem w_356 : (Cond.fieldLink "OrbitBox$Craft" (45 : Nat) "OrbitBox$Craft" "clock" "I") ∈ ob_g := ob_w2 116 rfl rfl
theorem w_358 : (Cond.fieldLink "OrbitBox$Craft" (42 : Nat) "OrbitBox$Craft" "alarm" "I") ∈ ob_g := ob_w2 118 rfl rfl
theorem w_360 : (Cond.fieldLink "OrbitBox$Craft" (75 : Nat) "OrbitBox$Craft" "handled" "I") ∈ ob_g := ob_w2 120 rfl rfl
theorem w_362 : (Cond.fieldLink "OrbitBox$Craft" (78 : Nat) "OrbitBox$Craft" "failed" "I") ∈ ob_g := ob_w2 122 rfl rfl
theorem w_364 : (Cond.fieldLink "OrbitBox$Craft" (99 : Nat) "OrbitBox$Craft" "broken" "I") ∈ ob_g := ob_w2 124 rfl rfl
theorem w_392 : (Cond.classLink "OrbitBox" (95 : Nat) "OrbitBox$Handler") ∈ ob_g := ob_w2 152 rfl rfl
theorem w_393 : (Cond.instantiable "OrbitBox$Handler" (9 : Nat)) ∈ ob_g := ob_w2 153 rfl rfl
theorem w_394 : (Cond.methodLink "OrbitBox" (97 : Nat) ({ cls := "OrbitBox$Handler", name := "<init>", desc := "(LOrbitBox$Craft;LOrbitBox$Table;LOrbitBox$Table;LOrbitBox$Row;)V" } : MethodName)) ∈ ob_g := ob_w2 154 rfl rfl
theorem w_395 : (Cond.instanceMethod ({ cls := "OrbitBox$Handler", name := "<init>", desc := "(LOrbitBox$Craft;LOrbitBox$Table;LOrbitBox$Table;LOrbitBox$Row;)V" } : MethodName)) ∈ ob_g := ob_w2 155 rfl rfl
theorem w_396 : (Cond.code ({ cls := "OrbitBox$Handler", name := "<init>", desc := "(LOrbitBox$Craft;LOrbitBox$Table;LOrbitBox$Table;LOrbitBox$Row;)V" } : MethodName) prog_6_method_1_code (5 : Nat) (Option.none : Option FieldType)) ∈ ob_g := ob_w2 156 rfl rfl
theorem w_397 : (Cond.methodLink "OrbitBox$Handler" (3 : Nat) ({ cls := "java/lang/Object", name := "<init>", desc := "()V" } : MethodName)) ∈ ob_g := ob_w2 157 rfl rfl
theorem w_398 : (Cond.classLink "OrbitBox$Handler" (48 : Nat) "OrbitBox$Row") ∈ ob_g := ob_w2 158 rfl rfl
theorem w_399 : (Cond.methodLink "OrbitBox$Handler" (50 : Nat) ({ cls := "OrbitBox$Row", name := "<init>", desc := "(I)V" } : MethodName)) ∈ ob_g := ob_w2 159 rfl rfl
theorem w_400 : (Cond.fieldLink "OrbitBox$Handler" (9 : Nat) "OrbitBox$Handler" "craft" "LOrbitBox$Craft;") ∈ ob_g := ob_w2 160 rfl rfl
theorem w_401 : (Cond.fieldLink "OrbitBox$Handler" (21 : Nat) "OrbitBox$Handler" "gate" "LOrbitBox$Gate;") ∈ ob_g := ob_w2 161 rfl rfl
theorem w_402 : (Cond.fieldLink "OrbitBox$Handler" (26 : Nat) "OrbitBox$Handler" "timetable" "LOrbitBox$Timetable;") ∈ ob_g := ob_w2 162 rfl rfl
theorem w_403 : (Cond.fieldLink "OrbitBox$Handler" (31 : Nat) "OrbitBox$Handler" "events" "LOrbitBox$Events;") ∈ ob_g := ob_w2 163 rfl rfl
theorem w_404 : (Cond.fieldLink "OrbitBox$Handler" (36 : Nat) "OrbitBox$Handler" "reports" "LOrbitBox$Reports;") ∈ ob_g := ob_w2 164 rfl rfl
theorem w_405 : (Cond.fieldLink "OrbitBox$Handler" (37 : Nat) "OrbitBox$Handler" "forms" "LOrbitBox$Table;") ∈ ob_g := ob_w2 165 rfl rfl
theorem w_406 : (Cond.fieldLink "OrbitBox$Handler" (41 : Nat) "OrbitBox$Handler" "limits" "LOrbitBox$Table;") ∈ ob_g := ob_w2 166 rfl rfl
theorem w_407 : (Cond.fieldLink "OrbitBox$Handler" (44 : Nat) "OrbitBox$Handler" "memory" "LOrbitBox$Row;") ∈ ob_g := ob_w2 167 rfl rfl
theorem w_408 : (Cond.fieldLink "OrbitBox$Handler" (53 : Nat) "OrbitBox$Handler" "command" "LOrbitBox$Row;") ∈ ob_g := ob_w2 168 rfl rfl
theorem w_428 : (Cond.fieldLink "OrbitBox" (14 : Nat) "OrbitBox" "tape" "LOrbitBox$Row;") ∈ ob_g := ob_w2 188 rfl rfl
theorem w_429 : (Cond.fieldLink "OrbitBox" (18 : Nat) "OrbitBox" "memory" "LOrbitBox$Row;") ∈ ob_g := ob_w2 189 rfl rfl
theorem w_430 : (Cond.fieldLink "OrbitBox" (28 : Nat) "OrbitBox" "receiver" "LOrbitBox$Receiver;") ∈ ob_g := ob_w2 190 rfl rfl
theorem w_431 : (Cond.fieldLink "OrbitBox" (35 : Nat) "OrbitBox" "gate" "LOrbitBox$Gate;") ∈ ob_g := ob_w2 191 rfl rfl
theorem w_432 : (Cond.fieldLink "OrbitBox" (46 : Nat) "OrbitBox" "timetable" "LOrbitBox$Timetable;") ∈ ob_g := ob_w2 192 rfl rfl
theorem w_433 : (Cond.fieldLink "OrbitBox" (53 : Nat) "OrbitBox" "events" "LOrbitBox$Events;") ∈ ob_g := ob_w2 193 rfl rfl
theorem w_434 : (Cond.fieldLink "OrbitBox" (62 : Nat) "OrbitBox" "limits" "LOrbitBox$Table;") ∈ ob_g := ob_w2 194 rfl rfl
theorem w_435 : (Cond.fieldLink "OrbitBox" (69 : Nat) "OrbitBox" "downlink" "LOrbitBox$Downlink;") ∈ ob_g := ob_w2 195 rfl rfl
theorem w_436 : (Cond.fieldLink "OrbitBox" (82 : Nat) "OrbitBox" "reports" "LOrbitBox$Reports;") ∈ ob_g := ob_w2 196 rfl rfl
theorem w_437 : (Cond.fieldLink "OrbitBox" (91 : Nat) "OrbitBox" "craft" "LOrbitBox$Craft;") ∈ ob_g := ob_w2 197 rfl rfl
theorem w_438 : (Cond.fieldLink "OrbitBox" (100 : Nat) "OrbitBox" "handler" "LOrbitBox$Handler;") ∈ ob_g := ob_w2 198 rfl rfl
theorem w_462 : (Cond.methodLink "OrbitBoxLaw" (34 : Nat) ({ cls := "OrbitBox", name := "feed", desc := "(IIIII)Z" } : MethodName)) ∈ ob_g := ob_w2 222 rfl rfl
theorem w_463 : (Cond.instanceMethod ({ cls := "OrbitBox", name := "feed", desc := "(IIIII)Z" } : MethodName)) ∈ ob_g := ob_w2 223 rfl rfl
theorem w_464 : (Cond.selects "OrbitBox" ({ cls := "OrbitBox", name := "feed", desc := "(IIIII)Z" } : MethodName) ({ cls := "OrbitBox", name := "feed", desc := "(IIIII)Z" } : MethodName)) ∈ ob_g := ob_w2 224 rfl rfl
theorem w_465 : (Cond.code ({ cls := "OrbitBox", name := "feed", desc := "(IIIII)Z" } : MethodName) prog_1_method_2_code (6 : Nat) (Option.some FieldType.boolean)) ∈ ob_g := ob_w2 225 rfl rfl
theorem w_466 : (Cond.methodLink "OrbitBox" (104 : Nat) ({ cls := "OrbitBox$Row", name := "add", desc := "(II)V" } : MethodName)) ∈ ob_g := ob_w2 226 rfl rfl
theorem w_467 : (Cond.instanceMethod ({ cls := "OrbitBox$Row", name := "add", desc := "(II)V" } : MethodName)) ∈ ob_g := ob_w2 227 rfl rfl
theorem w_468 : (Cond.selects "OrbitBox$Row" ({ cls := "OrbitBox$Row", name := "add", desc := "(II)V" } : MethodName) ({ cls := "OrbitBox$Row", name := "add", desc := "(II)V" } : MethodName)) ∈ ob_g := ob_w2 228 rfl rfl
theorem w_469 : (Cond.code ({ cls := "OrbitBox$Row", name := "add", desc := "(II)V" } : MethodName) prog_10_method_3_code (4 : Nat) (Option.none : Option FieldType)) ∈ ob_g := ob_w2 229 rfl rfl
theorem w_470 : (Cond.methodLink "OrbitBoxLaw" (39 : Nat) ({ cls := "OrbitBox", name := "end", desc := "(I)Z" } : MethodName)) ∈ ob_g := ob_w2 230 rfl rfl
theorem w_471 : (Cond.instanceMethod ({ cls := "OrbitBox", name := "end", desc := "(I)Z" } : MethodName)) ∈ ob_g := ob_w2 231 rfl rfl
theorem w_472 : (Cond.selects "OrbitBox" ({ cls := "OrbitBox", name := "end", desc := "(I)Z" } : MethodName) ({ cls := "OrbitBox", name := "end", desc := "(I)Z" } : MethodName)) ∈ ob_g := ob_w2 232 rfl rfl
theorem w_473 : (Cond.code ({ cls := "OrbitBox", name := "end", desc := "(I)Z" } : MethodName) prog_1_method_3_code (2 : Nat) (Option.some FieldType.boolean)) ∈ ob_g := ob_w2 233 rfl rfl
theorem w_474 : (Cond.methodLink "OrbitBoxLaw" (44 : Nat) ({ cls := "OrbitBox", name := "uplink", desc := "()I" } : MethodName)) ∈ ob_g := ob_w2 234 rfl rfl
theorem w_475 : (Cond.instanceMethod ({ cls := "OrbitBox", name := "uplink", desc := "()I" } : MethodName)) ∈ ob_g := ob_w2 235 rfl rfl
theorem w_476 : (Cond.selects "OrbitBox" ({ cls := "OrbitBox", name := "uplink", desc := "()I" } : MethodName) ({ cls := "OrbitBox", name := "uplink", desc := "()I" } : MethodName)) ∈ ob_g := ob_w2 236 rfl rfl
theorem w_477 : (Cond.code ({ cls := "OrbitBox", name := "uplink", desc := "()I" } : MethodName) prog_1_method_4_code (5 : Nat) (Option.some FieldType.int)) ∈ ob_g := ob_w2 237 rfl rfl
theorem w_478 : (Cond.methodLink "OrbitBox" (107 : Nat) ({ cls := "OrbitBox$Row", name := "number", desc := "(II)I" } : MethodName)) ∈ ob_g := ob_w2 238 rfl rfl
theorem w_479 : (Cond.instanceMethod ({ cls := "OrbitBox$Row", name := "number", desc := "(II)I" } : MethodName)) ∈ ob_g := ob_w2 239 rfl rfl
