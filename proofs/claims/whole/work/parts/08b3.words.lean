-- words
theorem w_480 : (Cond.selects "OrbitBox$Row" ({ cls := "OrbitBox$Row", name := "number", desc := "(II)I" } : MethodName) ({ cls := "OrbitBox$Row", name := "number", desc := "(II)I" } : MethodName)) ∈ ob_g := ob_w3 0 rfl rfl
theorem w_481 : (Cond.code ({ cls := "OrbitBox$Row", name := "number", desc := "(II)I" } : MethodName) prog_10_method_2_code (5 : Nat) (Option.some FieldType.int)) ∈ ob_g := ob_w3 1 rfl rfl
theorem w_482 : (Cond.methodLink "OrbitBox" (111 : Nat) ({ cls := "OrbitBox$Receiver", name := "hear", desc := "(I)Z" } : MethodName)) ∈ ob_g := ob_w3 2 rfl rfl
theorem w_483 : (Cond.instanceMethod ({ cls := "OrbitBox$Receiver", name := "hear", desc := "(I)Z" } : MethodName)) ∈ ob_g := ob_w3 3 rfl rfl
theorem w_484 : (Cond.selects "OrbitBox$Receiver" ({ cls := "OrbitBox$Receiver", name := "hear", desc := "(I)Z" } : MethodName) ({ cls := "OrbitBox$Receiver", name := "hear", desc := "(I)Z" } : MethodName)) ∈ ob_g := ob_w3 4 rfl rfl
theorem w_485 : (Cond.code ({ cls := "OrbitBox$Receiver", name := "hear", desc := "(I)Z" } : MethodName) prog_7_method_2_code (2 : Nat) (Option.some FieldType.boolean)) ∈ ob_g := ob_w3 5 rfl rfl
theorem w_486 : (Cond.methodLink "OrbitBox$Receiver" (22 : Nat) ({ cls := "OrbitBox$Receiver", name := "collect", desc := "(I)Z" } : MethodName)) ∈ ob_g := ob_w3 6 rfl rfl
theorem w_488 : (Cond.instanceMethod ({ cls := "OrbitBox$Receiver", name := "collect", desc := "(I)Z" } : MethodName)) ∈ ob_g := ob_w3 8 rfl rfl
theorem w_489 : (Cond.code ({ cls := "OrbitBox$Receiver", name := "collect", desc := "(I)Z" } : MethodName) prog_7_method_4_code (2 : Nat) (Option.some FieldType.boolean)) ∈ ob_g := ob_w3 9 rfl rfl
theorem w_490 : (Cond.methodLink "OrbitBox$Receiver" (60 : Nat) ({ cls := "OrbitBox$Receiver", name := "divide", desc := "(I)V" } : MethodName)) ∈ ob_g := ob_w3 10 rfl rfl
theorem w_492 : (Cond.instanceMethod ({ cls := "OrbitBox$Receiver", name := "divide", desc := "(I)V" } : MethodName)) ∈ ob_g := ob_w3 12 rfl rfl
theorem w_493 : (Cond.code ({ cls := "OrbitBox$Receiver", name := "divide", desc := "(I)V" } : MethodName) prog_7_method_5_code (2 : Nat) (Option.none : Option FieldType)) ∈ ob_g := ob_w3 13 rfl rfl
theorem w_494 : (Cond.methodLink "OrbitBox$Receiver" (63 : Nat) ({ cls := "OrbitBox$Receiver", name := "endBlock", desc := "()Z" } : MethodName)) ∈ ob_g := ob_w3 14 rfl rfl
theorem w_496 : (Cond.instanceMethod ({ cls := "OrbitBox$Receiver", name := "endBlock", desc := "()Z" } : MethodName)) ∈ ob_g := ob_w3 16 rfl rfl
theorem w_497 : (Cond.code ({ cls := "OrbitBox$Receiver", name := "endBlock", desc := "()Z" } : MethodName) prog_7_method_6_code (3 : Nat) (Option.some FieldType.boolean)) ∈ ob_g := ob_w3 17 rfl rfl
theorem w_498 : (Cond.methodLink "OrbitBox$Receiver" (67 : Nat) ({ cls := "OrbitBox$Receiver", name := "turnWrongBit", desc := "()Z" } : MethodName)) ∈ ob_g := ob_w3 18 rfl rfl
theorem w_500 : (Cond.instanceMethod ({ cls := "OrbitBox$Receiver", name := "turnWrongBit", desc := "()Z" } : MethodName)) ∈ ob_g := ob_w3 20 rfl rfl
theorem w_501 : (Cond.code ({ cls := "OrbitBox$Receiver", name := "turnWrongBit", desc := "()Z" } : MethodName) prog_7_method_7_code (3 : Nat) (Option.some FieldType.boolean)) ∈ ob_g := ob_w3 21 rfl rfl
theorem w_502 : (Cond.methodLink "OrbitBox$Receiver" (70 : Nat) ({ cls := "OrbitBox$Row", name := "add", desc := "(II)V" } : MethodName)) ∈ ob_g := ob_w3 22 rfl rfl
theorem w_503 : (Cond.methodLink "OrbitBox$Receiver" (50 : Nat) ({ cls := "OrbitBox$Receiver", name := "beginBlock", desc := "()V" } : MethodName)) ∈ ob_g := ob_w3 23 rfl rfl
theorem w_505 : (Cond.instanceMethod ({ cls := "OrbitBox$Receiver", name := "beginBlock", desc := "()V" } : MethodName)) ∈ ob_g := ob_w3 25 rfl rfl
theorem w_506 : (Cond.code ({ cls := "OrbitBox$Receiver", name := "beginBlock", desc := "()V" } : MethodName) prog_7_method_3_code (1 : Nat) (Option.none : Option FieldType)) ∈ ob_g := ob_w3 26 rfl rfl
theorem w_507 : (Cond.constant "OrbitBox$Receiver" (30 : Nat) (65535 : Int32)) ∈ ob_g := ob_w3 27 rfl rfl
theorem w_508 : (Cond.methodLink "OrbitBox$Receiver" (34 : Nat) ({ cls := "java/lang/Math", name := "min", desc := "(II)I" } : MethodName)) ∈ ob_g := ob_w3 28 rfl rfl
theorem w_509 : (Cond.constant "OrbitBox$Receiver" (40 : Nat) (60304 : Int32)) ∈ ob_g := ob_w3 29 rfl rfl
theorem w_510 : (Cond.methodLink "OrbitBox$Receiver" (41 : Nat) ({ cls := "java/lang/Integer", name := "bitCount", desc := "(I)I" } : MethodName)) ∈ ob_g := ob_w3 30 rfl rfl
theorem w_511 : (Cond.static ({ cls := "java/lang/Integer", name := "bitCount", desc := "(I)I" } : MethodName)) ∈ ob_g := ob_w3 31 rfl rfl
theorem w_512 : (Cond.code ({ cls := "java/lang/Integer", name := "bitCount", desc := "(I)I" } : MethodName) prog_16_method_49_code (1 : Nat) (Option.some FieldType.int)) ∈ ob_g := ob_w3 32 rfl rfl
theorem w_513 : (Cond.constant "java/lang/Integer" (265 : Nat) (1431655765 : Int32)) ∈ ob_g := ob_w3 33 rfl rfl
theorem w_514 : (Cond.constant "java/lang/Integer" (266 : Nat) (858993459 : Int32)) ∈ ob_g := ob_w3 34 rfl rfl
theorem w_515 : (Cond.constant "java/lang/Integer" (267 : Nat) (252645135 : Int32)) ∈ ob_g := ob_w3 35 rfl rfl
theorem w_516 : (Cond.methodLink "OrbitBox" (118 : Nat) ({ cls := "OrbitBox$Gate", name := "receive", desc := "(LOrbitBox$Row;)Z" } : MethodName)) ∈ ob_g := ob_w3 36 rfl rfl
theorem w_517 : (Cond.instanceMethod ({ cls := "OrbitBox$Gate", name := "receive", desc := "(LOrbitBox$Row;)Z" } : MethodName)) ∈ ob_g := ob_w3 37 rfl rfl
theorem w_518 : (Cond.selects "OrbitBox$Gate" ({ cls := "OrbitBox$Gate", name := "receive", desc := "(LOrbitBox$Row;)Z" } : MethodName) ({ cls := "OrbitBox$Gate", name := "receive", desc := "(LOrbitBox$Row;)Z" } : MethodName)) ∈ ob_g := ob_w3 38 rfl rfl
theorem w_519 : (Cond.code ({ cls := "OrbitBox$Gate", name := "receive", desc := "(LOrbitBox$Row;)Z" } : MethodName) prog_5_method_2_code (3 : Nat) (Option.some FieldType.boolean)) ∈ ob_g := ob_w3 39 rfl rfl
theorem w_520 : (Cond.methodLink "OrbitBox$Gate" (24 : Nat) ({ cls := "OrbitBox$Gate", name := "isValid", desc := "(LOrbitBox$Row;)Z" } : MethodName)) ∈ ob_g := ob_w3 40 rfl rfl
theorem w_521 : (Cond.static ({ cls := "OrbitBox$Gate", name := "isValid", desc := "(LOrbitBox$Row;)Z" } : MethodName)) ∈ ob_g := ob_w3 41 rfl rfl
theorem w_522 : (Cond.code ({ cls := "OrbitBox$Gate", name := "isValid", desc := "(LOrbitBox$Row;)Z" } : MethodName) prog_5_method_3_code (3 : Nat) (Option.some FieldType.boolean)) ∈ ob_g := ob_w3 42 rfl rfl
theorem w_523 : (Cond.methodLink "OrbitBox$Gate" (31 : Nat) ({ cls := "OrbitBox$Row", name := "number", desc := "(II)I" } : MethodName)) ∈ ob_g := ob_w3 43 rfl rfl
theorem w_524 : (Cond.methodLink "OrbitBox$Gate" (48 : Nat) ({ cls := "OrbitBox$Row", name := "check", desc := "(II)I" } : MethodName)) ∈ ob_g := ob_w3 44 rfl rfl
theorem w_525 : (Cond.instanceMethod ({ cls := "OrbitBox$Row", name := "check", desc := "(II)I" } : MethodName)) ∈ ob_g := ob_w3 45 rfl rfl
theorem w_526 : (Cond.selects "OrbitBox$Row" ({ cls := "OrbitBox$Row", name := "check", desc := "(II)I" } : MethodName) ({ cls := "OrbitBox$Row", name := "check", desc := "(II)I" } : MethodName)) ∈ ob_g := ob_w3 46 rfl rfl
theorem w_527 : (Cond.code ({ cls := "OrbitBox$Row", name := "check", desc := "(II)I" } : MethodName) prog_10_method_7_code (6 : Nat) (Option.some FieldType.int)) ∈ ob_g := ob_w3 47 rfl rfl
theorem w_528 : (Cond.constant "OrbitBox$Row" (21 : Nat) (65535 : Int32)) ∈ ob_g := ob_w3 48 rfl rfl
theorem w_529 : (Cond.methodLink "OrbitBox$Gate" (51 : Nat) ({ cls := "OrbitBox$Gate", name := "isDirective", desc := "(LOrbitBox$Row;)Z" } : MethodName)) ∈ ob_g := ob_w3 49 rfl rfl
theorem w_530 : (Cond.static ({ cls := "OrbitBox$Gate", name := "isDirective", desc := "(LOrbitBox$Row;)Z" } : MethodName)) ∈ ob_g := ob_w3 50 rfl rfl
theorem w_531 : (Cond.code ({ cls := "OrbitBox$Gate", name := "isDirective", desc := "(LOrbitBox$Row;)Z" } : MethodName) prog_5_method_4_code (2 : Nat) (Option.some FieldType.boolean)) ∈ ob_g := ob_w3 51 rfl rfl
theorem w_532 : (Cond.methodLink "OrbitBox$Gate" (54 : Nat) ({ cls := "OrbitBox$Gate", name := "bodyLength", desc := "(LOrbitBox$Row;)I" } : MethodName)) ∈ ob_g := ob_w3 52 rfl rfl
theorem w_533 : (Cond.static ({ cls := "OrbitBox$Gate", name := "bodyLength", desc := "(LOrbitBox$Row;)I" } : MethodName)) ∈ ob_g := ob_w3 53 rfl rfl
theorem w_534 : (Cond.code ({ cls := "OrbitBox$Gate", name := "bodyLength", desc := "(LOrbitBox$Row;)I" } : MethodName) prog_5_method_5_code (1 : Nat) (Option.some FieldType.int)) ∈ ob_g := ob_w3 54 rfl rfl
theorem w_535 : (Cond.constant "OrbitBox$Gate" (58 : Nat) (33280 : Int32)) ∈ ob_g := ob_w3 55 rfl rfl
theorem w_536 : (Cond.methodLink "OrbitBox$Gate" (35 : Nat) ({ cls := "OrbitBox$Gate", name := "receiveInTurn", desc := "(LOrbitBox$Row;)Z" } : MethodName)) ∈ ob_g := ob_w3 56 rfl rfl
theorem w_538 : (Cond.instanceMethod ({ cls := "OrbitBox$Gate", name := "receiveInTurn", desc := "(LOrbitBox$Row;)Z" } : MethodName)) ∈ ob_g := ob_w3 58 rfl rfl
theorem w_539 : (Cond.code ({ cls := "OrbitBox$Gate", name := "receiveInTurn", desc := "(LOrbitBox$Row;)Z" } : MethodName) prog_5_method_6_code (3 : Nat) (Option.some FieldType.boolean)) ∈ ob_g := ob_w3 59 rfl rfl
theorem w_540 : (Cond.methodLink "OrbitBox$Gate" (66 : Nat) ({ cls := "OrbitBox$Gate", name := "enqueue", desc := "(LOrbitBox$Row;)Z" } : MethodName)) ∈ ob_g := ob_w3 60 rfl rfl
theorem w_542 : (Cond.instanceMethod ({ cls := "OrbitBox$Gate", name := "enqueue", desc := "(LOrbitBox$Row;)Z" } : MethodName)) ∈ ob_g := ob_w3 62 rfl rfl
theorem w_543 : (Cond.code ({ cls := "OrbitBox$Gate", name := "enqueue", desc := "(LOrbitBox$Row;)Z" } : MethodName) prog_5_method_9_code (2 : Nat) (Option.some FieldType.boolean)) ∈ ob_g := ob_w3 63 rfl rfl
theorem w_544 : (Cond.methodLink "OrbitBox$Gate" (81 : Nat) ({ cls := "OrbitBox$Row", name := "become", desc := "(LOrbitBox$Row;II)V" } : MethodName)) ∈ ob_g := ob_w3 64 rfl rfl
theorem w_545 : (Cond.instanceMethod ({ cls := "OrbitBox$Row", name := "become", desc := "(LOrbitBox$Row;II)V" } : MethodName)) ∈ ob_g := ob_w3 65 rfl rfl
theorem w_546 : (Cond.selects "OrbitBox$Row" ({ cls := "OrbitBox$Row", name := "become", desc := "(LOrbitBox$Row;II)V" } : MethodName) ({ cls := "OrbitBox$Row", name := "become", desc := "(LOrbitBox$Row;II)V" } : MethodName)) ∈ ob_g := ob_w3 66 rfl rfl
theorem w_547 : (Cond.code ({ cls := "OrbitBox$Row", name := "become", desc := "(LOrbitBox$Row;II)V" } : MethodName) prog_10_method_6_code (4 : Nat) (Option.none : Option FieldType)) ∈ ob_g := ob_w3 67 rfl rfl
theorem w_548 : (Cond.methodLink "OrbitBox$Row" (17 : Nat) ({ cls := "OrbitBox$Row", name := "addPart", desc := "(LOrbitBox$Row;II)V" } : MethodName)) ∈ ob_g := ob_w3 68 rfl rfl
theorem w_549 : (Cond.instanceMethod ({ cls := "OrbitBox$Row", name := "addPart", desc := "(LOrbitBox$Row;II)V" } : MethodName)) ∈ ob_g := ob_w3 69 rfl rfl
theorem w_550 : (Cond.selects "OrbitBox$Row" ({ cls := "OrbitBox$Row", name := "addPart", desc := "(LOrbitBox$Row;II)V" } : MethodName) ({ cls := "OrbitBox$Row", name := "addPart", desc := "(LOrbitBox$Row;II)V" } : MethodName)) ∈ ob_g := ob_w3 70 rfl rfl
theorem w_551 : (Cond.code ({ cls := "OrbitBox$Row", name := "addPart", desc := "(LOrbitBox$Row;II)V" } : MethodName) prog_10_method_5_code (5 : Nat) (Option.none : Option FieldType)) ∈ ob_g := ob_w3 71 rfl rfl
theorem w_552 : (Cond.methodLink "OrbitBox$Gate" (38 : Nat) ({ cls := "OrbitBox$Gate", name := "receiveBeside", desc := "(LOrbitBox$Row;)Z" } : MethodName)) ∈ ob_g := ob_w3 72 rfl rfl
theorem w_554 : (Cond.instanceMethod ({ cls := "OrbitBox$Gate", name := "receiveBeside", desc := "(LOrbitBox$Row;)Z" } : MethodName)) ∈ ob_g := ob_w3 74 rfl rfl
theorem w_555 : (Cond.code ({ cls := "OrbitBox$Gate", name := "receiveBeside", desc := "(LOrbitBox$Row;)Z" } : MethodName) prog_5_method_7_code (2 : Nat) (Option.some FieldType.boolean)) ∈ ob_g := ob_w3 75 rfl rfl
theorem w_556 : (Cond.methodLink "OrbitBox$Gate" (41 : Nat) ({ cls := "OrbitBox$Gate", name := "obey", desc := "(LOrbitBox$Row;)V" } : MethodName)) ∈ ob_g := ob_w3 76 rfl rfl
theorem w_558 : (Cond.instanceMethod ({ cls := "OrbitBox$Gate", name := "obey", desc := "(LOrbitBox$Row;)V" } : MethodName)) ∈ ob_g := ob_w3 78 rfl rfl
theorem w_559 : (Cond.code ({ cls := "OrbitBox$Gate", name := "obey", desc := "(LOrbitBox$Row;)V" } : MethodName) prog_5_method_8_code (3 : Nat) (Option.none : Option FieldType)) ∈ ob_g := ob_w3 79 rfl rfl
theorem w_560 : (Cond.methodLink "OrbitBoxLaw" (49 : Nat) ({ cls := "OrbitBox", name := "sense", desc := "(II)Z" } : MethodName)) ∈ ob_g := ob_w3 80 rfl rfl
theorem w_561 : (Cond.instanceMethod ({ cls := "OrbitBox", name := "sense", desc := "(II)Z" } : MethodName)) ∈ ob_g := ob_w3 81 rfl rfl
theorem w_562 : (Cond.selects "OrbitBox" ({ cls := "OrbitBox", name := "sense", desc := "(II)Z" } : MethodName) ({ cls := "OrbitBox", name := "sense", desc := "(II)Z" } : MethodName)) ∈ ob_g := ob_w3 82 rfl rfl
theorem w_563 : (Cond.code ({ cls := "OrbitBox", name := "sense", desc := "(II)Z" } : MethodName) prog_1_method_5_code (3 : Nat) (Option.some FieldType.boolean)) ∈ ob_g := ob_w3 83 rfl rfl
theorem w_564 : (Cond.methodLink "OrbitBoxLaw" (54 : Nat) ({ cls := "OrbitBox", name := "tick", desc := "()I" } : MethodName)) ∈ ob_g := ob_w3 84 rfl rfl
theorem w_565 : (Cond.instanceMethod ({ cls := "OrbitBox", name := "tick", desc := "()I" } : MethodName)) ∈ ob_g := ob_w3 85 rfl rfl
theorem w_566 : (Cond.selects "OrbitBox" ({ cls := "OrbitBox", name := "tick", desc := "()I" } : MethodName) ({ cls := "OrbitBox", name := "tick", desc := "()I" } : MethodName)) ∈ ob_g := ob_w3 86 rfl rfl
theorem w_567 : (Cond.code ({ cls := "OrbitBox", name := "tick", desc := "()I" } : MethodName) prog_1_method_6_code (1 : Nat) (Option.some FieldType.int)) ∈ ob_g := ob_w3 87 rfl rfl
theorem w_568 : (Cond.methodLink "OrbitBox" (129 : Nat) ({ cls := "OrbitBox$Handler", name := "handleDueEntries", desc := "()V" } : MethodName)) ∈ ob_g := ob_w3 88 rfl rfl
theorem w_569 : (Cond.instanceMethod ({ cls := "OrbitBox$Handler", name := "handleDueEntries", desc := "()V" } : MethodName)) ∈ ob_g := ob_w3 89 rfl rfl
theorem w_570 : (Cond.selects "OrbitBox$Handler" ({ cls := "OrbitBox$Handler", name := "handleDueEntries", desc := "()V" } : MethodName) ({ cls := "OrbitBox$Handler", name := "handleDueEntries", desc := "()V" } : MethodName)) ∈ ob_g := ob_w3 90 rfl rfl
theorem w_571 : (Cond.code ({ cls := "OrbitBox$Handler", name := "handleDueEntries", desc := "()V" } : MethodName) prog_6_method_2_code (2 : Nat) (Option.none : Option FieldType)) ∈ ob_g := ob_w3 91 rfl rfl
theorem w_572 : (Cond.methodLink "OrbitBox$Handler" (62 : Nat) ({ cls := "OrbitBox$Timetable", name := "isDue", desc := "(I)Z" } : MethodName)) ∈ ob_g := ob_w3 92 rfl rfl
theorem w_573 : (Cond.instanceMethod ({ cls := "OrbitBox$Timetable", name := "isDue", desc := "(I)Z" } : MethodName)) ∈ ob_g := ob_w3 93 rfl rfl
theorem w_574 : (Cond.selects "OrbitBox$Timetable" ({ cls := "OrbitBox$Timetable", name := "isDue", desc := "(I)Z" } : MethodName) ({ cls := "OrbitBox$Timetable", name := "isDue", desc := "(I)Z" } : MethodName)) ∈ ob_g := ob_w3 94 rfl rfl
theorem w_575 : (Cond.code ({ cls := "OrbitBox$Timetable", name := "isDue", desc := "(I)Z" } : MethodName) prog_12_method_3_code (2 : Nat) (Option.some FieldType.boolean)) ∈ ob_g := ob_w3 95 rfl rfl
theorem w_576 : (Cond.methodLink "OrbitBox$Handler" (66 : Nat) ({ cls := "OrbitBox$Timetable", name := "takeFirst", desc := "(LOrbitBox$Row;)V" } : MethodName)) ∈ ob_g := ob_w3 96 rfl rfl
theorem w_577 : (Cond.instanceMethod ({ cls := "OrbitBox$Timetable", name := "takeFirst", desc := "(LOrbitBox$Row;)V" } : MethodName)) ∈ ob_g := ob_w3 97 rfl rfl
theorem w_578 : (Cond.selects "OrbitBox$Timetable" ({ cls := "OrbitBox$Timetable", name := "takeFirst", desc := "(LOrbitBox$Row;)V" } : MethodName) ({ cls := "OrbitBox$Timetable", name := "takeFirst", desc := "(LOrbitBox$Row;)V" } : MethodName)) ∈ ob_g := ob_w3 98 rfl rfl
theorem w_579 : (Cond.code ({ cls := "OrbitBox$Timetable", name := "takeFirst", desc := "(LOrbitBox$Row;)V" } : MethodName) prog_12_method_7_code (2 : Nat) (Option.none : Option FieldType)) ∈ ob_g := ob_w3 99 rfl rfl
theorem w_580 : (Cond.methodLink "OrbitBox$Timetable" (36 : Nat) ({ cls := "OrbitBox$Row", name := "become", desc := "(LOrbitBox$Row;II)V" } : MethodName)) ∈ ob_g := ob_w3 100 rfl rfl
theorem w_581 : (Cond.methodLink "OrbitBox$Timetable" (43 : Nat) ({ cls := "OrbitBox$Timetable", name := "remove", desc := "(I)V" } : MethodName)) ∈ ob_g := ob_w3 101 rfl rfl
theorem w_583 : (Cond.instanceMethod ({ cls := "OrbitBox$Timetable", name := "remove", desc := "(I)V" } : MethodName)) ∈ ob_g := ob_w3 103 rfl rfl
theorem w_584 : (Cond.code ({ cls := "OrbitBox$Timetable", name := "remove", desc := "(I)V" } : MethodName) prog_12_method_6_code (4 : Nat) (Option.none : Option FieldType)) ∈ ob_g := ob_w3 104 rfl rfl
theorem w_585 : (Cond.methodLink "OrbitBox$Handler" (74 : Nat) ({ cls := "OrbitBox$Handler", name := "handle", desc := "()V" } : MethodName)) ∈ ob_g := ob_w3 105 rfl rfl
theorem w_587 : (Cond.instanceMethod ({ cls := "OrbitBox$Handler", name := "handle", desc := "()V" } : MethodName)) ∈ ob_g := ob_w3 107 rfl rfl
theorem w_588 : (Cond.code ({ cls := "OrbitBox$Handler", name := "handle", desc := "()V" } : MethodName) prog_6_method_7_code (5 : Nat) (Option.none : Option FieldType)) ∈ ob_g := ob_w3 108 rfl rfl
theorem w_589 : (Cond.methodLink "OrbitBox$Handler" (143 : Nat) ({ cls := "OrbitBox$Handler", name := "faultOf", desc := "(LOrbitBox$Row;II)I" } : MethodName)) ∈ ob_g := ob_w3 109 rfl rfl
theorem w_590 : (Cond.static ({ cls := "OrbitBox$Handler", name := "faultOf", desc := "(LOrbitBox$Row;II)I" } : MethodName)) ∈ ob_g := ob_w3 110 rfl rfl
theorem w_591 : (Cond.code ({ cls := "OrbitBox$Handler", name := "faultOf", desc := "(LOrbitBox$Row;II)I" } : MethodName) prog_6_method_10_code (4 : Nat) (Option.some FieldType.int)) ∈ ob_g := ob_w3 111 rfl rfl
theorem w_592 : (Cond.methodLink "OrbitBox$Handler" (150 : Nat) ({ cls := "OrbitBox$Row", name := "number", desc := "(II)I" } : MethodName)) ∈ ob_g := ob_w3 112 rfl rfl
theorem w_593 : (Cond.methodLink "OrbitBox$Handler" (166 : Nat) ({ cls := "OrbitBox$Row", name := "check", desc := "(II)I" } : MethodName)) ∈ ob_g := ob_w3 113 rfl rfl
theorem w_594 : (Cond.methodLink "OrbitBox$Handler" (169 : Nat) ({ cls := "OrbitBox$Handler", name := "kindFaultOf", desc := "(LOrbitBox$Row;II)I" } : MethodName)) ∈ ob_g := ob_w3 114 rfl rfl
theorem w_595 : (Cond.static ({ cls := "OrbitBox$Handler", name := "kindFaultOf", desc := "(LOrbitBox$Row;II)I" } : MethodName)) ∈ ob_g := ob_w3 115 rfl rfl
theorem w_596 : (Cond.code ({ cls := "OrbitBox$Handler", name := "kindFaultOf", desc := "(LOrbitBox$Row;II)I" } : MethodName) prog_6_method_11_code (6 : Nat) (Option.some FieldType.int)) ∈ ob_g := ob_w3 116 rfl rfl
theorem w_597 : (Cond.fieldLink "OrbitBox$Handler" (172 : Nat) "OrbitBox$Handler" "LENGTHS" "[I") ∈ ob_g := ob_w3 117 rfl rfl
theorem w_599 : (Cond.methodLink "OrbitBox$Handler" (176 : Nat) ({ cls := "OrbitBox$Handler", name := "isRightLength", desc := "(III)Z" } : MethodName)) ∈ ob_g := ob_w3 119 rfl rfl
theorem w_600 : (Cond.static ({ cls := "OrbitBox$Handler", name := "isRightLength", desc := "(III)Z" } : MethodName)) ∈ ob_g := ob_w3 120 rfl rfl
theorem w_601 : (Cond.code ({ cls := "OrbitBox$Handler", name := "isRightLength", desc := "(III)Z" } : MethodName) prog_6_method_12_code (3 : Nat) (Option.some FieldType.boolean)) ∈ ob_g := ob_w3 121 rfl rfl
theorem w_602 : (Cond.methodLink "OrbitBox$Handler" (147 : Nat) ({ cls := "OrbitBox$Handler", name := "refuse", desc := "(II)V" } : MethodName)) ∈ ob_g := ob_w3 122 rfl rfl
theorem w_604 : (Cond.instanceMethod ({ cls := "OrbitBox$Handler", name := "refuse", desc := "(II)V" } : MethodName)) ∈ ob_g := ob_w3 124 rfl rfl
theorem w_605 : (Cond.code ({ cls := "OrbitBox$Handler", name := "refuse", desc := "(II)V" } : MethodName) prog_6_method_9_code (4 : Nat) (Option.none : Option FieldType)) ∈ ob_g := ob_w3 125 rfl rfl
theorem w_606 : (Cond.methodLink "OrbitBox$Handler" (115 : Nat) ({ cls := "OrbitBox$Reports", name := "begin", desc := "(III)LOrbitBox$Row;" } : MethodName)) ∈ ob_g := ob_w3 126 rfl rfl
theorem w_607 : (Cond.instanceMethod ({ cls := "OrbitBox$Reports", name := "begin", desc := "(III)LOrbitBox$Row;" } : MethodName)) ∈ ob_g := ob_w3 127 rfl rfl
theorem w_608 : (Cond.selects "OrbitBox$Reports" ({ cls := "OrbitBox$Reports", name := "begin", desc := "(III)LOrbitBox$Row;" } : MethodName) ({ cls := "OrbitBox$Reports", name := "begin", desc := "(III)LOrbitBox$Row;" } : MethodName)) ∈ ob_g := ob_w3 128 rfl rfl
theorem w_609 : (Cond.code ({ cls := "OrbitBox$Reports", name := "begin", desc := "(III)LOrbitBox$Row;" } : MethodName) prog_8_method_3_code (5 : Nat) (Option.some (FieldType.object "OrbitBox$Row"))) ∈ ob_g := ob_w3 129 rfl rfl
theorem w_610 : (Cond.methodLink "OrbitBox$Reports" (42 : Nat) ({ cls := "OrbitBox$Row", name := "add", desc := "(II)V" } : MethodName)) ∈ ob_g := ob_w3 130 rfl rfl
theorem w_611 : (Cond.constant "OrbitBox$Reports" (46 : Nat) (49152 : Int32)) ∈ ob_g := ob_w3 131 rfl rfl
theorem w_612 : (Cond.methodLink "OrbitBox$Handler" (121 : Nat) ({ cls := "OrbitBox$Row", name := "add", desc := "(II)V" } : MethodName)) ∈ ob_g := ob_w3 132 rfl rfl
theorem w_613 : (Cond.methodLink "OrbitBox$Handler" (124 : Nat) ({ cls := "OrbitBox$Reports", name := "send", desc := "()V" } : MethodName)) ∈ ob_g := ob_w3 133 rfl rfl
theorem w_614 : (Cond.instanceMethod ({ cls := "OrbitBox$Reports", name := "send", desc := "()V" } : MethodName)) ∈ ob_g := ob_w3 134 rfl rfl
theorem w_615 : (Cond.selects "OrbitBox$Reports" ({ cls := "OrbitBox$Reports", name := "send", desc := "()V" } : MethodName) ({ cls := "OrbitBox$Reports", name := "send", desc := "()V" } : MethodName)) ∈ ob_g := ob_w3 135 rfl rfl
theorem w_616 : (Cond.code ({ cls := "OrbitBox$Reports", name := "send", desc := "()V" } : MethodName) prog_8_method_4_code (3 : Nat) (Option.none : Option FieldType)) ∈ ob_g := ob_w3 136 rfl rfl
theorem w_617 : (Cond.methodLink "OrbitBox$Reports" (50 : Nat) ({ cls := "OrbitBox$Row", name := "replace", desc := "(III)V" } : MethodName)) ∈ ob_g := ob_w3 137 rfl rfl
theorem w_618 : (Cond.instanceMethod ({ cls := "OrbitBox$Row", name := "replace", desc := "(III)V" } : MethodName)) ∈ ob_g := ob_w3 138 rfl rfl
theorem w_619 : (Cond.selects "OrbitBox$Row" ({ cls := "OrbitBox$Row", name := "replace", desc := "(III)V" } : MethodName) ({ cls := "OrbitBox$Row", name := "replace", desc := "(III)V" } : MethodName)) ∈ ob_g := ob_w3 139 rfl rfl
theorem w_620 : (Cond.code ({ cls := "OrbitBox$Row", name := "replace", desc := "(III)V" } : MethodName) prog_10_method_4_code (5 : Nat) (Option.none : Option FieldType)) ∈ ob_g := ob_w3 140 rfl rfl
theorem w_621 : (Cond.methodLink "OrbitBox$Reports" (54 : Nat) ({ cls := "OrbitBox$Row", name := "check", desc := "(II)I" } : MethodName)) ∈ ob_g := ob_w3 141 rfl rfl
theorem w_622 : (Cond.methodLink "OrbitBox$Reports" (58 : Nat) ({ cls := "OrbitBox$Ring", name := "putPacket", desc := "(LOrbitBox$Row;)Z" } : MethodName)) ∈ ob_g := ob_w3 142 rfl rfl
theorem w_623 : (Cond.instanceMethod ({ cls := "OrbitBox$Ring", name := "putPacket", desc := "(LOrbitBox$Row;)Z" } : MethodName)) ∈ ob_g := ob_w3 143 rfl rfl
theorem w_624 : (Cond.selects "OrbitBox$Ring" ({ cls := "OrbitBox$Ring", name := "putPacket", desc := "(LOrbitBox$Row;)Z" } : MethodName) ({ cls := "OrbitBox$Ring", name := "putPacket", desc := "(LOrbitBox$Row;)Z" } : MethodName)) ∈ ob_g := ob_w3 144 rfl rfl
theorem w_625 : (Cond.code ({ cls := "OrbitBox$Ring", name := "putPacket", desc := "(LOrbitBox$Row;)Z" } : MethodName) prog_9_method_4_code (3 : Nat) (Option.some FieldType.boolean)) ∈ ob_g := ob_w3 145 rfl rfl
theorem w_626 : (Cond.methodLink "OrbitBox$Ring" (25 : Nat) ({ cls := "OrbitBox$Ring", name := "hasRoom", desc := "(I)Z" } : MethodName)) ∈ ob_g := ob_w3 146 rfl rfl
theorem w_627 : (Cond.instanceMethod ({ cls := "OrbitBox$Ring", name := "hasRoom", desc := "(I)Z" } : MethodName)) ∈ ob_g := ob_w3 147 rfl rfl
theorem w_628 : (Cond.selects "OrbitBox$Ring" ({ cls := "OrbitBox$Ring", name := "hasRoom", desc := "(I)Z" } : MethodName) ({ cls := "OrbitBox$Ring", name := "hasRoom", desc := "(I)Z" } : MethodName)) ∈ ob_g := ob_w3 148 rfl rfl
theorem w_629 : (Cond.code ({ cls := "OrbitBox$Ring", name := "hasRoom", desc := "(I)Z" } : MethodName) prog_9_method_2_code (2 : Nat) (Option.some FieldType.boolean)) ∈ ob_g := ob_w3 149 rfl rfl
theorem w_630 : (Cond.methodLink "OrbitBox$Ring" (32 : Nat) ({ cls := "OrbitBox$Ring", name := "put", desc := "(I)V" } : MethodName)) ∈ ob_g := ob_w3 150 rfl rfl
theorem w_631 : (Cond.instanceMethod ({ cls := "OrbitBox$Ring", name := "put", desc := "(I)V" } : MethodName)) ∈ ob_g := ob_w3 151 rfl rfl
theorem w_632 : (Cond.selects "OrbitBox$Ring" ({ cls := "OrbitBox$Ring", name := "put", desc := "(I)V" } : MethodName) ({ cls := "OrbitBox$Ring", name := "put", desc := "(I)V" } : MethodName)) ∈ ob_g := ob_w3 152 rfl rfl
theorem w_633 : (Cond.code ({ cls := "OrbitBox$Ring", name := "put", desc := "(I)V" } : MethodName) prog_9_method_3_code (3 : Nat) (Option.none : Option FieldType)) ∈ ob_g := ob_w3 153 rfl rfl
theorem w_634 : (Cond.methodLink "OrbitBox$Reports" (65 : Nat) ({ cls := "OrbitBox$Row", name := "number", desc := "(II)I" } : MethodName)) ∈ ob_g := ob_w3 154 rfl rfl
theorem w_635 : (Cond.methodLink "OrbitBox$Reports" (68 : Nat) ({ cls := "OrbitBox$Reports", name := "isService", desc := "(I)Z" } : MethodName)) ∈ ob_g := ob_w3 155 rfl rfl
theorem w_636 : (Cond.static ({ cls := "OrbitBox$Reports", name := "isService", desc := "(I)Z" } : MethodName)) ∈ ob_g := ob_w3 156 rfl rfl
theorem w_637 : (Cond.code ({ cls := "OrbitBox$Reports", name := "isService", desc := "(I)Z" } : MethodName) prog_8_method_2_code (1 : Nat) (Option.some FieldType.boolean)) ∈ ob_g := ob_w3 157 rfl rfl
theorem w_638 : (Cond.methodLink "OrbitBox$Reports" (78 : Nat) ({ cls := "OrbitBox$Ring", name := "hasRoom", desc := "(I)Z" } : MethodName)) ∈ ob_g := ob_w3 158 rfl rfl
theorem w_639 : (Cond.methodLink "OrbitBox$Reports" (81 : Nat) ({ cls := "OrbitBox$Reports", name := "dropOldest", desc := "()V" } : MethodName)) ∈ ob_g := ob_w3 159 rfl rfl
theorem w_641 : (Cond.instanceMethod ({ cls := "OrbitBox$Reports", name := "dropOldest", desc := "()V" } : MethodName)) ∈ ob_g := ob_w3 161 rfl rfl
theorem w_642 : (Cond.code ({ cls := "OrbitBox$Reports", name := "dropOldest", desc := "()V" } : MethodName) prog_8_method_5_code (2 : Nat) (Option.none : Option FieldType)) ∈ ob_g := ob_w3 162 rfl rfl
theorem w_643 : (Cond.methodLink "OrbitBox$Reports" (84 : Nat) ({ cls := "OrbitBox$Ring", name := "number", desc := "(II)I" } : MethodName)) ∈ ob_g := ob_w3 163 rfl rfl
theorem w_644 : (Cond.instanceMethod ({ cls := "OrbitBox$Ring", name := "number", desc := "(II)I" } : MethodName)) ∈ ob_g := ob_w3 164 rfl rfl
theorem w_645 : (Cond.selects "OrbitBox$Ring" ({ cls := "OrbitBox$Ring", name := "number", desc := "(II)I" } : MethodName) ({ cls := "OrbitBox$Ring", name := "number", desc := "(II)I" } : MethodName)) ∈ ob_g := ob_w3 165 rfl rfl
theorem w_646 : (Cond.code ({ cls := "OrbitBox$Ring", name := "number", desc := "(II)I" } : MethodName) prog_9_method_8_code (6 : Nat) (Option.some FieldType.int)) ∈ ob_g := ob_w3 166 rfl rfl
theorem w_647 : (Cond.methodLink "OrbitBox$Reports" (85 : Nat) ({ cls := "OrbitBox$Ring", name := "drop", desc := "(I)V" } : MethodName)) ∈ ob_g := ob_w3 167 rfl rfl
theorem w_648 : (Cond.instanceMethod ({ cls := "OrbitBox$Ring", name := "drop", desc := "(I)V" } : MethodName)) ∈ ob_g := ob_w3 168 rfl rfl
theorem w_649 : (Cond.selects "OrbitBox$Ring" ({ cls := "OrbitBox$Ring", name := "drop", desc := "(I)V" } : MethodName) ({ cls := "OrbitBox$Ring", name := "drop", desc := "(I)V" } : MethodName)) ∈ ob_g := ob_w3 169 rfl rfl
theorem w_650 : (Cond.code ({ cls := "OrbitBox$Ring", name := "drop", desc := "(I)V" } : MethodName) prog_9_method_7_code (3 : Nat) (Option.none : Option FieldType)) ∈ ob_g := ob_w3 170 rfl rfl
theorem w_651 : (Cond.methodLink "OrbitBox$Handler" (153 : Nat) ({ cls := "OrbitBox$Handler", name := "answer", desc := "(I)V" } : MethodName)) ∈ ob_g := ob_w3 171 rfl rfl
theorem w_653 : (Cond.instanceMethod ({ cls := "OrbitBox$Handler", name := "answer", desc := "(I)V" } : MethodName)) ∈ ob_g := ob_w3 173 rfl rfl
theorem w_654 : (Cond.code ({ cls := "OrbitBox$Handler", name := "answer", desc := "(I)V" } : MethodName) prog_6_method_8_code (2 : Nat) (Option.none : Option FieldType)) ∈ ob_g := ob_w3 174 rfl rfl
theorem w_655 : (Cond.methodLink "OrbitBox$Handler" (156 : Nat) ({ cls := "OrbitBox$Handler", name := "failureOf", desc := "(I)I" } : MethodName)) ∈ ob_g := ob_w3 175 rfl rfl
theorem w_657 : (Cond.instanceMethod ({ cls := "OrbitBox$Handler", name := "failureOf", desc := "(I)I" } : MethodName)) ∈ ob_g := ob_w3 177 rfl rfl
theorem w_658 : (Cond.code ({ cls := "OrbitBox$Handler", name := "failureOf", desc := "(I)I" } : MethodName) prog_6_method_15_code (2 : Nat) (Option.some FieldType.int)) ∈ ob_g := ob_w3 178 rfl rfl
theorem w_659 : (Cond.methodLink "OrbitBox$Handler" (180 : Nat) ({ cls := "OrbitBox$Handler", name := "newFormFailure", desc := "()I" } : MethodName)) ∈ ob_g := ob_w3 179 rfl rfl
theorem w_661 : (Cond.instanceMethod ({ cls := "OrbitBox$Handler", name := "newFormFailure", desc := "()I" } : MethodName)) ∈ ob_g := ob_w3 181 rfl rfl
theorem w_662 : (Cond.code ({ cls := "OrbitBox$Handler", name := "newFormFailure", desc := "()I" } : MethodName) prog_6_method_16_code (3 : Nat) (Option.some FieldType.int)) ∈ ob_g := ob_w3 182 rfl rfl
theorem w_663 : (Cond.methodLink "OrbitBox$Handler" (187 : Nat) ({ cls := "OrbitBox$Handler", name := "data", desc := "(II)I" } : MethodName)) ∈ ob_g := ob_w3 183 rfl rfl
theorem w_665 : (Cond.instanceMethod ({ cls := "OrbitBox$Handler", name := "data", desc := "(II)I" } : MethodName)) ∈ ob_g := ob_w3 185 rfl rfl
theorem w_666 : (Cond.code ({ cls := "OrbitBox$Handler", name := "data", desc := "(II)I" } : MethodName) prog_6_method_13_code (3 : Nat) (Option.some FieldType.int)) ∈ ob_g := ob_w3 186 rfl rfl
theorem w_667 : (Cond.methodLink "OrbitBox$Handler" (225 : Nat) ({ cls := "OrbitBox$Handler", name := "placeInTable", desc := "(LOrbitBox$Table;II)I" } : MethodName)) ∈ ob_g := ob_w3 187 rfl rfl
theorem w_669 : (Cond.instanceMethod ({ cls := "OrbitBox$Handler", name := "placeInTable", desc := "(LOrbitBox$Table;II)I" } : MethodName)) ∈ ob_g := ob_w3 189 rfl rfl
theorem w_670 : (Cond.code ({ cls := "OrbitBox$Handler", name := "placeInTable", desc := "(LOrbitBox$Table;II)I" } : MethodName) prog_6_method_17_code (4 : Nat) (Option.some FieldType.int)) ∈ ob_g := ob_w3 190 rfl rfl
theorem w_671 : (Cond.methodLink "OrbitBox$Handler" (229 : Nat) ({ cls := "OrbitBox$Table", name := "find", desc := "(I)I" } : MethodName)) ∈ ob_g := ob_w3 191 rfl rfl
theorem w_672 : (Cond.instanceMethod ({ cls := "OrbitBox$Table", name := "find", desc := "(I)I" } : MethodName)) ∈ ob_g := ob_w3 192 rfl rfl
theorem w_673 : (Cond.selects "OrbitBox$Table" ({ cls := "OrbitBox$Table", name := "find", desc := "(I)I" } : MethodName) ({ cls := "OrbitBox$Table", name := "find", desc := "(I)I" } : MethodName)) ∈ ob_g := ob_w3 193 rfl rfl
theorem w_674 : (Cond.code ({ cls := "OrbitBox$Table", name := "find", desc := "(I)I" } : MethodName) prog_11_method_3_code (3 : Nat) (Option.some FieldType.int)) ∈ ob_g := ob_w3 194 rfl rfl
theorem w_675 : (Cond.methodLink "OrbitBox$Handler" (232 : Nat) ({ cls := "OrbitBox$Table", name := "isFull", desc := "()Z" } : MethodName)) ∈ ob_g := ob_w3 195 rfl rfl
theorem w_676 : (Cond.instanceMethod ({ cls := "OrbitBox$Table", name := "isFull", desc := "()Z" } : MethodName)) ∈ ob_g := ob_w3 196 rfl rfl
theorem w_677 : (Cond.selects "OrbitBox$Table" ({ cls := "OrbitBox$Table", name := "isFull", desc := "()Z" } : MethodName) ({ cls := "OrbitBox$Table", name := "isFull", desc := "()Z" } : MethodName)) ∈ ob_g := ob_w3 197 rfl rfl
theorem w_678 : (Cond.code ({ cls := "OrbitBox$Table", name := "isFull", desc := "()Z" } : MethodName) prog_11_method_2_code (1 : Nat) (Option.some FieldType.boolean)) ∈ ob_g := ob_w3 198 rfl rfl
theorem w_679 : (Cond.methodLink "OrbitBox$Handler" (183 : Nat) ({ cls := "OrbitBox$Handler", name := "lineFailure", desc := "(LOrbitBox$Table;IZ)I" } : MethodName)) ∈ ob_g := ob_w3 199 rfl rfl
theorem w_681 : (Cond.instanceMethod ({ cls := "OrbitBox$Handler", name := "lineFailure", desc := "(LOrbitBox$Table;IZ)I" } : MethodName)) ∈ ob_g := ob_w3 201 rfl rfl
theorem w_682 : (Cond.code ({ cls := "OrbitBox$Handler", name := "lineFailure", desc := "(LOrbitBox$Table;IZ)I" } : MethodName) prog_6_method_18_code (5 : Nat) (Option.some FieldType.int)) ∈ ob_g := ob_w3 202 rfl rfl
theorem w_683 : (Cond.methodLink "OrbitBox$Handler" (130 : Nat) ({ cls := "OrbitBox$Table", name := "get", desc := "(II)I" } : MethodName)) ∈ ob_g := ob_w3 203 rfl rfl
theorem w_684 : (Cond.instanceMethod ({ cls := "OrbitBox$Table", name := "get", desc := "(II)I" } : MethodName)) ∈ ob_g := ob_w3 204 rfl rfl
theorem w_685 : (Cond.selects "OrbitBox$Table" ({ cls := "OrbitBox$Table", name := "get", desc := "(II)I" } : MethodName) ({ cls := "OrbitBox$Table", name := "get", desc := "(II)I" } : MethodName)) ∈ ob_g := ob_w3 205 rfl rfl
theorem w_686 : (Cond.code ({ cls := "OrbitBox$Table", name := "get", desc := "(II)I" } : MethodName) prog_11_method_4_code (3 : Nat) (Option.some FieldType.int)) ∈ ob_g := ob_w3 206 rfl rfl
theorem w_687 : (Cond.methodLink "OrbitBox$Handler" (190 : Nat) ({ cls := "OrbitBox$Events", name := "isThere", desc := "(I)Z" } : MethodName)) ∈ ob_g := ob_w3 207 rfl rfl
theorem w_688 : (Cond.static ({ cls := "OrbitBox$Events", name := "isThere", desc := "(I)Z" } : MethodName)) ∈ ob_g := ob_w3 208 rfl rfl
theorem w_689 : (Cond.code ({ cls := "OrbitBox$Events", name := "isThere", desc := "(I)Z" } : MethodName) prog_4_method_2_code (1 : Nat) (Option.some FieldType.boolean)) ∈ ob_g := ob_w3 209 rfl rfl
theorem w_690 : (Cond.methodLink "OrbitBox$Handler" (193 : Nat) ({ cls := "OrbitBox$Handler", name := "placeFailure", desc := "(I)I" } : MethodName)) ∈ ob_g := ob_w3 210 rfl rfl
theorem w_692 : (Cond.instanceMethod ({ cls := "OrbitBox$Handler", name := "placeFailure", desc := "(I)I" } : MethodName)) ∈ ob_g := ob_w3 212 rfl rfl
theorem w_693 : (Cond.code ({ cls := "OrbitBox$Handler", name := "placeFailure", desc := "(I)I" } : MethodName) prog_6_method_19_code (2 : Nat) (Option.some FieldType.int)) ∈ ob_g := ob_w3 213 rfl rfl
theorem w_694 : (Cond.methodLink "OrbitBox$Handler" (196 : Nat) ({ cls := "OrbitBox$Handler", name := "functionFailure", desc := "(II)I" } : MethodName)) ∈ ob_g := ob_w3 214 rfl rfl
theorem w_696 : (Cond.instanceMethod ({ cls := "OrbitBox$Handler", name := "functionFailure", desc := "(II)I" } : MethodName)) ∈ ob_g := ob_w3 216 rfl rfl
theorem w_697 : (Cond.code ({ cls := "OrbitBox$Handler", name := "functionFailure", desc := "(II)I" } : MethodName) prog_6_method_20_code (3 : Nat) (Option.some FieldType.int)) ∈ ob_g := ob_w3 217 rfl rfl
theorem w_698 : (Cond.methodLink "OrbitBox$Handler" (199 : Nat) ({ cls := "OrbitBox$Handler", name := "newEntryFailure", desc := "()I" } : MethodName)) ∈ ob_g := ob_w3 218 rfl rfl
theorem w_700 : (Cond.instanceMethod ({ cls := "OrbitBox$Handler", name := "newEntryFailure", desc := "()I" } : MethodName)) ∈ ob_g := ob_w3 220 rfl rfl
theorem w_701 : (Cond.code ({ cls := "OrbitBox$Handler", name := "newEntryFailure", desc := "()I" } : MethodName) prog_6_method_21_code (1 : Nat) (Option.some FieldType.int)) ∈ ob_g := ob_w3 221 rfl rfl
theorem w_702 : (Cond.methodLink "OrbitBox$Handler" (239 : Nat) ({ cls := "OrbitBox$Handler", name := "dataLength", desc := "()I" } : MethodName)) ∈ ob_g := ob_w3 222 rfl rfl
theorem w_704 : (Cond.instanceMethod ({ cls := "OrbitBox$Handler", name := "dataLength", desc := "()I" } : MethodName)) ∈ ob_g := ob_w3 224 rfl rfl
theorem w_705 : (Cond.code ({ cls := "OrbitBox$Handler", name := "dataLength", desc := "()I" } : MethodName) prog_6_method_14_code (1 : Nat) (Option.some FieldType.int)) ∈ ob_g := ob_w3 225 rfl rfl
theorem w_706 : (Cond.methodLink "OrbitBox$Handler" (242 : Nat) ({ cls := "OrbitBox$Timetable", name := "isFull", desc := "()Z" } : MethodName)) ∈ ob_g := ob_w3 226 rfl rfl
theorem w_707 : (Cond.instanceMethod ({ cls := "OrbitBox$Timetable", name := "isFull", desc := "()Z" } : MethodName)) ∈ ob_g := ob_w3 227 rfl rfl
theorem w_708 : (Cond.selects "OrbitBox$Timetable" ({ cls := "OrbitBox$Timetable", name := "isFull", desc := "()Z" } : MethodName) ({ cls := "OrbitBox$Timetable", name := "isFull", desc := "()Z" } : MethodName)) ∈ ob_g := ob_w3 228 rfl rfl
theorem w_709 : (Cond.code ({ cls := "OrbitBox$Timetable", name := "isFull", desc := "()Z" } : MethodName) prog_12_method_2_code (1 : Nat) (Option.some FieldType.boolean)) ∈ ob_g := ob_w3 229 rfl rfl
theorem w_710 : (Cond.methodLink "OrbitBox$Handler" (202 : Nat) ({ cls := "OrbitBox$Timetable", name := "has", desc := "(I)Z" } : MethodName)) ∈ ob_g := ob_w3 230 rfl rfl
theorem w_711 : (Cond.instanceMethod ({ cls := "OrbitBox$Timetable", name := "has", desc := "(I)Z" } : MethodName)) ∈ ob_g := ob_w3 231 rfl rfl
theorem w_712 : (Cond.selects "OrbitBox$Timetable" ({ cls := "OrbitBox$Timetable", name := "has", desc := "(I)Z" } : MethodName) ({ cls := "OrbitBox$Timetable", name := "has", desc := "(I)Z" } : MethodName)) ∈ ob_g := ob_w3 232 rfl rfl
theorem w_713 : (Cond.code ({ cls := "OrbitBox$Timetable", name := "has", desc := "(I)Z" } : MethodName) prog_12_method_8_code (3 : Nat) (Option.some FieldType.boolean)) ∈ ob_g := ob_w3 233 rfl rfl
theorem w_714 : (Cond.methodLink "OrbitBox$Timetable" (46 : Nat) ({ cls := "OrbitBox$Timetable", name := "numberOf", desc := "(I)I" } : MethodName)) ∈ ob_g := ob_w3 234 rfl rfl
theorem w_715 : (Cond.instanceMethod ({ cls := "OrbitBox$Timetable", name := "numberOf", desc := "(I)I" } : MethodName)) ∈ ob_g := ob_w3 235 rfl rfl
theorem w_716 : (Cond.selects "OrbitBox$Timetable" ({ cls := "OrbitBox$Timetable", name := "numberOf", desc := "(I)I" } : MethodName) ({ cls := "OrbitBox$Timetable", name := "numberOf", desc := "(I)I" } : MethodName)) ∈ ob_g := ob_w3 236 rfl rfl
theorem w_717 : (Cond.code ({ cls := "OrbitBox$Timetable", name := "numberOf", desc := "(I)I" } : MethodName) prog_12_method_4_code (2 : Nat) (Option.some FieldType.int)) ∈ ob_g := ob_w3 237 rfl rfl
theorem w_718 : (Cond.methodLink "OrbitBox$Timetable" (28 : Nat) ({ cls := "OrbitBox$Row", name := "number", desc := "(II)I" } : MethodName)) ∈ ob_g := ob_w3 238 rfl rfl
theorem w_719 : (Cond.methodLink "OrbitBox$Handler" (205 : Nat) ({ cls := "OrbitBox$Timetable", name := "canShift", desc := "(II)Z" } : MethodName)) ∈ ob_g := ob_w3 239 rfl rfl
