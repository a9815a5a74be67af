-- words
theorem w_1440 : (Cond.instanceMethod ({ cls := "OrbitBoxModel", name := "dropEntry", desc := "(I)V" } : MethodName)) ∈ ob_g := ob_w7 0 rfl rfl
theorem w_1441 : (Cond.code ({ cls := "OrbitBoxModel", name := "dropEntry", desc := "(I)V" } : MethodName) prog_14_method_34_code (4 : Nat) (Option.none : Option FieldType)) ∈ ob_g := ob_w7 1 rfl rfl
theorem w_1442 : (Cond.methodLink "OrbitBoxModel" (411 : Nat) ({ cls := "OrbitBoxModel", name := "handle", desc := "()V" } : MethodName)) ∈ ob_g := ob_w7 2 rfl rfl
theorem w_1444 : (Cond.instanceMethod ({ cls := "OrbitBoxModel", name := "handle", desc := "()V" } : MethodName)) ∈ ob_g := ob_w7 4 rfl rfl
theorem w_1445 : (Cond.code ({ cls := "OrbitBoxModel", name := "handle", desc := "()V" } : MethodName) prog_14_method_22_code (6 : Nat) (Option.none : Option FieldType)) ∈ ob_g := ob_w7 5 rfl rfl
theorem w_1446 : (Cond.methodLink "OrbitBoxModel" (282 : Nat) ({ cls := "OrbitBoxModel", name := "faultOf", desc := "([BII)I" } : MethodName)) ∈ ob_g := ob_w7 6 rfl rfl
theorem w_1447 : (Cond.static ({ cls := "OrbitBoxModel", name := "faultOf", desc := "([BII)I" } : MethodName)) ∈ ob_g := ob_w7 7 rfl rfl
theorem w_1448 : (Cond.code ({ cls := "OrbitBoxModel", name := "faultOf", desc := "([BII)I" } : MethodName) prog_14_method_14_code (3 : Nat) (Option.some FieldType.int)) ∈ ob_g := ob_w7 8 rfl rfl
theorem w_1449 : (Cond.methodLink "OrbitBoxModel" (254 : Nat) ({ cls := "OrbitBoxModel", name := "lengthFault", desc := "(I[BII)I" } : MethodName)) ∈ ob_g := ob_w7 9 rfl rfl
theorem w_1450 : (Cond.static ({ cls := "OrbitBoxModel", name := "lengthFault", desc := "(I[BII)I" } : MethodName)) ∈ ob_g := ob_w7 10 rfl rfl
theorem w_1451 : (Cond.code ({ cls := "OrbitBoxModel", name := "lengthFault", desc := "(I[BII)I" } : MethodName) prog_14_method_15_code (6 : Nat) (Option.some FieldType.int)) ∈ ob_g := ob_w7 11 rfl rfl
theorem w_1452 : (Cond.methodLink "OrbitBoxModel" (288 : Nat) ({ cls := "OrbitBoxModel", name := "verified", desc := "(II)V" } : MethodName)) ∈ ob_g := ob_w7 12 rfl rfl
theorem w_1454 : (Cond.instanceMethod ({ cls := "OrbitBoxModel", name := "verified", desc := "(II)V" } : MethodName)) ∈ ob_g := ob_w7 14 rfl rfl
theorem w_1455 : (Cond.code ({ cls := "OrbitBoxModel", name := "verified", desc := "(II)V" } : MethodName) prog_14_method_21_code (3 : Nat) (Option.none : Option FieldType)) ∈ ob_g := ob_w7 15 rfl rfl
theorem w_1456 : (Cond.methodLink "OrbitBoxModel" (267 : Nat) ({ cls := "OrbitBoxModel", name := "report", desc := "(II)V" } : MethodName)) ∈ ob_g := ob_w7 16 rfl rfl
theorem w_1458 : (Cond.instanceMethod ({ cls := "OrbitBoxModel", name := "report", desc := "(II)V" } : MethodName)) ∈ ob_g := ob_w7 18 rfl rfl
theorem w_1459 : (Cond.code ({ cls := "OrbitBoxModel", name := "report", desc := "(II)V" } : MethodName) prog_14_method_48_code (3 : Nat) (Option.none : Option FieldType)) ∈ ob_g := ob_w7 19 rfl rfl
theorem w_1460 : (Cond.methodLink "OrbitBoxModel" (273 : Nat) ({ cls := "OrbitBoxModel", name := "sayTwo", desc := "(I)V" } : MethodName)) ∈ ob_g := ob_w7 20 rfl rfl
theorem w_1462 : (Cond.instanceMethod ({ cls := "OrbitBoxModel", name := "sayTwo", desc := "(I)V" } : MethodName)) ∈ ob_g := ob_w7 22 rfl rfl
theorem w_1463 : (Cond.code ({ cls := "OrbitBoxModel", name := "sayTwo", desc := "(I)V" } : MethodName) prog_14_method_46_code (2 : Nat) (Option.none : Option FieldType)) ∈ ob_g := ob_w7 23 rfl rfl
theorem w_1464 : (Cond.methodLink "OrbitBoxModel" (264 : Nat) ({ cls := "OrbitBoxModel", name := "say", desc := "(I)V" } : MethodName)) ∈ ob_g := ob_w7 24 rfl rfl
theorem w_1466 : (Cond.instanceMethod ({ cls := "OrbitBoxModel", name := "say", desc := "(I)V" } : MethodName)) ∈ ob_g := ob_w7 26 rfl rfl
theorem w_1467 : (Cond.code ({ cls := "OrbitBoxModel", name := "say", desc := "(I)V" } : MethodName) prog_14_method_45_code (2 : Nat) (Option.none : Option FieldType)) ∈ ob_g := ob_w7 27 rfl rfl
theorem w_1468 : (Cond.constant "OrbitBoxModel" (417 : Nat) (49152 : Int32)) ∈ ob_g := ob_w7 28 rfl rfl
theorem w_1469 : (Cond.methodLink "OrbitBoxModel" (354 : Nat) ({ cls := "OrbitBoxModel", name := "sayFour", desc := "(I)V" } : MethodName)) ∈ ob_g := ob_w7 29 rfl rfl
theorem w_1471 : (Cond.instanceMethod ({ cls := "OrbitBoxModel", name := "sayFour", desc := "(I)V" } : MethodName)) ∈ ob_g := ob_w7 31 rfl rfl
theorem w_1472 : (Cond.code ({ cls := "OrbitBoxModel", name := "sayFour", desc := "(I)V" } : MethodName) prog_14_method_47_code (2 : Nat) (Option.none : Option FieldType)) ∈ ob_g := ob_w7 32 rfl rfl
theorem w_1473 : (Cond.methodLink "OrbitBoxModel" (270 : Nat) ({ cls := "OrbitBoxModel", name := "firstFour", desc := "()V" } : MethodName)) ∈ ob_g := ob_w7 33 rfl rfl
theorem w_1475 : (Cond.instanceMethod ({ cls := "OrbitBoxModel", name := "firstFour", desc := "()V" } : MethodName)) ∈ ob_g := ob_w7 35 rfl rfl
theorem w_1476 : (Cond.code ({ cls := "OrbitBoxModel", name := "firstFour", desc := "()V" } : MethodName) prog_14_method_20_code (2 : Nat) (Option.none : Option FieldType)) ∈ ob_g := ob_w7 36 rfl rfl
theorem w_1477 : (Cond.methodLink "OrbitBoxModel" (276 : Nat) ({ cls := "OrbitBoxModel", name := "made", desc := "()V" } : MethodName)) ∈ ob_g := ob_w7 37 rfl rfl
theorem w_1479 : (Cond.instanceMethod ({ cls := "OrbitBoxModel", name := "made", desc := "()V" } : MethodName)) ∈ ob_g := ob_w7 39 rfl rfl
theorem w_1480 : (Cond.code ({ cls := "OrbitBoxModel", name := "made", desc := "()V" } : MethodName) prog_14_method_49_code (2 : Nat) (Option.none : Option FieldType)) ∈ ob_g := ob_w7 40 rfl rfl
theorem w_1481 : (Cond.methodLink "OrbitBoxModel" (421 : Nat) ({ cls := "OrbitBoxModel", name := "joins", desc := "(I[BII)Z" } : MethodName)) ∈ ob_g := ob_w7 41 rfl rfl
theorem w_1483 : (Cond.instanceMethod ({ cls := "OrbitBoxModel", name := "joins", desc := "(I[BII)Z" } : MethodName)) ∈ ob_g := ob_w7 43 rfl rfl
theorem w_1484 : (Cond.code ({ cls := "OrbitBoxModel", name := "joins", desc := "(I[BII)Z" } : MethodName) prog_14_method_55_code (6 : Nat) (Option.some FieldType.boolean)) ∈ ob_g := ob_w7 44 rfl rfl
theorem w_1485 : (Cond.methodLink "OrbitBoxModel" (437 : Nat) ({ cls := "java/lang/System", name := "arraycopy", desc := "(Ljava/lang/Object;ILjava/lang/Object;II)V" } : MethodName)) ∈ ob_g := ob_w7 45 rfl rfl
theorem w_1486 : (Cond.static ({ cls := "java/lang/System", name := "arraycopy", desc := "(Ljava/lang/Object;ILjava/lang/Object;II)V" } : MethodName)) ∈ ob_g := ob_w7 46 rfl rfl
theorem w_1487 : (Cond.native ({ cls := "java/lang/System", name := "arraycopy", desc := "(Ljava/lang/Object;ILjava/lang/Object;II)V" } : MethodName)) ∈ ob_g := ob_w7 47 rfl rfl
theorem w_1488 : (Cond.methodLink "OrbitBoxModel" (428 : Nat) ({ cls := "OrbitBoxModel", name := "keep", desc := "()V" } : MethodName)) ∈ ob_g := ob_w7 48 rfl rfl
theorem w_1490 : (Cond.instanceMethod ({ cls := "OrbitBoxModel", name := "keep", desc := "()V" } : MethodName)) ∈ ob_g := ob_w7 50 rfl rfl
theorem w_1491 : (Cond.code ({ cls := "OrbitBoxModel", name := "keep", desc := "()V" } : MethodName) prog_14_method_50_code (1 : Nat) (Option.none : Option FieldType)) ∈ ob_g := ob_w7 51 rfl rfl
theorem w_1492 : (Cond.methodLink "OrbitBoxModel" (434 : Nat) ({ cls := "OrbitBoxModel", name := "dropOldest", desc := "()V" } : MethodName)) ∈ ob_g := ob_w7 52 rfl rfl
theorem w_1494 : (Cond.instanceMethod ({ cls := "OrbitBoxModel", name := "dropOldest", desc := "()V" } : MethodName)) ∈ ob_g := ob_w7 54 rfl rfl
theorem w_1495 : (Cond.code ({ cls := "OrbitBoxModel", name := "dropOldest", desc := "()V" } : MethodName) prog_14_method_51_code (2 : Nat) (Option.none : Option FieldType)) ∈ ob_g := ob_w7 55 rfl rfl
theorem w_1496 : (Cond.methodLink "OrbitBoxModel" (291 : Nat) ({ cls := "OrbitBoxModel", name := "failure", desc := "(II)I" } : MethodName)) ∈ ob_g := ob_w7 56 rfl rfl
theorem w_1498 : (Cond.instanceMethod ({ cls := "OrbitBoxModel", name := "failure", desc := "(II)I" } : MethodName)) ∈ ob_g := ob_w7 58 rfl rfl
theorem w_1499 : (Cond.code ({ cls := "OrbitBoxModel", name := "failure", desc := "(II)I" } : MethodName) prog_14_method_23_code (3 : Nat) (Option.some FieldType.int)) ∈ ob_g := ob_w7 59 rfl rfl
theorem w_1500 : (Cond.methodLink "OrbitBoxModel" (298 : Nat) ({ cls := "OrbitBoxModel", name := "formFailure", desc := "(I)I" } : MethodName)) ∈ ob_g := ob_w7 60 rfl rfl
theorem w_1502 : (Cond.instanceMethod ({ cls := "OrbitBoxModel", name := "formFailure", desc := "(I)I" } : MethodName)) ∈ ob_g := ob_w7 62 rfl rfl
theorem w_1503 : (Cond.code ({ cls := "OrbitBoxModel", name := "formFailure", desc := "(I)I" } : MethodName) prog_14_method_25_code (5 : Nat) (Option.some FieldType.int)) ∈ ob_g := ob_w7 63 rfl rfl
theorem w_1504 : (Cond.methodLink "OrbitBoxModel" (302 : Nat) ({ cls := "OrbitBoxModel", name := "data", desc := "(I)I" } : MethodName)) ∈ ob_g := ob_w7 64 rfl rfl
theorem w_1506 : (Cond.instanceMethod ({ cls := "OrbitBoxModel", name := "data", desc := "(I)I" } : MethodName)) ∈ ob_g := ob_w7 66 rfl rfl
theorem w_1507 : (Cond.code ({ cls := "OrbitBoxModel", name := "data", desc := "(I)I" } : MethodName) prog_14_method_17_code (2 : Nat) (Option.some FieldType.int)) ∈ ob_g := ob_w7 67 rfl rfl
theorem w_1508 : (Cond.methodLink "OrbitBoxModel" (305 : Nat) ({ cls := "OrbitBoxModel", name := "memoryFailure", desc := "(I)I" } : MethodName)) ∈ ob_g := ob_w7 68 rfl rfl
theorem w_1510 : (Cond.instanceMethod ({ cls := "OrbitBoxModel", name := "memoryFailure", desc := "(I)I" } : MethodName)) ∈ ob_g := ob_w7 70 rfl rfl
theorem w_1511 : (Cond.code ({ cls := "OrbitBoxModel", name := "memoryFailure", desc := "(I)I" } : MethodName) prog_14_method_28_code (4 : Nat) (Option.some FieldType.int)) ∈ ob_g := ob_w7 71 rfl rfl
theorem w_1512 : (Cond.methodLink "OrbitBoxModel" (357 : Nat) ({ cls := "OrbitBoxModel", name := "dataTwo", desc := "(I)I" } : MethodName)) ∈ ob_g := ob_w7 72 rfl rfl
theorem w_1514 : (Cond.instanceMethod ({ cls := "OrbitBoxModel", name := "dataTwo", desc := "(I)I" } : MethodName)) ∈ ob_g := ob_w7 74 rfl rfl
theorem w_1515 : (Cond.code ({ cls := "OrbitBoxModel", name := "dataTwo", desc := "(I)I" } : MethodName) prog_14_method_18_code (2 : Nat) (Option.some FieldType.int)) ∈ ob_g := ob_w7 75 rfl rfl
theorem w_1516 : (Cond.methodLink "OrbitBoxModel" (308 : Nat) ({ cls := "OrbitBoxModel", name := "functionFailure", desc := "()I" } : MethodName)) ∈ ob_g := ob_w7 76 rfl rfl
theorem w_1518 : (Cond.instanceMethod ({ cls := "OrbitBoxModel", name := "functionFailure", desc := "()I" } : MethodName)) ∈ ob_g := ob_w7 78 rfl rfl
theorem w_1519 : (Cond.code ({ cls := "OrbitBoxModel", name := "functionFailure", desc := "()I" } : MethodName) prog_14_method_30_code (3 : Nat) (Option.some FieldType.int)) ∈ ob_g := ob_w7 79 rfl rfl
theorem w_1520 : (Cond.methodLink "OrbitBoxModel" (312 : Nat) ({ cls := "OrbitBoxModel", name := "tableFailure", desc := "(I)I" } : MethodName)) ∈ ob_g := ob_w7 80 rfl rfl
theorem w_1522 : (Cond.instanceMethod ({ cls := "OrbitBoxModel", name := "tableFailure", desc := "(I)I" } : MethodName)) ∈ ob_g := ob_w7 82 rfl rfl
theorem w_1523 : (Cond.code ({ cls := "OrbitBoxModel", name := "tableFailure", desc := "(I)I" } : MethodName) prog_14_method_36_code (5 : Nat) (Option.some FieldType.int)) ∈ ob_g := ob_w7 83 rfl rfl
theorem w_1524 : (Cond.methodLink "OrbitBoxModel" (360 : Nat) ({ cls := "OrbitBoxModel", name := "dataFour", desc := "(I)I" } : MethodName)) ∈ ob_g := ob_w7 84 rfl rfl
theorem w_1526 : (Cond.instanceMethod ({ cls := "OrbitBoxModel", name := "dataFour", desc := "(I)I" } : MethodName)) ∈ ob_g := ob_w7 86 rfl rfl
theorem w_1527 : (Cond.code ({ cls := "OrbitBoxModel", name := "dataFour", desc := "(I)I" } : MethodName) prog_14_method_19_code (2 : Nat) (Option.some FieldType.int)) ∈ ob_g := ob_w7 87 rfl rfl
theorem w_1528 : (Cond.methodLink "OrbitBoxModel" (261 : Nat) ({ cls := "OrbitBoxModel", name := "four", desc := "([BI)I" } : MethodName)) ∈ ob_g := ob_w7 88 rfl rfl
theorem w_1529 : (Cond.static ({ cls := "OrbitBoxModel", name := "four", desc := "([BI)I" } : MethodName)) ∈ ob_g := ob_w7 89 rfl rfl
theorem w_1530 : (Cond.code ({ cls := "OrbitBoxModel", name := "four", desc := "([BI)I" } : MethodName) prog_14_method_5_code (2 : Nat) (Option.some FieldType.int)) ∈ ob_g := ob_w7 90 rfl rfl
theorem w_1531 : (Cond.methodLink "OrbitBoxModel" (375 : Nat) ({ cls := "OrbitBoxModel", name := "entryNumber", desc := "(I)I" } : MethodName)) ∈ ob_g := ob_w7 91 rfl rfl
theorem w_1533 : (Cond.instanceMethod ({ cls := "OrbitBoxModel", name := "entryNumber", desc := "(I)I" } : MethodName)) ∈ ob_g := ob_w7 93 rfl rfl
theorem w_1534 : (Cond.code ({ cls := "OrbitBoxModel", name := "entryNumber", desc := "(I)I" } : MethodName) prog_14_method_35_code (2 : Nat) (Option.some FieldType.int)) ∈ ob_g := ob_w7 94 rfl rfl
theorem w_1535 : (Cond.constantLong "OrbitBoxModel" (378 : Nat) (2147483647 : Int64)) ∈ ob_g := ob_w7 95 rfl rfl
theorem w_1536 : (Cond.methodLink "OrbitBoxModel" (315 : Nat) ({ cls := "OrbitBoxModel", name := "limitFailure", desc := "(I)I" } : MethodName)) ∈ ob_g := ob_w7 96 rfl rfl
theorem w_1538 : (Cond.instanceMethod ({ cls := "OrbitBoxModel", name := "limitFailure", desc := "(I)I" } : MethodName)) ∈ ob_g := ob_w7 98 rfl rfl
theorem w_1539 : (Cond.code ({ cls := "OrbitBoxModel", name := "limitFailure", desc := "(I)I" } : MethodName) prog_14_method_38_code (3 : Nat) (Option.some FieldType.int)) ∈ ob_g := ob_w7 99 rfl rfl
theorem w_1540 : (Cond.methodLink "OrbitBoxModel" (318 : Nat) ({ cls := "OrbitBoxModel", name := "storeFailure", desc := "(I)I" } : MethodName)) ∈ ob_g := ob_w7 100 rfl rfl
theorem w_1542 : (Cond.instanceMethod ({ cls := "OrbitBoxModel", name := "storeFailure", desc := "(I)I" } : MethodName)) ∈ ob_g := ob_w7 102 rfl rfl
theorem w_1543 : (Cond.code ({ cls := "OrbitBoxModel", name := "storeFailure", desc := "(I)I" } : MethodName) prog_14_method_52_code (2 : Nat) (Option.some FieldType.int)) ∈ ob_g := ob_w7 103 rfl rfl
theorem w_1544 : (Cond.methodLink "OrbitBoxModel" (321 : Nat) ({ cls := "OrbitBoxModel", name := "actionFailure", desc := "(I)I" } : MethodName)) ∈ ob_g := ob_w7 104 rfl rfl
theorem w_1546 : (Cond.instanceMethod ({ cls := "OrbitBoxModel", name := "actionFailure", desc := "(I)I" } : MethodName)) ∈ ob_g := ob_w7 106 rfl rfl
theorem w_1547 : (Cond.code ({ cls := "OrbitBoxModel", name := "actionFailure", desc := "(I)I" } : MethodName) prog_14_method_42_code (3 : Nat) (Option.some FieldType.int)) ∈ ob_g := ob_w7 107 rfl rfl
theorem w_1548 : (Cond.methodLink "OrbitBoxModel" (295 : Nat) ({ cls := "OrbitBoxModel", name := "act", desc := "(II)V" } : MethodName)) ∈ ob_g := ob_w7 108 rfl rfl
theorem w_1550 : (Cond.instanceMethod ({ cls := "OrbitBoxModel", name := "act", desc := "(II)V" } : MethodName)) ∈ ob_g := ob_w7 110 rfl rfl
theorem w_1551 : (Cond.code ({ cls := "OrbitBoxModel", name := "act", desc := "(II)V" } : MethodName) prog_14_method_24_code (3 : Nat) (Option.none : Option FieldType)) ∈ ob_g := ob_w7 111 rfl rfl
theorem w_1552 : (Cond.methodLink "OrbitBoxModel" (324 : Nat) ({ cls := "OrbitBoxModel", name := "actForm", desc := "(I)V" } : MethodName)) ∈ ob_g := ob_w7 112 rfl rfl
theorem w_1554 : (Cond.instanceMethod ({ cls := "OrbitBoxModel", name := "actForm", desc := "(I)V" } : MethodName)) ∈ ob_g := ob_w7 114 rfl rfl
theorem w_1555 : (Cond.code ({ cls := "OrbitBoxModel", name := "actForm", desc := "(I)V" } : MethodName) prog_14_method_26_code (4 : Nat) (Option.none : Option FieldType)) ∈ ob_g := ob_w7 115 rfl rfl
theorem w_1556 : (Cond.methodLink "OrbitBoxModel" (348 : Nat) ({ cls := "OrbitBoxModel", name := "formReport", desc := "(I)V" } : MethodName)) ∈ ob_g := ob_w7 116 rfl rfl
theorem w_1558 : (Cond.instanceMethod ({ cls := "OrbitBoxModel", name := "formReport", desc := "(I)V" } : MethodName)) ∈ ob_g := ob_w7 118 rfl rfl
theorem w_1559 : (Cond.code ({ cls := "OrbitBoxModel", name := "formReport", desc := "(I)V" } : MethodName) prog_14_method_27_code (3 : Nat) (Option.none : Option FieldType)) ∈ ob_g := ob_w7 119 rfl rfl
theorem w_1560 : (Cond.methodLink "OrbitBoxModel" (351 : Nat) ({ cls := "OrbitBoxModel", name := "parameter", desc := "(I)I" } : MethodName)) ∈ ob_g := ob_w7 120 rfl rfl
theorem w_1562 : (Cond.instanceMethod ({ cls := "OrbitBoxModel", name := "parameter", desc := "(I)I" } : MethodName)) ∈ ob_g := ob_w7 122 rfl rfl
theorem w_1563 : (Cond.code ({ cls := "OrbitBoxModel", name := "parameter", desc := "(I)I" } : MethodName) prog_14_method_59_code (2 : Nat) (Option.some FieldType.int)) ∈ ob_g := ob_w7 123 rfl rfl
theorem w_1564 : (Cond.methodLink "OrbitBoxModel" (327 : Nat) ({ cls := "OrbitBoxModel", name := "actMemory", desc := "(I)V" } : MethodName)) ∈ ob_g := ob_w7 124 rfl rfl
theorem w_1566 : (Cond.instanceMethod ({ cls := "OrbitBoxModel", name := "actMemory", desc := "(I)V" } : MethodName)) ∈ ob_g := ob_w7 126 rfl rfl
theorem w_1567 : (Cond.code ({ cls := "OrbitBoxModel", name := "actMemory", desc := "(I)V" } : MethodName) prog_14_method_29_code (4 : Nat) (Option.none : Option FieldType)) ∈ ob_g := ob_w7 127 rfl rfl
theorem w_1568 : (Cond.methodLink "OrbitBoxModel" (330 : Nat) ({ cls := "OrbitBoxModel", name := "actFunction", desc := "()V" } : MethodName)) ∈ ob_g := ob_w7 128 rfl rfl
theorem w_1570 : (Cond.instanceMethod ({ cls := "OrbitBoxModel", name := "actFunction", desc := "()V" } : MethodName)) ∈ ob_g := ob_w7 130 rfl rfl
theorem w_1571 : (Cond.code ({ cls := "OrbitBoxModel", name := "actFunction", desc := "()V" } : MethodName) prog_14_method_31_code (4 : Nat) (Option.none : Option FieldType)) ∈ ob_g := ob_w7 131 rfl rfl
theorem w_1572 : (Cond.methodLink "OrbitBoxModel" (363 : Nat) ({ cls := "OrbitBoxModel", name := "becomes", desc := "(I)V" } : MethodName)) ∈ ob_g := ob_w7 132 rfl rfl
theorem w_1574 : (Cond.instanceMethod ({ cls := "OrbitBoxModel", name := "becomes", desc := "(I)V" } : MethodName)) ∈ ob_g := ob_w7 134 rfl rfl
theorem w_1575 : (Cond.code ({ cls := "OrbitBoxModel", name := "becomes", desc := "(I)V" } : MethodName) prog_14_method_32_code (3 : Nat) (Option.none : Option FieldType)) ∈ ob_g := ob_w7 135 rfl rfl
theorem w_1576 : (Cond.methodLink "OrbitBoxModel" (366 : Nat) ({ cls := "OrbitBoxModel", name := "raise", desc := "(II)V" } : MethodName)) ∈ ob_g := ob_w7 136 rfl rfl
theorem w_1578 : (Cond.instanceMethod ({ cls := "OrbitBoxModel", name := "raise", desc := "(II)V" } : MethodName)) ∈ ob_g := ob_w7 138 rfl rfl
theorem w_1579 : (Cond.code ({ cls := "OrbitBoxModel", name := "raise", desc := "(II)V" } : MethodName) prog_14_method_41_code (3 : Nat) (Option.none : Option FieldType)) ∈ ob_g := ob_w7 139 rfl rfl
theorem w_1580 : (Cond.methodLink "OrbitBoxModel" (333 : Nat) ({ cls := "OrbitBoxModel", name := "actTable", desc := "(I)V" } : MethodName)) ∈ ob_g := ob_w7 140 rfl rfl
theorem w_1582 : (Cond.instanceMethod ({ cls := "OrbitBoxModel", name := "actTable", desc := "(I)V" } : MethodName)) ∈ ob_g := ob_w7 142 rfl rfl
theorem w_1583 : (Cond.code ({ cls := "OrbitBoxModel", name := "actTable", desc := "(I)V" } : MethodName) prog_14_method_37_code (5 : Nat) (Option.none : Option FieldType)) ∈ ob_g := ob_w7 143 rfl rfl
theorem w_1584 : (Cond.methodLink "OrbitBoxModel" (336 : Nat) ({ cls := "OrbitBoxModel", name := "actLimit", desc := "(I)V" } : MethodName)) ∈ ob_g := ob_w7 144 rfl rfl
theorem w_1586 : (Cond.instanceMethod ({ cls := "OrbitBoxModel", name := "actLimit", desc := "(I)V" } : MethodName)) ∈ ob_g := ob_w7 146 rfl rfl
theorem w_1587 : (Cond.code ({ cls := "OrbitBoxModel", name := "actLimit", desc := "(I)V" } : MethodName) prog_14_method_39_code (3 : Nat) (Option.none : Option FieldType)) ∈ ob_g := ob_w7 147 rfl rfl
theorem w_1588 : (Cond.methodLink "OrbitBoxModel" (339 : Nat) ({ cls := "OrbitBoxModel", name := "actStore", desc := "(I)V" } : MethodName)) ∈ ob_g := ob_w7 148 rfl rfl
theorem w_1590 : (Cond.instanceMethod ({ cls := "OrbitBoxModel", name := "actStore", desc := "(I)V" } : MethodName)) ∈ ob_g := ob_w7 150 rfl rfl
theorem w_1591 : (Cond.code ({ cls := "OrbitBoxModel", name := "actStore", desc := "(I)V" } : MethodName) prog_14_method_53_code (2 : Nat) (Option.none : Option FieldType)) ∈ ob_g := ob_w7 151 rfl rfl
theorem w_1592 : (Cond.methodLink "OrbitBoxModel" (342 : Nat) ({ cls := "OrbitBoxModel", name := "actAction", desc := "(I)V" } : MethodName)) ∈ ob_g := ob_w7 152 rfl rfl
theorem w_1594 : (Cond.instanceMethod ({ cls := "OrbitBoxModel", name := "actAction", desc := "(I)V" } : MethodName)) ∈ ob_g := ob_w7 154 rfl rfl
theorem w_1595 : (Cond.code ({ cls := "OrbitBoxModel", name := "actAction", desc := "(I)V" } : MethodName) prog_14_method_43_code (4 : Nat) (Option.none : Option FieldType)) ∈ ob_g := ob_w7 155 rfl rfl
theorem w_1596 : (Cond.methodLink "OrbitBoxModel" (478 : Nat) ({ cls := "OrbitBoxModel", name := "watch", desc := "(I)V" } : MethodName)) ∈ ob_g := ob_w7 156 rfl rfl
theorem w_1598 : (Cond.instanceMethod ({ cls := "OrbitBoxModel", name := "watch", desc := "(I)V" } : MethodName)) ∈ ob_g := ob_w7 158 rfl rfl
theorem w_1599 : (Cond.code ({ cls := "OrbitBoxModel", name := "watch", desc := "(I)V" } : MethodName) prog_14_method_40_code (3 : Nat) (Option.none : Option FieldType)) ∈ ob_g := ob_w7 159 rfl rfl
theorem w_1600 : (Cond.methodLink "OrbitBoxModel" (481 : Nat) ({ cls := "OrbitBoxModel", name := "workEvents", desc := "()V" } : MethodName)) ∈ ob_g := ob_w7 160 rfl rfl
theorem w_1602 : (Cond.instanceMethod ({ cls := "OrbitBoxModel", name := "workEvents", desc := "()V" } : MethodName)) ∈ ob_g := ob_w7 162 rfl rfl
theorem w_1603 : (Cond.code ({ cls := "OrbitBoxModel", name := "workEvents", desc := "()V" } : MethodName) prog_14_method_44_code (5 : Nat) (Option.none : Option FieldType)) ∈ ob_g := ob_w7 163 rfl rfl
theorem w_1604 : (Cond.methodLink "OrbitBoxModel" (484 : Nat) ({ cls := "OrbitBoxModel", name := "retrieve", desc := "()V" } : MethodName)) ∈ ob_g := ob_w7 164 rfl rfl
theorem w_1606 : (Cond.instanceMethod ({ cls := "OrbitBoxModel", name := "retrieve", desc := "()V" } : MethodName)) ∈ ob_g := ob_w7 166 rfl rfl
theorem w_1607 : (Cond.code ({ cls := "OrbitBoxModel", name := "retrieve", desc := "()V" } : MethodName) prog_14_method_54_code (3 : Nat) (Option.none : Option FieldType)) ∈ ob_g := ob_w7 167 rfl rfl
theorem w_1608 : (Cond.methodLink "OrbitBoxModel" (490 : Nat) ({ cls := "OrbitBoxModel", name := "frame", desc := "(I)V" } : MethodName)) ∈ ob_g := ob_w7 168 rfl rfl
theorem w_1610 : (Cond.instanceMethod ({ cls := "OrbitBoxModel", name := "frame", desc := "(I)V" } : MethodName)) ∈ ob_g := ob_w7 170 rfl rfl
theorem w_1611 : (Cond.code ({ cls := "OrbitBoxModel", name := "frame", desc := "(I)V" } : MethodName) prog_14_method_57_code (7 : Nat) (Option.none : Option FieldType)) ∈ ob_g := ob_w7 171 rfl rfl
theorem w_1612 : (Cond.methodLink "OrbitBoxModel" (458 : Nat) ({ cls := "OrbitBoxModel", name := "empty", desc := "(II)V" } : MethodName)) ∈ ob_g := ob_w7 172 rfl rfl
theorem w_1614 : (Cond.instanceMethod ({ cls := "OrbitBoxModel", name := "empty", desc := "(II)V" } : MethodName)) ∈ ob_g := ob_w7 174 rfl rfl
theorem w_1615 : (Cond.code ({ cls := "OrbitBoxModel", name := "empty", desc := "(II)V" } : MethodName) prog_14_method_56_code (5 : Nat) (Option.none : Option FieldType)) ∈ ob_g := ob_w7 175 rfl rfl
theorem w_1616 : (Cond.methodLink "OrbitBoxModel" (464 : Nat) ({ cls := "OrbitBoxModel", name := "theWord", desc := "()I" } : MethodName)) ∈ ob_g := ob_w7 176 rfl rfl
theorem w_1618 : (Cond.instanceMethod ({ cls := "OrbitBoxModel", name := "theWord", desc := "()I" } : MethodName)) ∈ ob_g := ob_w7 178 rfl rfl
theorem w_1619 : (Cond.code ({ cls := "OrbitBoxModel", name := "theWord", desc := "()I" } : MethodName) prog_14_method_58_code (2 : Nat) (Option.some FieldType.int)) ∈ ob_g := ob_w7 179 rfl rfl
theorem w_1620 : (Cond.constant "OrbitBoxModel" (467 : Nat) (16777216 : Int32)) ∈ ob_g := ob_w7 180 rfl rfl
theorem w_1621 : (Cond.methodLink "OrbitBoxLaw" (61 : Nat) ({ cls := "OrbitBoxModel", name := "down", desc := "(II)I" } : MethodName)) ∈ ob_g := ob_w7 181 rfl rfl
theorem w_1622 : (Cond.instanceMethod ({ cls := "OrbitBoxModel", name := "down", desc := "(II)I" } : MethodName)) ∈ ob_g := ob_w7 182 rfl rfl
theorem w_1623 : (Cond.selects "OrbitBoxModel" ({ cls := "OrbitBoxModel", name := "down", desc := "(II)I" } : MethodName) ({ cls := "OrbitBoxModel", name := "down", desc := "(II)I" } : MethodName)) ∈ ob_g := ob_w7 183 rfl rfl
theorem w_1624 : (Cond.code ({ cls := "OrbitBoxModel", name := "down", desc := "(II)I" } : MethodName) prog_14_method_66_code (3 : Nat) (Option.some FieldType.int)) ∈ ob_g := ob_w7 184 rfl rfl
theorem w_1625 : (Cond.methodLink "OrbitBoxLaw" (68 : Nat) ({ cls := "OrbitBoxModel", name := "value", desc := "(I)I" } : MethodName)) ∈ ob_g := ob_w7 185 rfl rfl
theorem w_1626 : (Cond.instanceMethod ({ cls := "OrbitBoxModel", name := "value", desc := "(I)I" } : MethodName)) ∈ ob_g := ob_w7 186 rfl rfl
theorem w_1627 : (Cond.selects "OrbitBoxModel" ({ cls := "OrbitBoxModel", name := "value", desc := "(I)I" } : MethodName) ({ cls := "OrbitBoxModel", name := "value", desc := "(I)I" } : MethodName)) ∈ ob_g := ob_w7 187 rfl rfl
theorem w_1628 : (Cond.code ({ cls := "OrbitBoxModel", name := "value", desc := "(I)I" } : MethodName) prog_14_method_67_code (2 : Nat) (Option.some FieldType.int)) ∈ ob_g := ob_w7 188 rfl rfl
theorem w_1629 : (Cond.methodLink "OrbitBoxLaw" (72 : Nat) ({ cls := "OrbitBoxModel", name := "word", desc := "()I" } : MethodName)) ∈ ob_g := ob_w7 189 rfl rfl
theorem w_1630 : (Cond.instanceMethod ({ cls := "OrbitBoxModel", name := "word", desc := "()I" } : MethodName)) ∈ ob_g := ob_w7 190 rfl rfl
theorem w_1631 : (Cond.selects "OrbitBoxModel" ({ cls := "OrbitBoxModel", name := "word", desc := "()I" } : MethodName) ({ cls := "OrbitBoxModel", name := "word", desc := "()I" } : MethodName)) ∈ ob_g := ob_w7 191 rfl rfl
theorem w_1632 : (Cond.code ({ cls := "OrbitBoxModel", name := "word", desc := "()I" } : MethodName) prog_14_method_68_code (1 : Nat) (Option.some FieldType.int)) ∈ ob_g := ob_w7 192 rfl rfl
theorem w_1633 : (Cond.methodLink "OrbitBoxLaw" (76 : Nat) ({ cls := "OrbitBoxModel", name := "memory", desc := "(I)I" } : MethodName)) ∈ ob_g := ob_w7 193 rfl rfl
theorem w_1634 : (Cond.instanceMethod ({ cls := "OrbitBoxModel", name := "memory", desc := "(I)I" } : MethodName)) ∈ ob_g := ob_w7 194 rfl rfl
theorem w_1635 : (Cond.selects "OrbitBoxModel" ({ cls := "OrbitBoxModel", name := "memory", desc := "(I)I" } : MethodName) ({ cls := "OrbitBoxModel", name := "memory", desc := "(I)I" } : MethodName)) ∈ ob_g := ob_w7 195 rfl rfl
theorem w_1636 : (Cond.code ({ cls := "OrbitBoxModel", name := "memory", desc := "(I)I" } : MethodName) prog_14_method_69_code (2 : Nat) (Option.some FieldType.int)) ∈ ob_g := ob_w7 196 rfl rfl
theorem w_1637 : (Cond.methodLink "OrbitBoxLaw" (79 : Nat) ({ cls := "OrbitBoxModel", name := "entry", desc := "(II)I" } : MethodName)) ∈ ob_g := ob_w7 197 rfl rfl
theorem w_1638 : (Cond.instanceMethod ({ cls := "OrbitBoxModel", name := "entry", desc := "(II)I" } : MethodName)) ∈ ob_g := ob_w7 198 rfl rfl
theorem w_1639 : (Cond.selects "OrbitBoxModel" ({ cls := "OrbitBoxModel", name := "entry", desc := "(II)I" } : MethodName) ({ cls := "OrbitBoxModel", name := "entry", desc := "(II)I" } : MethodName)) ∈ ob_g := ob_w7 199 rfl rfl
theorem w_1640 : (Cond.code ({ cls := "OrbitBoxModel", name := "entry", desc := "(II)I" } : MethodName) prog_14_method_70_code (4 : Nat) (Option.some FieldType.int)) ∈ ob_g := ob_w7 200 rfl rfl
theorem w_1641 : (Cond.methodLink "OrbitBoxLaw" (83 : Nat) ({ cls := "OrbitBoxModel", name := "limit", desc := "(II)I" } : MethodName)) ∈ ob_g := ob_w7 201 rfl rfl
theorem w_1642 : (Cond.instanceMethod ({ cls := "OrbitBoxModel", name := "limit", desc := "(II)I" } : MethodName)) ∈ ob_g := ob_w7 202 rfl rfl
theorem w_1643 : (Cond.selects "OrbitBoxModel" ({ cls := "OrbitBoxModel", name := "limit", desc := "(II)I" } : MethodName) ({ cls := "OrbitBoxModel", name := "limit", desc := "(II)I" } : MethodName)) ∈ ob_g := ob_w7 203 rfl rfl
theorem w_1644 : (Cond.code ({ cls := "OrbitBoxModel", name := "limit", desc := "(II)I" } : MethodName) prog_14_method_71_code (3 : Nat) (Option.some FieldType.int)) ∈ ob_g := ob_w7 204 rfl rfl
theorem w_1645 : (Cond.methodLink "OrbitBoxLaw" (87 : Nat) ({ cls := "OrbitBoxModel", name := "state", desc := "(I)I" } : MethodName)) ∈ ob_g := ob_w7 205 rfl rfl
theorem w_1646 : (Cond.instanceMethod ({ cls := "OrbitBoxModel", name := "state", desc := "(I)I" } : MethodName)) ∈ ob_g := ob_w7 206 rfl rfl
theorem w_1647 : (Cond.selects "OrbitBoxModel" ({ cls := "OrbitBoxModel", name := "state", desc := "(I)I" } : MethodName) ({ cls := "OrbitBoxModel", name := "state", desc := "(I)I" } : MethodName)) ∈ ob_g := ob_w7 207 rfl rfl
theorem w_1648 : (Cond.code ({ cls := "OrbitBoxModel", name := "state", desc := "(I)I" } : MethodName) prog_14_method_72_code (2 : Nat) (Option.some FieldType.int)) ∈ ob_g := ob_w7 208 rfl rfl
theorem w_1649 : (Cond.arrayClass FieldType.long) ∈ ob_g := ob_w7 209 rfl rfl
