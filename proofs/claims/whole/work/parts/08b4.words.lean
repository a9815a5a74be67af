-- words
theorem w_720 : (Cond.instanceMethod ({ cls := "OrbitBox$Timetable", name := "canShift", desc := "(II)Z" } : MethodName)) ∈ ob_g := ob_w4 0 rfl rfl
theorem w_721 : (Cond.selects "OrbitBox$Timetable" ({ cls := "OrbitBox$Timetable", name := "canShift", desc := "(II)Z" } : MethodName) ({ cls := "OrbitBox$Timetable", name := "canShift", desc := "(II)Z" } : MethodName)) ∈ ob_g := ob_w4 1 rfl rfl
theorem w_722 : (Cond.code ({ cls := "OrbitBox$Timetable", name := "canShift", desc := "(II)Z" } : MethodName) prog_12_method_10_code (6 : Nat) (Option.some FieldType.boolean)) ∈ ob_g := ob_w4 2 rfl rfl
theorem w_723 : (Cond.methodLink "OrbitBox$Handler" (209 : Nat) ({ cls := "OrbitBox$Handler", name := "newLimitFailure", desc := "()I" } : MethodName)) ∈ ob_g := ob_w4 3 rfl rfl
theorem w_725 : (Cond.instanceMethod ({ cls := "OrbitBox$Handler", name := "newLimitFailure", desc := "()I" } : MethodName)) ∈ ob_g := ob_w4 5 rfl rfl
theorem w_726 : (Cond.code ({ cls := "OrbitBox$Handler", name := "newLimitFailure", desc := "()I" } : MethodName) prog_6_method_22_code (1 : Nat) (Option.some FieldType.int)) ∈ ob_g := ob_w4 6 rfl rfl
theorem w_727 : (Cond.methodLink "OrbitBox$Handler" (212 : Nat) ({ cls := "OrbitBox$Reports", name := "isService", desc := "(I)Z" } : MethodName)) ∈ ob_g := ob_w4 7 rfl rfl
theorem w_728 : (Cond.methodLink "OrbitBox$Handler" (218 : Nat) ({ cls := "OrbitBox$Handler", name := "newActionFailure", desc := "(I)I" } : MethodName)) ∈ ob_g := ob_w4 8 rfl rfl
theorem w_730 : (Cond.instanceMethod ({ cls := "OrbitBox$Handler", name := "newActionFailure", desc := "(I)I" } : MethodName)) ∈ ob_g := ob_w4 10 rfl rfl
theorem w_731 : (Cond.code ({ cls := "OrbitBox$Handler", name := "newActionFailure", desc := "(I)I" } : MethodName) prog_6_method_23_code (2 : Nat) (Option.some FieldType.int)) ∈ ob_g := ob_w4 11 rfl rfl
theorem w_732 : (Cond.methodLink "OrbitBox$Handler" (221 : Nat) ({ cls := "OrbitBox$Handler", name := "actionFailure", desc := "(IZ)I" } : MethodName)) ∈ ob_g := ob_w4 12 rfl rfl
theorem w_734 : (Cond.instanceMethod ({ cls := "OrbitBox$Handler", name := "actionFailure", desc := "(IZ)I" } : MethodName)) ∈ ob_g := ob_w4 14 rfl rfl
theorem w_735 : (Cond.code ({ cls := "OrbitBox$Handler", name := "actionFailure", desc := "(IZ)I" } : MethodName) prog_6_method_24_code (3 : Nat) (Option.some FieldType.int)) ∈ ob_g := ob_w4 15 rfl rfl
theorem w_736 : (Cond.methodLink "OrbitBox$Handler" (160 : Nat) ({ cls := "OrbitBox$Handler", name := "perform", desc := "(I)V" } : MethodName)) ∈ ob_g := ob_w4 16 rfl rfl
theorem w_738 : (Cond.instanceMethod ({ cls := "OrbitBox$Handler", name := "perform", desc := "(I)V" } : MethodName)) ∈ ob_g := ob_w4 18 rfl rfl
theorem w_739 : (Cond.code ({ cls := "OrbitBox$Handler", name := "perform", desc := "(I)V" } : MethodName) prog_6_method_25_code (2 : Nat) (Option.none : Option FieldType)) ∈ ob_g := ob_w4 19 rfl rfl
theorem w_740 : (Cond.methodLink "OrbitBox$Handler" (250 : Nat) ({ cls := "OrbitBox$Handler", name := "addForm", desc := "()V" } : MethodName)) ∈ ob_g := ob_w4 20 rfl rfl
theorem w_742 : (Cond.instanceMethod ({ cls := "OrbitBox$Handler", name := "addForm", desc := "()V" } : MethodName)) ∈ ob_g := ob_w4 22 rfl rfl
theorem w_743 : (Cond.code ({ cls := "OrbitBox$Handler", name := "addForm", desc := "()V" } : MethodName) prog_6_method_26_code (4 : Nat) (Option.none : Option FieldType)) ∈ ob_g := ob_w4 23 rfl rfl
theorem w_744 : (Cond.methodLink "OrbitBox$Handler" (313 : Nat) ({ cls := "OrbitBox$Table", name := "add", desc := "(I)I" } : MethodName)) ∈ ob_g := ob_w4 24 rfl rfl
theorem w_745 : (Cond.instanceMethod ({ cls := "OrbitBox$Table", name := "add", desc := "(I)I" } : MethodName)) ∈ ob_g := ob_w4 25 rfl rfl
theorem w_746 : (Cond.selects "OrbitBox$Table" ({ cls := "OrbitBox$Table", name := "add", desc := "(I)I" } : MethodName) ({ cls := "OrbitBox$Table", name := "add", desc := "(I)I" } : MethodName)) ∈ ob_g := ob_w4 26 rfl rfl
theorem w_747 : (Cond.code ({ cls := "OrbitBox$Table", name := "add", desc := "(I)I" } : MethodName) prog_11_method_6_code (4 : Nat) (Option.some FieldType.int)) ∈ ob_g := ob_w4 27 rfl rfl
theorem w_748 : (Cond.methodLink "OrbitBox$Table" (25 : Nat) ({ cls := "OrbitBox$Table", name := "isFull", desc := "()Z" } : MethodName)) ∈ ob_g := ob_w4 28 rfl rfl
theorem w_749 : (Cond.methodLink "OrbitBox$Handler" (256 : Nat) ({ cls := "OrbitBox$Table", name := "set", desc := "(III)V" } : MethodName)) ∈ ob_g := ob_w4 29 rfl rfl
theorem w_750 : (Cond.instanceMethod ({ cls := "OrbitBox$Table", name := "set", desc := "(III)V" } : MethodName)) ∈ ob_g := ob_w4 30 rfl rfl
theorem w_751 : (Cond.selects "OrbitBox$Table" ({ cls := "OrbitBox$Table", name := "set", desc := "(III)V" } : MethodName) ({ cls := "OrbitBox$Table", name := "set", desc := "(III)V" } : MethodName)) ∈ ob_g := ob_w4 31 rfl rfl
theorem w_752 : (Cond.code ({ cls := "OrbitBox$Table", name := "set", desc := "(III)V" } : MethodName) prog_11_method_5_code (4 : Nat) (Option.none : Option FieldType)) ∈ ob_g := ob_w4 32 rfl rfl
theorem w_753 : (Cond.methodLink "OrbitBox$Handler" (315 : Nat) ({ cls := "java/lang/Math", name := "min", desc := "(II)I" } : MethodName)) ∈ ob_g := ob_w4 33 rfl rfl
theorem w_754 : (Cond.methodLink "OrbitBox$Handler" (253 : Nat) ({ cls := "OrbitBox$Table", name := "remove", desc := "(I)V" } : MethodName)) ∈ ob_g := ob_w4 34 rfl rfl
theorem w_755 : (Cond.instanceMethod ({ cls := "OrbitBox$Table", name := "remove", desc := "(I)V" } : MethodName)) ∈ ob_g := ob_w4 35 rfl rfl
theorem w_756 : (Cond.selects "OrbitBox$Table" ({ cls := "OrbitBox$Table", name := "remove", desc := "(I)V" } : MethodName) ({ cls := "OrbitBox$Table", name := "remove", desc := "(I)V" } : MethodName)) ∈ ob_g := ob_w4 36 rfl rfl
theorem w_757 : (Cond.code ({ cls := "OrbitBox$Table", name := "remove", desc := "(I)V" } : MethodName) prog_11_method_7_code (3 : Nat) (Option.none : Option FieldType)) ∈ ob_g := ob_w4 37 rfl rfl
theorem w_758 : (Cond.methodLink "OrbitBox$Handler" (134 : Nat) ({ cls := "OrbitBox$Handler", name := "sendForm", desc := "(I)V" } : MethodName)) ∈ ob_g := ob_w4 38 rfl rfl
theorem w_760 : (Cond.instanceMethod ({ cls := "OrbitBox$Handler", name := "sendForm", desc := "(I)V" } : MethodName)) ∈ ob_g := ob_w4 40 rfl rfl
theorem w_761 : (Cond.code ({ cls := "OrbitBox$Handler", name := "sendForm", desc := "(I)V" } : MethodName) prog_6_method_27_code (5 : Nat) (Option.none : Option FieldType)) ∈ ob_g := ob_w4 41 rfl rfl
theorem w_762 : (Cond.methodLink "OrbitBox$Handler" (320 : Nat) ({ cls := "OrbitBox$Craft", name := "read", desc := "(I)I" } : MethodName)) ∈ ob_g := ob_w4 42 rfl rfl
theorem w_763 : (Cond.instanceMethod ({ cls := "OrbitBox$Craft", name := "read", desc := "(I)I" } : MethodName)) ∈ ob_g := ob_w4 43 rfl rfl
theorem w_764 : (Cond.selects "OrbitBox$Craft" ({ cls := "OrbitBox$Craft", name := "read", desc := "(I)I" } : MethodName) ({ cls := "OrbitBox$Craft", name := "read", desc := "(I)I" } : MethodName)) ∈ ob_g := ob_w4 44 rfl rfl
theorem w_765 : (Cond.code ({ cls := "OrbitBox$Craft", name := "read", desc := "(I)I" } : MethodName) prog_2_method_2_code (2 : Nat) (Option.some FieldType.int)) ∈ ob_g := ob_w4 45 rfl rfl
theorem w_766 : (Cond.methodLink "OrbitBox$Handler" (260 : Nat) ({ cls := "OrbitBox$Handler", name := "setSilent", desc := "(IZ)V" } : MethodName)) ∈ ob_g := ob_w4 46 rfl rfl
theorem w_768 : (Cond.instanceMethod ({ cls := "OrbitBox$Handler", name := "setSilent", desc := "(IZ)V" } : MethodName)) ∈ ob_g := ob_w4 48 rfl rfl
theorem w_769 : (Cond.code ({ cls := "OrbitBox$Handler", name := "setSilent", desc := "(IZ)V" } : MethodName) prog_6_method_28_code (3 : Nat) (Option.none : Option FieldType)) ∈ ob_g := ob_w4 49 rfl rfl
theorem w_770 : (Cond.methodLink "OrbitBox$Handler" (264 : Nat) ({ cls := "OrbitBox$Handler", name := "load", desc := "()V" } : MethodName)) ∈ ob_g := ob_w4 50 rfl rfl
theorem w_772 : (Cond.instanceMethod ({ cls := "OrbitBox$Handler", name := "load", desc := "()V" } : MethodName)) ∈ ob_g := ob_w4 52 rfl rfl
theorem w_773 : (Cond.code ({ cls := "OrbitBox$Handler", name := "load", desc := "()V" } : MethodName) prog_6_method_29_code (3 : Nat) (Option.none : Option FieldType)) ∈ ob_g := ob_w4 53 rfl rfl
theorem w_774 : (Cond.methodLink "OrbitBox$Handler" (326 : Nat) ({ cls := "OrbitBox$Row", name := "replace", desc := "(III)V" } : MethodName)) ∈ ob_g := ob_w4 54 rfl rfl
theorem w_775 : (Cond.methodLink "OrbitBox$Handler" (267 : Nat) ({ cls := "OrbitBox$Handler", name := "dump", desc := "()V" } : MethodName)) ∈ ob_g := ob_w4 55 rfl rfl
theorem w_777 : (Cond.instanceMethod ({ cls := "OrbitBox$Handler", name := "dump", desc := "()V" } : MethodName)) ∈ ob_g := ob_w4 57 rfl rfl
theorem w_778 : (Cond.code ({ cls := "OrbitBox$Handler", name := "dump", desc := "()V" } : MethodName) prog_6_method_30_code (2 : Nat) (Option.none : Option FieldType)) ∈ ob_g := ob_w4 58 rfl rfl
theorem w_779 : (Cond.methodLink "OrbitBox$Handler" (329 : Nat) ({ cls := "OrbitBox$Row", name := "addPart", desc := "(LOrbitBox$Row;II)V" } : MethodName)) ∈ ob_g := ob_w4 59 rfl rfl
theorem w_780 : (Cond.methodLink "OrbitBox$Handler" (270 : Nat) ({ cls := "OrbitBox$Handler", name := "sendMemoryCheck", desc := "()V" } : MethodName)) ∈ ob_g := ob_w4 60 rfl rfl
theorem w_782 : (Cond.instanceMethod ({ cls := "OrbitBox$Handler", name := "sendMemoryCheck", desc := "()V" } : MethodName)) ∈ ob_g := ob_w4 62 rfl rfl
theorem w_783 : (Cond.code ({ cls := "OrbitBox$Handler", name := "sendMemoryCheck", desc := "()V" } : MethodName) prog_6_method_31_code (2 : Nat) (Option.none : Option FieldType)) ∈ ob_g := ob_w4 63 rfl rfl
theorem w_784 : (Cond.methodLink "OrbitBox$Handler" (273 : Nat) ({ cls := "OrbitBox$Handler", name := "performFunction", desc := "(III)V" } : MethodName)) ∈ ob_g := ob_w4 64 rfl rfl
theorem w_786 : (Cond.instanceMethod ({ cls := "OrbitBox$Handler", name := "performFunction", desc := "(III)V" } : MethodName)) ∈ ob_g := ob_w4 66 rfl rfl
theorem w_787 : (Cond.code ({ cls := "OrbitBox$Handler", name := "performFunction", desc := "(III)V" } : MethodName) prog_6_method_32_code (4 : Nat) (Option.none : Option FieldType)) ∈ ob_g := ob_w4 67 rfl rfl
theorem w_788 : (Cond.methodLink "OrbitBox$Handler" (333 : Nat) ({ cls := "OrbitBox$Craft", name := "actuate", desc := "(II)V" } : MethodName)) ∈ ob_g := ob_w4 68 rfl rfl
theorem w_789 : (Cond.instanceMethod ({ cls := "OrbitBox$Craft", name := "actuate", desc := "(II)V" } : MethodName)) ∈ ob_g := ob_w4 69 rfl rfl
theorem w_790 : (Cond.selects "OrbitBox$Craft" ({ cls := "OrbitBox$Craft", name := "actuate", desc := "(II)V" } : MethodName) ({ cls := "OrbitBox$Craft", name := "actuate", desc := "(II)V" } : MethodName)) ∈ ob_g := ob_w4 70 rfl rfl
theorem w_791 : (Cond.code ({ cls := "OrbitBox$Craft", name := "actuate", desc := "(II)V" } : MethodName) prog_2_method_3_code (3 : Nat) (Option.none : Option FieldType)) ∈ ob_g := ob_w4 71 rfl rfl
theorem w_792 : (Cond.methodLink "OrbitBox$Handler" (336 : Nat) ({ cls := "OrbitBox$Craft", name := "changeMode", desc := "(I)V" } : MethodName)) ∈ ob_g := ob_w4 72 rfl rfl
theorem w_793 : (Cond.instanceMethod ({ cls := "OrbitBox$Craft", name := "changeMode", desc := "(I)V" } : MethodName)) ∈ ob_g := ob_w4 73 rfl rfl
theorem w_794 : (Cond.selects "OrbitBox$Craft" ({ cls := "OrbitBox$Craft", name := "changeMode", desc := "(I)V" } : MethodName) ({ cls := "OrbitBox$Craft", name := "changeMode", desc := "(I)V" } : MethodName)) ∈ ob_g := ob_w4 74 rfl rfl
theorem w_795 : (Cond.code ({ cls := "OrbitBox$Craft", name := "changeMode", desc := "(I)V" } : MethodName) prog_2_method_4_code (3 : Nat) (Option.none : Option FieldType)) ∈ ob_g := ob_w4 75 rfl rfl
theorem w_796 : (Cond.methodLink "OrbitBox$Craft" (102 : Nat) ({ cls := "OrbitBox$Events", name := "raise", desc := "(II)V" } : MethodName)) ∈ ob_g := ob_w4 76 rfl rfl
theorem w_797 : (Cond.instanceMethod ({ cls := "OrbitBox$Events", name := "raise", desc := "(II)V" } : MethodName)) ∈ ob_g := ob_w4 77 rfl rfl
theorem w_798 : (Cond.selects "OrbitBox$Events" ({ cls := "OrbitBox$Events", name := "raise", desc := "(II)V" } : MethodName) ({ cls := "OrbitBox$Events", name := "raise", desc := "(II)V" } : MethodName)) ∈ ob_g := ob_w4 78 rfl rfl
theorem w_799 : (Cond.code ({ cls := "OrbitBox$Events", name := "raise", desc := "(II)V" } : MethodName) prog_4_method_4_code (3 : Nat) (Option.none : Option FieldType)) ∈ ob_g := ob_w4 79 rfl rfl
theorem w_800 : (Cond.methodLink "OrbitBox$Events" (41 : Nat) ({ cls := "OrbitBox$Ring", name := "hasRoom", desc := "(I)Z" } : MethodName)) ∈ ob_g := ob_w4 80 rfl rfl
theorem w_801 : (Cond.methodLink "OrbitBox$Events" (45 : Nat) ({ cls := "OrbitBox$Ring", name := "put", desc := "(I)V" } : MethodName)) ∈ ob_g := ob_w4 81 rfl rfl
theorem w_802 : (Cond.fieldLink "OrbitBox$Craft" (106 : Nat) "OrbitBox$Craft" "SAFE_ACTUATORS" "[I") ∈ ob_g := ob_w4 82 rfl rfl
theorem w_804 : (Cond.methodLink "OrbitBox$Handler" (339 : Nat) ({ cls := "OrbitBox$Events", name := "raise", desc := "(II)V" } : MethodName)) ∈ ob_g := ob_w4 84 rfl rfl
theorem w_805 : (Cond.methodLink "OrbitBox$Handler" (277 : Nat) ({ cls := "OrbitBox$Timetable", name := "add", desc := "(ILOrbitBox$Row;II)V" } : MethodName)) ∈ ob_g := ob_w4 85 rfl rfl
theorem w_806 : (Cond.instanceMethod ({ cls := "OrbitBox$Timetable", name := "add", desc := "(ILOrbitBox$Row;II)V" } : MethodName)) ∈ ob_g := ob_w4 86 rfl rfl
theorem w_807 : (Cond.selects "OrbitBox$Timetable" ({ cls := "OrbitBox$Timetable", name := "add", desc := "(ILOrbitBox$Row;II)V" } : MethodName) ({ cls := "OrbitBox$Timetable", name := "add", desc := "(ILOrbitBox$Row;II)V" } : MethodName)) ∈ ob_g := ob_w4 87 rfl rfl
theorem w_808 : (Cond.code ({ cls := "OrbitBox$Timetable", name := "add", desc := "(ILOrbitBox$Row;II)V" } : MethodName) prog_12_method_5_code (7 : Nat) (Option.none : Option FieldType)) ∈ ob_g := ob_w4 88 rfl rfl
theorem w_809 : (Cond.methodLink "OrbitBox$Timetable" (32 : Nat) ({ cls := "OrbitBox$Timetable", name := "isFull", desc := "()Z" } : MethodName)) ∈ ob_g := ob_w4 89 rfl rfl
theorem w_810 : (Cond.methodLink "OrbitBox$Handler" (280 : Nat) ({ cls := "OrbitBox$Timetable", name := "removeAll", desc := "(I)V" } : MethodName)) ∈ ob_g := ob_w4 90 rfl rfl
theorem w_811 : (Cond.instanceMethod ({ cls := "OrbitBox$Timetable", name := "removeAll", desc := "(I)V" } : MethodName)) ∈ ob_g := ob_w4 91 rfl rfl
theorem w_812 : (Cond.selects "OrbitBox$Timetable" ({ cls := "OrbitBox$Timetable", name := "removeAll", desc := "(I)V" } : MethodName) ({ cls := "OrbitBox$Timetable", name := "removeAll", desc := "(I)V" } : MethodName)) ∈ ob_g := ob_w4 92 rfl rfl
theorem w_813 : (Cond.code ({ cls := "OrbitBox$Timetable", name := "removeAll", desc := "(I)V" } : MethodName) prog_12_method_9_code (3 : Nat) (Option.none : Option FieldType)) ∈ ob_g := ob_w4 93 rfl rfl
theorem w_814 : (Cond.methodLink "OrbitBox$Handler" (283 : Nat) ({ cls := "OrbitBox$Timetable", name := "shift", desc := "(I)V" } : MethodName)) ∈ ob_g := ob_w4 94 rfl rfl
theorem w_815 : (Cond.instanceMethod ({ cls := "OrbitBox$Timetable", name := "shift", desc := "(I)V" } : MethodName)) ∈ ob_g := ob_w4 95 rfl rfl
theorem w_816 : (Cond.selects "OrbitBox$Timetable" ({ cls := "OrbitBox$Timetable", name := "shift", desc := "(I)V" } : MethodName) ({ cls := "OrbitBox$Timetable", name := "shift", desc := "(I)V" } : MethodName)) ∈ ob_g := ob_w4 96 rfl rfl
theorem w_817 : (Cond.code ({ cls := "OrbitBox$Timetable", name := "shift", desc := "(I)V" } : MethodName) prog_12_method_11_code (3 : Nat) (Option.none : Option FieldType)) ∈ ob_g := ob_w4 97 rfl rfl
theorem w_818 : (Cond.methodLink "OrbitBox$Handler" (286 : Nat) ({ cls := "OrbitBox$Handler", name := "tellEntries", desc := "()V" } : MethodName)) ∈ ob_g := ob_w4 98 rfl rfl
theorem w_820 : (Cond.instanceMethod ({ cls := "OrbitBox$Handler", name := "tellEntries", desc := "()V" } : MethodName)) ∈ ob_g := ob_w4 100 rfl rfl
theorem w_821 : (Cond.code ({ cls := "OrbitBox$Handler", name := "tellEntries", desc := "()V" } : MethodName) prog_6_method_33_code (1 : Nat) (Option.none : Option FieldType)) ∈ ob_g := ob_w4 101 rfl rfl
theorem w_822 : (Cond.methodLink "OrbitBox$Handler" (342 : Nat) ({ cls := "OrbitBox$Timetable", name := "tell", desc := "(LOrbitBox$Row;)V" } : MethodName)) ∈ ob_g := ob_w4 102 rfl rfl
theorem w_823 : (Cond.instanceMethod ({ cls := "OrbitBox$Timetable", name := "tell", desc := "(LOrbitBox$Row;)V" } : MethodName)) ∈ ob_g := ob_w4 103 rfl rfl
theorem w_824 : (Cond.selects "OrbitBox$Timetable" ({ cls := "OrbitBox$Timetable", name := "tell", desc := "(LOrbitBox$Row;)V" } : MethodName) ({ cls := "OrbitBox$Timetable", name := "tell", desc := "(LOrbitBox$Row;)V" } : MethodName)) ∈ ob_g := ob_w4 104 rfl rfl
theorem w_825 : (Cond.code ({ cls := "OrbitBox$Timetable", name := "tell", desc := "(LOrbitBox$Row;)V" } : MethodName) prog_12_method_12_code (4 : Nat) (Option.none : Option FieldType)) ∈ ob_g := ob_w4 105 rfl rfl
theorem w_826 : (Cond.methodLink "OrbitBox$Timetable" (50 : Nat) ({ cls := "java/lang/Math", name := "min", desc := "(II)I" } : MethodName)) ∈ ob_g := ob_w4 106 rfl rfl
theorem w_827 : (Cond.methodLink "OrbitBox$Timetable" (55 : Nat) ({ cls := "OrbitBox$Row", name := "add", desc := "(II)V" } : MethodName)) ∈ ob_g := ob_w4 107 rfl rfl
theorem w_828 : (Cond.methodLink "OrbitBox$Handler" (289 : Nat) ({ cls := "OrbitBox$Handler", name := "switchLimit", desc := "(II)V" } : MethodName)) ∈ ob_g := ob_w4 108 rfl rfl
theorem w_830 : (Cond.instanceMethod ({ cls := "OrbitBox$Handler", name := "switchLimit", desc := "(II)V" } : MethodName)) ∈ ob_g := ob_w4 110 rfl rfl
theorem w_831 : (Cond.code ({ cls := "OrbitBox$Handler", name := "switchLimit", desc := "(II)V" } : MethodName) prog_6_method_34_code (3 : Nat) (Option.none : Option FieldType)) ∈ ob_g := ob_w4 111 rfl rfl
theorem w_832 : (Cond.methodLink "OrbitBox$Handler" (292 : Nat) ({ cls := "OrbitBox$Handler", name := "addLimit", desc := "()V" } : MethodName)) ∈ ob_g := ob_w4 112 rfl rfl
theorem w_834 : (Cond.instanceMethod ({ cls := "OrbitBox$Handler", name := "addLimit", desc := "()V" } : MethodName)) ∈ ob_g := ob_w4 114 rfl rfl
theorem w_835 : (Cond.code ({ cls := "OrbitBox$Handler", name := "addLimit", desc := "()V" } : MethodName) prog_6_method_35_code (2 : Nat) (Option.none : Option FieldType)) ∈ ob_g := ob_w4 115 rfl rfl
theorem w_836 : (Cond.methodLink "OrbitBox$Handler" (295 : Nat) ({ cls := "OrbitBox$Handler", name := "setStored", desc := "(IZ)V" } : MethodName)) ∈ ob_g := ob_w4 116 rfl rfl
theorem w_838 : (Cond.instanceMethod ({ cls := "OrbitBox$Handler", name := "setStored", desc := "(IZ)V" } : MethodName)) ∈ ob_g := ob_w4 118 rfl rfl
theorem w_839 : (Cond.code ({ cls := "OrbitBox$Handler", name := "setStored", desc := "(IZ)V" } : MethodName) prog_6_method_36_code (3 : Nat) (Option.none : Option FieldType)) ∈ ob_g := ob_w4 119 rfl rfl
theorem w_840 : (Cond.methodLink "OrbitBox$Handler" (298 : Nat) ({ cls := "OrbitBox$Reports", name := "beginRetrieval", desc := "(II)V" } : MethodName)) ∈ ob_g := ob_w4 120 rfl rfl
theorem w_841 : (Cond.instanceMethod ({ cls := "OrbitBox$Reports", name := "beginRetrieval", desc := "(II)V" } : MethodName)) ∈ ob_g := ob_w4 121 rfl rfl
theorem w_842 : (Cond.selects "OrbitBox$Reports" ({ cls := "OrbitBox$Reports", name := "beginRetrieval", desc := "(II)V" } : MethodName) ({ cls := "OrbitBox$Reports", name := "beginRetrieval", desc := "(II)V" } : MethodName)) ∈ ob_g := ob_w4 122 rfl rfl
theorem w_843 : (Cond.code ({ cls := "OrbitBox$Reports", name := "beginRetrieval", desc := "(II)V" } : MethodName) prog_8_method_7_code (3 : Nat) (Option.none : Option FieldType)) ∈ ob_g := ob_w4 123 rfl rfl
theorem w_844 : (Cond.methodLink "OrbitBox$Handler" (301 : Nat) ({ cls := "OrbitBox$Reports", name := "dropUpTo", desc := "(I)V" } : MethodName)) ∈ ob_g := ob_w4 124 rfl rfl
theorem w_845 : (Cond.instanceMethod ({ cls := "OrbitBox$Reports", name := "dropUpTo", desc := "(I)V" } : MethodName)) ∈ ob_g := ob_w4 125 rfl rfl
theorem w_846 : (Cond.selects "OrbitBox$Reports" ({ cls := "OrbitBox$Reports", name := "dropUpTo", desc := "(I)V" } : MethodName) ({ cls := "OrbitBox$Reports", name := "dropUpTo", desc := "(I)V" } : MethodName)) ∈ ob_g := ob_w4 126 rfl rfl
theorem w_847 : (Cond.code ({ cls := "OrbitBox$Reports", name := "dropUpTo", desc := "(I)V" } : MethodName) prog_8_method_6_code (3 : Nat) (Option.none : Option FieldType)) ∈ ob_g := ob_w4 127 rfl rfl
theorem w_848 : (Cond.methodLink "OrbitBox$Handler" (304 : Nat) ({ cls := "OrbitBox$Handler", name := "addAction", desc := "(I)V" } : MethodName)) ∈ ob_g := ob_w4 128 rfl rfl
theorem w_850 : (Cond.instanceMethod ({ cls := "OrbitBox$Handler", name := "addAction", desc := "(I)V" } : MethodName)) ∈ ob_g := ob_w4 130 rfl rfl
theorem w_851 : (Cond.code ({ cls := "OrbitBox$Handler", name := "addAction", desc := "(I)V" } : MethodName) prog_6_method_37_code (2 : Nat) (Option.none : Option FieldType)) ∈ ob_g := ob_w4 131 rfl rfl
theorem w_852 : (Cond.methodLink "OrbitBox$Handler" (352 : Nat) ({ cls := "OrbitBox$Row", name := "become", desc := "(LOrbitBox$Row;II)V" } : MethodName)) ∈ ob_g := ob_w4 132 rfl rfl
theorem w_853 : (Cond.methodLink "OrbitBox$Handler" (307 : Nat) ({ cls := "OrbitBox$Handler", name := "dropAction", desc := "(I)V" } : MethodName)) ∈ ob_g := ob_w4 133 rfl rfl
theorem w_855 : (Cond.instanceMethod ({ cls := "OrbitBox$Handler", name := "dropAction", desc := "(I)V" } : MethodName)) ∈ ob_g := ob_w4 135 rfl rfl
theorem w_856 : (Cond.code ({ cls := "OrbitBox$Handler", name := "dropAction", desc := "(I)V" } : MethodName) prog_6_method_38_code (2 : Nat) (Option.none : Option FieldType)) ∈ ob_g := ob_w4 136 rfl rfl
theorem w_857 : (Cond.methodLink "OrbitBox$Handler" (310 : Nat) ({ cls := "OrbitBox$Handler", name := "switchAction", desc := "(IZ)V" } : MethodName)) ∈ ob_g := ob_w4 137 rfl rfl
theorem w_859 : (Cond.instanceMethod ({ cls := "OrbitBox$Handler", name := "switchAction", desc := "(IZ)V" } : MethodName)) ∈ ob_g := ob_w4 139 rfl rfl
theorem w_860 : (Cond.code ({ cls := "OrbitBox$Handler", name := "switchAction", desc := "(IZ)V" } : MethodName) prog_6_method_39_code (3 : Nat) (Option.none : Option FieldType)) ∈ ob_g := ob_w4 140 rfl rfl
theorem w_861 : (Cond.methodLink "OrbitBox" (132 : Nat) ({ cls := "OrbitBox$Handler", name := "handleQueue", desc := "()V" } : MethodName)) ∈ ob_g := ob_w4 141 rfl rfl
theorem w_862 : (Cond.instanceMethod ({ cls := "OrbitBox$Handler", name := "handleQueue", desc := "()V" } : MethodName)) ∈ ob_g := ob_w4 142 rfl rfl
theorem w_863 : (Cond.selects "OrbitBox$Handler" ({ cls := "OrbitBox$Handler", name := "handleQueue", desc := "()V" } : MethodName) ({ cls := "OrbitBox$Handler", name := "handleQueue", desc := "()V" } : MethodName)) ∈ ob_g := ob_w4 143 rfl rfl
theorem w_864 : (Cond.code ({ cls := "OrbitBox$Handler", name := "handleQueue", desc := "()V" } : MethodName) prog_6_method_3_code (2 : Nat) (Option.none : Option FieldType)) ∈ ob_g := ob_w4 144 rfl rfl
theorem w_865 : (Cond.methodLink "OrbitBox$Handler" (79 : Nat) ({ cls := "OrbitBox$Gate", name := "takeOut", desc := "(LOrbitBox$Row;)Z" } : MethodName)) ∈ ob_g := ob_w4 145 rfl rfl
theorem w_866 : (Cond.instanceMethod ({ cls := "OrbitBox$Gate", name := "takeOut", desc := "(LOrbitBox$Row;)Z" } : MethodName)) ∈ ob_g := ob_w4 146 rfl rfl
theorem w_867 : (Cond.selects "OrbitBox$Gate" ({ cls := "OrbitBox$Gate", name := "takeOut", desc := "(LOrbitBox$Row;)Z" } : MethodName) ({ cls := "OrbitBox$Gate", name := "takeOut", desc := "(LOrbitBox$Row;)Z" } : MethodName)) ∈ ob_g := ob_w4 147 rfl rfl
theorem w_868 : (Cond.code ({ cls := "OrbitBox$Gate", name := "takeOut", desc := "(LOrbitBox$Row;)Z" } : MethodName) prog_5_method_10_code (2 : Nat) (Option.some FieldType.boolean)) ∈ ob_g := ob_w4 148 rfl rfl
theorem w_869 : (Cond.methodLink "OrbitBox$Handler" (83 : Nat) ({ cls := "OrbitBox$Gate", name := "stopWaiting", desc := "()V" } : MethodName)) ∈ ob_g := ob_w4 149 rfl rfl
theorem w_870 : (Cond.instanceMethod ({ cls := "OrbitBox$Gate", name := "stopWaiting", desc := "()V" } : MethodName)) ∈ ob_g := ob_w4 150 rfl rfl
theorem w_871 : (Cond.selects "OrbitBox$Gate" ({ cls := "OrbitBox$Gate", name := "stopWaiting", desc := "()V" } : MethodName) ({ cls := "OrbitBox$Gate", name := "stopWaiting", desc := "()V" } : MethodName)) ∈ ob_g := ob_w4 151 rfl rfl
theorem w_872 : (Cond.code ({ cls := "OrbitBox$Gate", name := "stopWaiting", desc := "()V" } : MethodName) prog_5_method_11_code (1 : Nat) (Option.none : Option FieldType)) ∈ ob_g := ob_w4 152 rfl rfl
theorem w_873 : (Cond.methodLink "OrbitBox" (135 : Nat) ({ cls := "OrbitBox$Craft", name := "watch", desc := "(LOrbitBox$Table;)V" } : MethodName)) ∈ ob_g := ob_w4 153 rfl rfl
theorem w_874 : (Cond.instanceMethod ({ cls := "OrbitBox$Craft", name := "watch", desc := "(LOrbitBox$Table;)V" } : MethodName)) ∈ ob_g := ob_w4 154 rfl rfl
theorem w_875 : (Cond.selects "OrbitBox$Craft" ({ cls := "OrbitBox$Craft", name := "watch", desc := "(LOrbitBox$Table;)V" } : MethodName) ({ cls := "OrbitBox$Craft", name := "watch", desc := "(LOrbitBox$Table;)V" } : MethodName)) ∈ ob_g := ob_w4 155 rfl rfl
theorem w_876 : (Cond.code ({ cls := "OrbitBox$Craft", name := "watch", desc := "(LOrbitBox$Table;)V" } : MethodName) prog_2_method_5_code (3 : Nat) (Option.none : Option FieldType)) ∈ ob_g := ob_w4 156 rfl rfl
theorem w_877 : (Cond.methodLink "OrbitBox$Craft" (112 : Nat) ({ cls := "OrbitBox$Table", name := "get", desc := "(II)I" } : MethodName)) ∈ ob_g := ob_w4 157 rfl rfl
theorem w_878 : (Cond.methodLink "OrbitBox$Craft" (116 : Nat) ({ cls := "OrbitBox$Craft", name := "watchOne", desc := "(LOrbitBox$Table;I)V" } : MethodName)) ∈ ob_g := ob_w4 158 rfl rfl
theorem w_880 : (Cond.instanceMethod ({ cls := "OrbitBox$Craft", name := "watchOne", desc := "(LOrbitBox$Table;I)V" } : MethodName)) ∈ ob_g := ob_w4 160 rfl rfl
theorem w_881 : (Cond.code ({ cls := "OrbitBox$Craft", name := "watchOne", desc := "(LOrbitBox$Table;I)V" } : MethodName) prog_2_method_6_code (5 : Nat) (Option.none : Option FieldType)) ∈ ob_g := ob_w4 161 rfl rfl
theorem w_882 : (Cond.methodLink "OrbitBox$Craft" (120 : Nat) ({ cls := "OrbitBox$Craft", name := "read", desc := "(I)I" } : MethodName)) ∈ ob_g := ob_w4 162 rfl rfl
theorem w_883 : (Cond.methodLink "OrbitBox$Craft" (124 : Nat) ({ cls := "OrbitBox$Table", name := "set", desc := "(III)V" } : MethodName)) ∈ ob_g := ob_w4 163 rfl rfl
theorem w_884 : (Cond.methodLink "OrbitBox" (139 : Nat) ({ cls := "OrbitBox$Handler", name := "workEvents", desc := "()V" } : MethodName)) ∈ ob_g := ob_w4 164 rfl rfl
theorem w_885 : (Cond.instanceMethod ({ cls := "OrbitBox$Handler", name := "workEvents", desc := "()V" } : MethodName)) ∈ ob_g := ob_w4 165 rfl rfl
theorem w_886 : (Cond.selects "OrbitBox$Handler" ({ cls := "OrbitBox$Handler", name := "workEvents", desc := "()V" } : MethodName) ({ cls := "OrbitBox$Handler", name := "workEvents", desc := "()V" } : MethodName)) ∈ ob_g := ob_w4 166 rfl rfl
theorem w_887 : (Cond.code ({ cls := "OrbitBox$Handler", name := "workEvents", desc := "()V" } : MethodName) prog_6_method_4_code (4 : Nat) (Option.none : Option FieldType)) ∈ ob_g := ob_w4 167 rfl rfl
theorem w_888 : (Cond.methodLink "OrbitBox$Handler" (97 : Nat) ({ cls := "OrbitBox$Ring", name := "take", desc := "()I" } : MethodName)) ∈ ob_g := ob_w4 168 rfl rfl
theorem w_889 : (Cond.instanceMethod ({ cls := "OrbitBox$Ring", name := "take", desc := "()I" } : MethodName)) ∈ ob_g := ob_w4 169 rfl rfl
theorem w_890 : (Cond.selects "OrbitBox$Ring" ({ cls := "OrbitBox$Ring", name := "take", desc := "()I" } : MethodName) ({ cls := "OrbitBox$Ring", name := "take", desc := "()I" } : MethodName)) ∈ ob_g := ob_w4 170 rfl rfl
theorem w_891 : (Cond.code ({ cls := "OrbitBox$Ring", name := "take", desc := "()I" } : MethodName) prog_9_method_6_code (2 : Nat) (Option.some FieldType.int)) ∈ ob_g := ob_w4 171 rfl rfl
theorem w_892 : (Cond.methodLink "OrbitBox$Ring" (36 : Nat) ({ cls := "OrbitBox$Ring", name := "get", desc := "(I)I" } : MethodName)) ∈ ob_g := ob_w4 172 rfl rfl
theorem w_893 : (Cond.instanceMethod ({ cls := "OrbitBox$Ring", name := "get", desc := "(I)I" } : MethodName)) ∈ ob_g := ob_w4 173 rfl rfl
theorem w_894 : (Cond.selects "OrbitBox$Ring" ({ cls := "OrbitBox$Ring", name := "get", desc := "(I)I" } : MethodName) ({ cls := "OrbitBox$Ring", name := "get", desc := "(I)I" } : MethodName)) ∈ ob_g := ob_w4 174 rfl rfl
theorem w_895 : (Cond.code ({ cls := "OrbitBox$Ring", name := "get", desc := "(I)I" } : MethodName) prog_9_method_5_code (3 : Nat) (Option.some FieldType.int)) ∈ ob_g := ob_w4 175 rfl rfl
theorem w_896 : (Cond.methodLink "OrbitBox$Ring" (40 : Nat) ({ cls := "OrbitBox$Ring", name := "drop", desc := "(I)V" } : MethodName)) ∈ ob_g := ob_w4 176 rfl rfl
theorem w_897 : (Cond.methodLink "OrbitBox$Handler" (101 : Nat) ({ cls := "OrbitBox$Events", name := "isTold", desc := "(I)Z" } : MethodName)) ∈ ob_g := ob_w4 177 rfl rfl
theorem w_898 : (Cond.instanceMethod ({ cls := "OrbitBox$Events", name := "isTold", desc := "(I)Z" } : MethodName)) ∈ ob_g := ob_w4 178 rfl rfl
theorem w_899 : (Cond.selects "OrbitBox$Events" ({ cls := "OrbitBox$Events", name := "isTold", desc := "(I)Z" } : MethodName) ({ cls := "OrbitBox$Events", name := "isTold", desc := "(I)Z" } : MethodName)) ∈ ob_g := ob_w4 179 rfl rfl
theorem w_900 : (Cond.code ({ cls := "OrbitBox$Events", name := "isTold", desc := "(I)Z" } : MethodName) prog_4_method_5_code (2 : Nat) (Option.some FieldType.boolean)) ∈ ob_g := ob_w4 180 rfl rfl
theorem w_901 : (Cond.methodLink "OrbitBox$Events" (51 : Nat) ({ cls := "OrbitBox$Events", name := "isThere", desc := "(I)Z" } : MethodName)) ∈ ob_g := ob_w4 181 rfl rfl
theorem w_902 : (Cond.methodLink "OrbitBox$Handler" (104 : Nat) ({ cls := "OrbitBox$Handler", name := "sendEvent", desc := "(II)V" } : MethodName)) ∈ ob_g := ob_w4 182 rfl rfl
theorem w_904 : (Cond.instanceMethod ({ cls := "OrbitBox$Handler", name := "sendEvent", desc := "(II)V" } : MethodName)) ∈ ob_g := ob_w4 184 rfl rfl
theorem w_905 : (Cond.code ({ cls := "OrbitBox$Handler", name := "sendEvent", desc := "(II)V" } : MethodName) prog_6_method_5_code (4 : Nat) (Option.none : Option FieldType)) ∈ ob_g := ob_w4 185 rfl rfl
theorem w_906 : (Cond.methodLink "OrbitBox$Handler" (108 : Nat) ({ cls := "OrbitBox$Events", name := "takeAction", desc := "(ILOrbitBox$Row;)Z" } : MethodName)) ∈ ob_g := ob_w4 186 rfl rfl
theorem w_907 : (Cond.instanceMethod ({ cls := "OrbitBox$Events", name := "takeAction", desc := "(ILOrbitBox$Row;)Z" } : MethodName)) ∈ ob_g := ob_w4 187 rfl rfl
theorem w_908 : (Cond.selects "OrbitBox$Events" ({ cls := "OrbitBox$Events", name := "takeAction", desc := "(ILOrbitBox$Row;)Z" } : MethodName) ({ cls := "OrbitBox$Events", name := "takeAction", desc := "(ILOrbitBox$Row;)Z" } : MethodName)) ∈ ob_g := ob_w4 188 rfl rfl
theorem w_909 : (Cond.code ({ cls := "OrbitBox$Events", name := "takeAction", desc := "(ILOrbitBox$Row;)Z" } : MethodName) prog_4_method_6_code (3 : Nat) (Option.some FieldType.boolean)) ∈ ob_g := ob_w4 189 rfl rfl
theorem w_910 : (Cond.methodLink "OrbitBox$Events" (57 : Nat) ({ cls := "OrbitBox$Row", name := "become", desc := "(LOrbitBox$Row;II)V" } : MethodName)) ∈ ob_g := ob_w4 190 rfl rfl
theorem w_911 : (Cond.methodLink "OrbitBox$Handler" (112 : Nat) ({ cls := "OrbitBox$Events", name := "loseRest", desc := "()V" } : MethodName)) ∈ ob_g := ob_w4 191 rfl rfl
theorem w_912 : (Cond.instanceMethod ({ cls := "OrbitBox$Events", name := "loseRest", desc := "()V" } : MethodName)) ∈ ob_g := ob_w4 192 rfl rfl
theorem w_913 : (Cond.selects "OrbitBox$Events" ({ cls := "OrbitBox$Events", name := "loseRest", desc := "()V" } : MethodName) ({ cls := "OrbitBox$Events", name := "loseRest", desc := "()V" } : MethodName)) ∈ ob_g := ob_w4 193 rfl rfl
theorem w_914 : (Cond.code ({ cls := "OrbitBox$Events", name := "loseRest", desc := "()V" } : MethodName) prog_4_method_7_code (1 : Nat) (Option.none : Option FieldType)) ∈ ob_g := ob_w4 194 rfl rfl
theorem w_915 : (Cond.methodLink "OrbitBox$Events" (61 : Nat) ({ cls := "OrbitBox$Events", name := "raisedCount", desc := "()I" } : MethodName)) ∈ ob_g := ob_w4 195 rfl rfl
theorem w_916 : (Cond.instanceMethod ({ cls := "OrbitBox$Events", name := "raisedCount", desc := "()I" } : MethodName)) ∈ ob_g := ob_w4 196 rfl rfl
theorem w_917 : (Cond.selects "OrbitBox$Events" ({ cls := "OrbitBox$Events", name := "raisedCount", desc := "()I" } : MethodName) ({ cls := "OrbitBox$Events", name := "raisedCount", desc := "()I" } : MethodName)) ∈ ob_g := ob_w4 197 rfl rfl
theorem w_918 : (Cond.code ({ cls := "OrbitBox$Events", name := "raisedCount", desc := "()I" } : MethodName) prog_4_method_3_code (1 : Nat) (Option.some FieldType.int)) ∈ ob_g := ob_w4 198 rfl rfl
theorem w_919 : (Cond.methodLink "OrbitBox$Events" (65 : Nat) ({ cls := "OrbitBox$Ring", name := "drop", desc := "(I)V" } : MethodName)) ∈ ob_g := ob_w4 199 rfl rfl
theorem w_920 : (Cond.methodLink "OrbitBox" (142 : Nat) ({ cls := "OrbitBox$Craft", name := "heedAlarm", desc := "()V" } : MethodName)) ∈ ob_g := ob_w4 200 rfl rfl
theorem w_921 : (Cond.instanceMethod ({ cls := "OrbitBox$Craft", name := "heedAlarm", desc := "()V" } : MethodName)) ∈ ob_g := ob_w4 201 rfl rfl
theorem w_922 : (Cond.selects "OrbitBox$Craft" ({ cls := "OrbitBox$Craft", name := "heedAlarm", desc := "()V" } : MethodName) ({ cls := "OrbitBox$Craft", name := "heedAlarm", desc := "()V" } : MethodName)) ∈ ob_g := ob_w4 202 rfl rfl
theorem w_923 : (Cond.code ({ cls := "OrbitBox$Craft", name := "heedAlarm", desc := "()V" } : MethodName) prog_2_method_7_code (1 : Nat) (Option.none : Option FieldType)) ∈ ob_g := ob_w4 203 rfl rfl
theorem w_924 : (Cond.methodLink "OrbitBox$Craft" (128 : Nat) ({ cls := "OrbitBox$Craft", name := "changeMode", desc := "(I)V" } : MethodName)) ∈ ob_g := ob_w4 204 rfl rfl
theorem w_925 : (Cond.methodLink "OrbitBox" (145 : Nat) ({ cls := "OrbitBox$Handler", name := "sendDueForms", desc := "()V" } : MethodName)) ∈ ob_g := ob_w4 205 rfl rfl
theorem w_926 : (Cond.instanceMethod ({ cls := "OrbitBox$Handler", name := "sendDueForms", desc := "()V" } : MethodName)) ∈ ob_g := ob_w4 206 rfl rfl
theorem w_927 : (Cond.selects "OrbitBox$Handler" ({ cls := "OrbitBox$Handler", name := "sendDueForms", desc := "()V" } : MethodName) ({ cls := "OrbitBox$Handler", name := "sendDueForms", desc := "()V" } : MethodName)) ∈ ob_g := ob_w4 207 rfl rfl
theorem w_928 : (Cond.code ({ cls := "OrbitBox$Handler", name := "sendDueForms", desc := "()V" } : MethodName) prog_6_method_6_code (3 : Nat) (Option.none : Option FieldType)) ∈ ob_g := ob_w4 208 rfl rfl
theorem w_929 : (Cond.methodLink "OrbitBox" (151 : Nat) ({ cls := "OrbitBox$Reports", name := "retrieve", desc := "(LOrbitBox$Ring;)V" } : MethodName)) ∈ ob_g := ob_w4 209 rfl rfl
theorem w_930 : (Cond.instanceMethod ({ cls := "OrbitBox$Reports", name := "retrieve", desc := "(LOrbitBox$Ring;)V" } : MethodName)) ∈ ob_g := ob_w4 210 rfl rfl
theorem w_931 : (Cond.selects "OrbitBox$Reports" ({ cls := "OrbitBox$Reports", name := "retrieve", desc := "(LOrbitBox$Ring;)V" } : MethodName) ({ cls := "OrbitBox$Reports", name := "retrieve", desc := "(LOrbitBox$Ring;)V" } : MethodName)) ∈ ob_g := ob_w4 211 rfl rfl
theorem w_932 : (Cond.code ({ cls := "OrbitBox$Reports", name := "retrieve", desc := "(LOrbitBox$Ring;)V" } : MethodName) prog_8_method_8_code (5 : Nat) (Option.none : Option FieldType)) ∈ ob_g := ob_w4 212 rfl rfl
theorem w_933 : (Cond.methodLink "OrbitBox$Reports" (104 : Nat) ({ cls := "OrbitBox$Reports", name := "copyStored", desc := "(ILOrbitBox$Ring;)V" } : MethodName)) ∈ ob_g := ob_w4 213 rfl rfl
theorem w_935 : (Cond.instanceMethod ({ cls := "OrbitBox$Reports", name := "copyStored", desc := "(ILOrbitBox$Ring;)V" } : MethodName)) ∈ ob_g := ob_w4 215 rfl rfl
theorem w_936 : (Cond.code ({ cls := "OrbitBox$Reports", name := "copyStored", desc := "(ILOrbitBox$Ring;)V" } : MethodName) prog_8_method_9_code (4 : Nat) (Option.none : Option FieldType)) ∈ ob_g := ob_w4 216 rfl rfl
theorem w_937 : (Cond.methodLink "OrbitBox$Reports" (108 : Nat) ({ cls := "OrbitBox$Ring", name := "get", desc := "(I)I" } : MethodName)) ∈ ob_g := ob_w4 217 rfl rfl
theorem w_938 : (Cond.methodLink "OrbitBox$Reports" (112 : Nat) ({ cls := "OrbitBox$Ring", name := "put", desc := "(I)V" } : MethodName)) ∈ ob_g := ob_w4 218 rfl rfl
theorem w_939 : (Cond.methodLink "OrbitBox" (155 : Nat) ({ cls := "OrbitBox$Gate", name := "asWord", desc := "()I" } : MethodName)) ∈ ob_g := ob_w4 219 rfl rfl
theorem w_940 : (Cond.instanceMethod ({ cls := "OrbitBox$Gate", name := "asWord", desc := "()I" } : MethodName)) ∈ ob_g := ob_w4 220 rfl rfl
theorem w_941 : (Cond.selects "OrbitBox$Gate" ({ cls := "OrbitBox$Gate", name := "asWord", desc := "()I" } : MethodName) ({ cls := "OrbitBox$Gate", name := "asWord", desc := "()I" } : MethodName)) ∈ ob_g := ob_w4 221 rfl rfl
theorem w_942 : (Cond.code ({ cls := "OrbitBox$Gate", name := "asWord", desc := "()I" } : MethodName) prog_5_method_12_code (1 : Nat) (Option.some FieldType.int)) ∈ ob_g := ob_w4 222 rfl rfl
theorem w_943 : (Cond.constant "OrbitBox$Gate" (88 : Nat) (16777216 : Int32)) ∈ ob_g := ob_w4 223 rfl rfl
theorem w_944 : (Cond.methodLink "OrbitBox" (159 : Nat) ({ cls := "OrbitBox$Downlink", name := "sendFrames", desc := "(I)I" } : MethodName)) ∈ ob_g := ob_w4 224 rfl rfl
theorem w_945 : (Cond.instanceMethod ({ cls := "OrbitBox$Downlink", name := "sendFrames", desc := "(I)I" } : MethodName)) ∈ ob_g := ob_w4 225 rfl rfl
theorem w_946 : (Cond.selects "OrbitBox$Downlink" ({ cls := "OrbitBox$Downlink", name := "sendFrames", desc := "(I)I" } : MethodName) ({ cls := "OrbitBox$Downlink", name := "sendFrames", desc := "(I)I" } : MethodName)) ∈ ob_g := ob_w4 226 rfl rfl
theorem w_947 : (Cond.code ({ cls := "OrbitBox$Downlink", name := "sendFrames", desc := "(I)I" } : MethodName) prog_3_method_2_code (5 : Nat) (Option.some FieldType.int)) ∈ ob_g := ob_w4 227 rfl rfl
theorem w_948 : (Cond.methodLink "OrbitBox$Downlink" (41 : Nat) ({ cls := "OrbitBox$Downlink", name := "writeFrame", desc := "(LOrbitBox$Row;II)V" } : MethodName)) ∈ ob_g := ob_w4 228 rfl rfl
theorem w_950 : (Cond.instanceMethod ({ cls := "OrbitBox$Downlink", name := "writeFrame", desc := "(LOrbitBox$Row;II)V" } : MethodName)) ∈ ob_g := ob_w4 230 rfl rfl
theorem w_951 : (Cond.code ({ cls := "OrbitBox$Downlink", name := "writeFrame", desc := "(LOrbitBox$Row;II)V" } : MethodName) prog_3_method_3_code (5 : Nat) (Option.none : Option FieldType)) ∈ ob_g := ob_w4 231 rfl rfl
theorem w_952 : (Cond.methodLink "OrbitBox$Downlink" (51 : Nat) ({ cls := "OrbitBox$Row", name := "add", desc := "(II)V" } : MethodName)) ∈ ob_g := ob_w4 232 rfl rfl
theorem w_953 : (Cond.methodLink "OrbitBox$Downlink" (58 : Nat) ({ cls := "OrbitBox$Downlink", name := "fillIdle", desc := "(LOrbitBox$Row;)I" } : MethodName)) ∈ ob_g := ob_w4 233 rfl rfl
theorem w_955 : (Cond.instanceMethod ({ cls := "OrbitBox$Downlink", name := "fillIdle", desc := "(LOrbitBox$Row;)I" } : MethodName)) ∈ ob_g := ob_w4 235 rfl rfl
theorem w_956 : (Cond.code ({ cls := "OrbitBox$Downlink", name := "fillIdle", desc := "(LOrbitBox$Row;)I" } : MethodName) prog_3_method_4_code (3 : Nat) (Option.some FieldType.int)) ∈ ob_g := ob_w4 236 rfl rfl
theorem w_957 : (Cond.methodLink "OrbitBox$Downlink" (62 : Nat) ({ cls := "OrbitBox$Downlink", name := "fill", desc := "(LOrbitBox$Row;LOrbitBox$Ring;)I" } : MethodName)) ∈ ob_g := ob_w4 237 rfl rfl
theorem w_959 : (Cond.instanceMethod ({ cls := "OrbitBox$Downlink", name := "fill", desc := "(LOrbitBox$Row;LOrbitBox$Ring;)I" } : MethodName)) ∈ ob_g := ob_w4 239 rfl rfl
