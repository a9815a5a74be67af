-- printed: private methods, fields, links, code words
theorem wp_0 : Cond.selects "OrbitBox$Receiver" ⟨"OrbitBox$Receiver", "collect", "(I)Z"⟩ ⟨"OrbitBox$Receiver", "collect", "(I)Z"⟩ ∈ ob_g := ob_p 0 rfl rfl
theorem wp_1 : Cond.selects "OrbitBox$Receiver" ⟨"OrbitBox$Receiver", "divide", "(I)V"⟩ ⟨"OrbitBox$Receiver", "divide", "(I)V"⟩ ∈ ob_g := ob_p 1 rfl rfl
theorem wp_2 : Cond.selects "OrbitBox$Receiver" ⟨"OrbitBox$Receiver", "endBlock", "()Z"⟩ ⟨"OrbitBox$Receiver", "endBlock", "()Z"⟩ ∈ ob_g := ob_p 2 rfl rfl
theorem wp_3 : Cond.selects "OrbitBox$Receiver" ⟨"OrbitBox$Receiver", "turnWrongBit", "()Z"⟩ ⟨"OrbitBox$Receiver", "turnWrongBit", "()Z"⟩ ∈ ob_g := ob_p 3 rfl rfl
theorem wp_4 : Cond.selects "OrbitBox$Receiver" ⟨"OrbitBox$Receiver", "beginBlock", "()V"⟩ ⟨"OrbitBox$Receiver", "beginBlock", "()V"⟩ ∈ ob_g := ob_p 4 rfl rfl
theorem wp_5 : Cond.selects "OrbitBox$Gate" ⟨"OrbitBox$Gate", "receiveInTurn", "(LOrbitBox$Row;)Z"⟩ ⟨"OrbitBox$Gate", "receiveInTurn", "(LOrbitBox$Row;)Z"⟩ ∈ ob_g := ob_p 5 rfl rfl
theorem wp_6 : Cond.selects "OrbitBox$Gate" ⟨"OrbitBox$Gate", "enqueue", "(LOrbitBox$Row;)Z"⟩ ⟨"OrbitBox$Gate", "enqueue", "(LOrbitBox$Row;)Z"⟩ ∈ ob_g := ob_p 6 rfl rfl
theorem wp_7 : Cond.selects "OrbitBox$Gate" ⟨"OrbitBox$Gate", "receiveBeside", "(LOrbitBox$Row;)Z"⟩ ⟨"OrbitBox$Gate", "receiveBeside", "(LOrbitBox$Row;)Z"⟩ ∈ ob_g := ob_p 7 rfl rfl
theorem wp_8 : Cond.selects "OrbitBox$Gate" ⟨"OrbitBox$Gate", "obey", "(LOrbitBox$Row;)V"⟩ ⟨"OrbitBox$Gate", "obey", "(LOrbitBox$Row;)V"⟩ ∈ ob_g := ob_p 8 rfl rfl
theorem wp_9 : Cond.selects "OrbitBox$Timetable" ⟨"OrbitBox$Timetable", "remove", "(I)V"⟩ ⟨"OrbitBox$Timetable", "remove", "(I)V"⟩ ∈ ob_g := ob_p 9 rfl rfl
theorem wp_10 : Cond.selects "OrbitBox$Handler" ⟨"OrbitBox$Handler", "handle", "()V"⟩ ⟨"OrbitBox$Handler", "handle", "()V"⟩ ∈ ob_g := ob_p 10 rfl rfl
theorem wp_11 : Cond.selects "OrbitBox$Handler" ⟨"OrbitBox$Handler", "refuse", "(II)V"⟩ ⟨"OrbitBox$Handler", "refuse", "(II)V"⟩ ∈ ob_g := ob_p 11 rfl rfl
theorem wp_12 : Cond.selects "OrbitBox$Reports" ⟨"OrbitBox$Reports", "dropOldest", "()V"⟩ ⟨"OrbitBox$Reports", "dropOldest", "()V"⟩ ∈ ob_g := ob_p 12 rfl rfl
theorem wp_13 : Cond.selects "OrbitBox$Handler" ⟨"OrbitBox$Handler", "answer", "(I)V"⟩ ⟨"OrbitBox$Handler", "answer", "(I)V"⟩ ∈ ob_g := ob_p 13 rfl rfl
theorem wp_14 : Cond.selects "OrbitBox$Handler" ⟨"OrbitBox$Handler", "failureOf", "(I)I"⟩ ⟨"OrbitBox$Handler", "failureOf", "(I)I"⟩ ∈ ob_g := ob_p 14 rfl rfl
theorem wp_15 : Cond.selects "OrbitBox$Handler" ⟨"OrbitBox$Handler", "newFormFailure", "()I"⟩ ⟨"OrbitBox$Handler", "newFormFailure", "()I"⟩ ∈ ob_g := ob_p 15 rfl rfl
theorem wp_16 : Cond.selects "OrbitBox$Handler" ⟨"OrbitBox$Handler", "data", "(II)I"⟩ ⟨"OrbitBox$Handler", "data", "(II)I"⟩ ∈ ob_g := ob_p 16 rfl rfl
theorem wp_17 : Cond.selects "OrbitBox$Handler" ⟨"OrbitBox$Handler", "placeInTable", "(LOrbitBox$Table;II)I"⟩ ⟨"OrbitBox$Handler", "placeInTable", "(LOrbitBox$Table;II)I"⟩ ∈ ob_g := ob_p 17 rfl rfl
theorem wp_18 : Cond.selects "OrbitBox$Handler" ⟨"OrbitBox$Handler", "lineFailure", "(LOrbitBox$Table;IZ)I"⟩ ⟨"OrbitBox$Handler", "lineFailure", "(LOrbitBox$Table;IZ)I"⟩ ∈ ob_g := ob_p 18 rfl rfl
theorem wp_19 : Cond.selects "OrbitBox$Handler" ⟨"OrbitBox$Handler", "placeFailure", "(I)I"⟩ ⟨"OrbitBox$Handler", "placeFailure", "(I)I"⟩ ∈ ob_g := ob_p 19 rfl rfl
theorem wp_20 : Cond.selects "OrbitBox$Handler" ⟨"OrbitBox$Handler", "functionFailure", "(II)I"⟩ ⟨"OrbitBox$Handler", "functionFailure", "(II)I"⟩ ∈ ob_g := ob_p 20 rfl rfl
theorem wp_21 : Cond.selects "OrbitBox$Handler" ⟨"OrbitBox$Handler", "newEntryFailure", "()I"⟩ ⟨"OrbitBox$Handler", "newEntryFailure", "()I"⟩ ∈ ob_g := ob_p 21 rfl rfl
theorem wp_22 : Cond.selects "OrbitBox$Handler" ⟨"OrbitBox$Handler", "dataLength", "()I"⟩ ⟨"OrbitBox$Handler", "dataLength", "()I"⟩ ∈ ob_g := ob_p 22 rfl rfl
theorem wp_23 : Cond.selects "OrbitBox$Handler" ⟨"OrbitBox$Handler", "newLimitFailure", "()I"⟩ ⟨"OrbitBox$Handler", "newLimitFailure", "()I"⟩ ∈ ob_g := ob_p 23 rfl rfl
theorem wp_24 : Cond.selects "OrbitBox$Handler" ⟨"OrbitBox$Handler", "newActionFailure", "(I)I"⟩ ⟨"OrbitBox$Handler", "newActionFailure", "(I)I"⟩ ∈ ob_g := ob_p 24 rfl rfl
theorem wp_25 : Cond.selects "OrbitBox$Handler" ⟨"OrbitBox$Handler", "actionFailure", "(IZ)I"⟩ ⟨"OrbitBox$Handler", "actionFailure", "(IZ)I"⟩ ∈ ob_g := ob_p 25 rfl rfl
theorem wp_26 : Cond.selects "OrbitBox$Handler" ⟨"OrbitBox$Handler", "perform", "(I)V"⟩ ⟨"OrbitBox$Handler", "perform", "(I)V"⟩ ∈ ob_g := ob_p 26 rfl rfl
theorem wp_27 : Cond.selects "OrbitBox$Handler" ⟨"OrbitBox$Handler", "addForm", "()V"⟩ ⟨"OrbitBox$Handler", "addForm", "()V"⟩ ∈ ob_g := ob_p 27 rfl rfl
theorem wp_28 : Cond.selects "OrbitBox$Handler" ⟨"OrbitBox$Handler", "sendForm", "(I)V"⟩ ⟨"OrbitBox$Handler", "sendForm", "(I)V"⟩ ∈ ob_g := ob_p 28 rfl rfl
theorem wp_29 : Cond.selects "OrbitBox$Handler" ⟨"OrbitBox$Handler", "setSilent", "(IZ)V"⟩ ⟨"OrbitBox$Handler", "setSilent", "(IZ)V"⟩ ∈ ob_g := ob_p 29 rfl rfl
theorem wp_30 : Cond.selects "OrbitBox$Handler" ⟨"OrbitBox$Handler", "load", "()V"⟩ ⟨"OrbitBox$Handler", "load", "()V"⟩ ∈ ob_g := ob_p 30 rfl rfl
theorem wp_31 : Cond.selects "OrbitBox$Handler" ⟨"OrbitBox$Handler", "dump", "()V"⟩ ⟨"OrbitBox$Handler", "dump", "()V"⟩ ∈ ob_g := ob_p 31 rfl rfl
theorem wp_32 : Cond.selects "OrbitBox$Handler" ⟨"OrbitBox$Handler", "sendMemoryCheck", "()V"⟩ ⟨"OrbitBox$Handler", "sendMemoryCheck", "()V"⟩ ∈ ob_g := ob_p 32 rfl rfl
theorem wp_33 : Cond.selects "OrbitBox$Handler" ⟨"OrbitBox$Handler", "performFunction", "(III)V"⟩ ⟨"OrbitBox$Handler", "performFunction", "(III)V"⟩ ∈ ob_g := ob_p 33 rfl rfl
theorem wp_34 : Cond.selects "OrbitBox$Handler" ⟨"OrbitBox$Handler", "tellEntries", "()V"⟩ ⟨"OrbitBox$Handler", "tellEntries", "()V"⟩ ∈ ob_g := ob_p 34 rfl rfl
theorem wp_35 : Cond.selects "OrbitBox$Handler" ⟨"OrbitBox$Handler", "switchLimit", "(II)V"⟩ ⟨"OrbitBox$Handler", "switchLimit", "(II)V"⟩ ∈ ob_g := ob_p 35 rfl rfl
theorem wp_36 : Cond.selects "OrbitBox$Handler" ⟨"OrbitBox$Handler", "addLimit", "()V"⟩ ⟨"OrbitBox$Handler", "addLimit", "()V"⟩ ∈ ob_g := ob_p 36 rfl rfl
theorem wp_37 : Cond.selects "OrbitBox$Handler" ⟨"OrbitBox$Handler", "setStored", "(IZ)V"⟩ ⟨"OrbitBox$Handler", "setStored", "(IZ)V"⟩ ∈ ob_g := ob_p 37 rfl rfl
theorem wp_38 : Cond.selects "OrbitBox$Handler" ⟨"OrbitBox$Handler", "addAction", "(I)V"⟩ ⟨"OrbitBox$Handler", "addAction", "(I)V"⟩ ∈ ob_g := ob_p 38 rfl rfl
theorem wp_39 : Cond.selects "OrbitBox$Handler" ⟨"OrbitBox$Handler", "dropAction", "(I)V"⟩ ⟨"OrbitBox$Handler", "dropAction", "(I)V"⟩ ∈ ob_g := ob_p 39 rfl rfl
theorem wp_40 : Cond.selects "OrbitBox$Handler" ⟨"OrbitBox$Handler", "switchAction", "(IZ)V"⟩ ⟨"OrbitBox$Handler", "switchAction", "(IZ)V"⟩ ∈ ob_g := ob_p 40 rfl rfl
theorem wp_41 : Cond.selects "OrbitBox$Craft" ⟨"OrbitBox$Craft", "watchOne", "(LOrbitBox$Table;I)V"⟩ ⟨"OrbitBox$Craft", "watchOne", "(LOrbitBox$Table;I)V"⟩ ∈ ob_g := ob_p 41 rfl rfl
theorem wp_42 : Cond.selects "OrbitBox$Handler" ⟨"OrbitBox$Handler", "sendEvent", "(II)V"⟩ ⟨"OrbitBox$Handler", "sendEvent", "(II)V"⟩ ∈ ob_g := ob_p 42 rfl rfl
theorem wp_43 : Cond.selects "OrbitBox$Reports" ⟨"OrbitBox$Reports", "copyStored", "(ILOrbitBox$Ring;)V"⟩ ⟨"OrbitBox$Reports", "copyStored", "(ILOrbitBox$Ring;)V"⟩ ∈ ob_g := ob_p 43 rfl rfl
theorem wp_44 : Cond.selects "OrbitBox$Downlink" ⟨"OrbitBox$Downlink", "writeFrame", "(LOrbitBox$Row;II)V"⟩ ⟨"OrbitBox$Downlink", "writeFrame", "(LOrbitBox$Row;II)V"⟩ ∈ ob_g := ob_p 44 rfl rfl
theorem wp_45 : Cond.selects "OrbitBox$Downlink" ⟨"OrbitBox$Downlink", "fillIdle", "(LOrbitBox$Row;)I"⟩ ⟨"OrbitBox$Downlink", "fillIdle", "(LOrbitBox$Row;)I"⟩ ∈ ob_g := ob_p 45 rfl rfl
theorem wp_46 : Cond.selects "OrbitBox$Downlink" ⟨"OrbitBox$Downlink", "fill", "(LOrbitBox$Row;LOrbitBox$Ring;)I"⟩ ⟨"OrbitBox$Downlink", "fill", "(LOrbitBox$Row;LOrbitBox$Ring;)I"⟩ ∈ ob_g := ob_p 46 rfl rfl
theorem wp_48 : Cond.selects "OrbitBoxModel" ⟨"OrbitBoxModel", "bit", "(Z)V"⟩ ⟨"OrbitBoxModel", "bit", "(Z)V"⟩ ∈ ob_g := ob_p 48 rfl rfl
theorem wp_49 : Cond.selects "OrbitBoxModel" ⟨"OrbitBoxModel", "blockCame", "()V"⟩ ⟨"OrbitBoxModel", "blockCame", "()V"⟩ ∈ ob_g := ob_p 49 rfl rfl
theorem wp_50 : Cond.selects "OrbitBoxModel" ⟨"OrbitBoxModel", "divides", "(I)Z"⟩ ⟨"OrbitBoxModel", "divides", "(I)Z"⟩ ∈ ob_g := ob_p 50 rfl rfl
theorem wp_51 : Cond.selects "OrbitBoxModel" ⟨"OrbitBoxModel", "frameCame", "()V"⟩ ⟨"OrbitBoxModel", "frameCame", "()V"⟩ ∈ ob_g := ob_p 51 rfl rfl
theorem wp_52 : Cond.selects "OrbitBoxModel" ⟨"OrbitBoxModel", "valid", "()Z"⟩ ⟨"OrbitBoxModel", "valid", "()Z"⟩ ∈ ob_g := ob_p 52 rfl rfl
theorem wp_53 : Cond.selects "OrbitBoxModel" ⟨"OrbitBoxModel", "controlCame", "(I)V"⟩ ⟨"OrbitBoxModel", "controlCame", "(I)V"⟩ ∈ ob_g := ob_p 53 rfl rfl
theorem wp_54 : Cond.selects "OrbitBoxModel" ⟨"OrbitBoxModel", "queueBody", "(I)V"⟩ ⟨"OrbitBoxModel", "queueBody", "(I)V"⟩ ∈ ob_g := ob_p 54 rfl rfl
theorem wp_55 : Cond.selects "OrbitBoxModel" ⟨"OrbitBoxModel", "numberedCame", "(II)V"⟩ ⟨"OrbitBoxModel", "numberedCame", "(II)V"⟩ ∈ ob_g := ob_p 55 rfl rfl
theorem wp_56 : Cond.selects "OrbitBoxModel" ⟨"OrbitBoxModel", "due", "(I)I"⟩ ⟨"OrbitBoxModel", "due", "(I)I"⟩ ∈ ob_g := ob_p 56 rfl rfl
theorem wp_57 : Cond.selects "OrbitBoxModel" ⟨"OrbitBoxModel", "take", "([BII)V"⟩ ⟨"OrbitBoxModel", "take", "([BII)V"⟩ ∈ ob_g := ob_p 57 rfl rfl
theorem wp_58 : Cond.selects "OrbitBoxModel" ⟨"OrbitBoxModel", "dropEntry", "(I)V"⟩ ⟨"OrbitBoxModel", "dropEntry", "(I)V"⟩ ∈ ob_g := ob_p 58 rfl rfl
theorem wp_59 : Cond.selects "OrbitBoxModel" ⟨"OrbitBoxModel", "handle", "()V"⟩ ⟨"OrbitBoxModel", "handle", "()V"⟩ ∈ ob_g := ob_p 59 rfl rfl
theorem wp_60 : Cond.selects "OrbitBoxModel" ⟨"OrbitBoxModel", "verified", "(II)V"⟩ ⟨"OrbitBoxModel", "verified", "(II)V"⟩ ∈ ob_g := ob_p 60 rfl rfl
theorem wp_61 : Cond.selects "OrbitBoxModel" ⟨"OrbitBoxModel", "report", "(II)V"⟩ ⟨"OrbitBoxModel", "report", "(II)V"⟩ ∈ ob_g := ob_p 61 rfl rfl
theorem wp_62 : Cond.selects "OrbitBoxModel" ⟨"OrbitBoxModel", "sayTwo", "(I)V"⟩ ⟨"OrbitBoxModel", "sayTwo", "(I)V"⟩ ∈ ob_g := ob_p 62 rfl rfl
theorem wp_63 : Cond.selects "OrbitBoxModel" ⟨"OrbitBoxModel", "say", "(I)V"⟩ ⟨"OrbitBoxModel", "say", "(I)V"⟩ ∈ ob_g := ob_p 63 rfl rfl
theorem wp_64 : Cond.selects "OrbitBoxModel" ⟨"OrbitBoxModel", "sayFour", "(I)V"⟩ ⟨"OrbitBoxModel", "sayFour", "(I)V"⟩ ∈ ob_g := ob_p 64 rfl rfl
theorem wp_65 : Cond.selects "OrbitBoxModel" ⟨"OrbitBoxModel", "firstFour", "()V"⟩ ⟨"OrbitBoxModel", "firstFour", "()V"⟩ ∈ ob_g := ob_p 65 rfl rfl
theorem wp_66 : Cond.selects "OrbitBoxModel" ⟨"OrbitBoxModel", "made", "()V"⟩ ⟨"OrbitBoxModel", "made", "()V"⟩ ∈ ob_g := ob_p 66 rfl rfl
theorem wp_67 : Cond.selects "OrbitBoxModel" ⟨"OrbitBoxModel", "joins", "(I[BII)Z"⟩ ⟨"OrbitBoxModel", "joins", "(I[BII)Z"⟩ ∈ ob_g := ob_p 67 rfl rfl
theorem wp_68 : Cond.selects "OrbitBoxModel" ⟨"OrbitBoxModel", "keep", "()V"⟩ ⟨"OrbitBoxModel", "keep", "()V"⟩ ∈ ob_g := ob_p 68 rfl rfl
theorem wp_69 : Cond.selects "OrbitBoxModel" ⟨"OrbitBoxModel", "dropOldest", "()V"⟩ ⟨"OrbitBoxModel", "dropOldest", "()V"⟩ ∈ ob_g := ob_p 69 rfl rfl
theorem wp_70 : Cond.selects "OrbitBoxModel" ⟨"OrbitBoxModel", "failure", "(II)I"⟩ ⟨"OrbitBoxModel", "failure", "(II)I"⟩ ∈ ob_g := ob_p 70 rfl rfl
theorem wp_71 : Cond.selects "OrbitBoxModel" ⟨"OrbitBoxModel", "formFailure", "(I)I"⟩ ⟨"OrbitBoxModel", "formFailure", "(I)I"⟩ ∈ ob_g := ob_p 71 rfl rfl
theorem wp_72 : Cond.selects "OrbitBoxModel" ⟨"OrbitBoxModel", "data", "(I)I"⟩ ⟨"OrbitBoxModel", "data", "(I)I"⟩ ∈ ob_g := ob_p 72 rfl rfl
theorem wp_73 : Cond.selects "OrbitBoxModel" ⟨"OrbitBoxModel", "memoryFailure", "(I)I"⟩ ⟨"OrbitBoxModel", "memoryFailure", "(I)I"⟩ ∈ ob_g := ob_p 73 rfl rfl
theorem wp_74 : Cond.selects "OrbitBoxModel" ⟨"OrbitBoxModel", "dataTwo", "(I)I"⟩ ⟨"OrbitBoxModel", "dataTwo", "(I)I"⟩ ∈ ob_g := ob_p 74 rfl rfl
theorem wp_75 : Cond.selects "OrbitBoxModel" ⟨"OrbitBoxModel", "functionFailure", "()I"⟩ ⟨"OrbitBoxModel", "functionFailure", "()I"⟩ ∈ ob_g := ob_p 75 rfl rfl
theorem wp_76 : Cond.selects "OrbitBoxModel" ⟨"OrbitBoxModel", "tableFailure", "(I)I"⟩ ⟨"OrbitBoxModel", "tableFailure", "(I)I"⟩ ∈ ob_g := ob_p 76 rfl rfl
theorem wp_77 : Cond.selects "OrbitBoxModel" ⟨"OrbitBoxModel", "dataFour", "(I)I"⟩ ⟨"OrbitBoxModel", "dataFour", "(I)I"⟩ ∈ ob_g := ob_p 77 rfl rfl
theorem wp_78 : Cond.selects "OrbitBoxModel" ⟨"OrbitBoxModel", "entryNumber", "(I)I"⟩ ⟨"OrbitBoxModel", "entryNumber", "(I)I"⟩ ∈ ob_g := ob_p 78 rfl rfl
theorem wp_79 : Cond.selects "OrbitBoxModel" ⟨"OrbitBoxModel", "limitFailure", "(I)I"⟩ ⟨"OrbitBoxModel", "limitFailure", "(I)I"⟩ ∈ ob_g := ob_p 79 rfl rfl
theorem wp_80 : Cond.selects "OrbitBoxModel" ⟨"OrbitBoxModel", "storeFailure", "(I)I"⟩ ⟨"OrbitBoxModel", "storeFailure", "(I)I"⟩ ∈ ob_g := ob_p 80 rfl rfl
theorem wp_81 : Cond.selects "OrbitBoxModel" ⟨"OrbitBoxModel", "actionFailure", "(I)I"⟩ ⟨"OrbitBoxModel", "actionFailure", "(I)I"⟩ ∈ ob_g := ob_p 81 rfl rfl
theorem wp_82 : Cond.selects "OrbitBoxModel" ⟨"OrbitBoxModel", "act", "(II)V"⟩ ⟨"OrbitBoxModel", "act", "(II)V"⟩ ∈ ob_g := ob_p 82 rfl rfl
theorem wp_83 : Cond.selects "OrbitBoxModel" ⟨"OrbitBoxModel", "actForm", "(I)V"⟩ ⟨"OrbitBoxModel", "actForm", "(I)V"⟩ ∈ ob_g := ob_p 83 rfl rfl
theorem wp_84 : Cond.selects "OrbitBoxModel" ⟨"OrbitBoxModel", "formReport", "(I)V"⟩ ⟨"OrbitBoxModel", "formReport", "(I)V"⟩ ∈ ob_g := ob_p 84 rfl rfl
theorem wp_85 : Cond.selects "OrbitBoxModel" ⟨"OrbitBoxModel", "parameter", "(I)I"⟩ ⟨"OrbitBoxModel", "parameter", "(I)I"⟩ ∈ ob_g := ob_p 85 rfl rfl
theorem wp_86 : Cond.selects "OrbitBoxModel" ⟨"OrbitBoxModel", "actMemory", "(I)V"⟩ ⟨"OrbitBoxModel", "actMemory", "(I)V"⟩ ∈ ob_g := ob_p 86 rfl rfl
theorem wp_87 : Cond.selects "OrbitBoxModel" ⟨"OrbitBoxModel", "actFunction", "()V"⟩ ⟨"OrbitBoxModel", "actFunction", "()V"⟩ ∈ ob_g := ob_p 87 rfl rfl
theorem wp_88 : Cond.selects "OrbitBoxModel" ⟨"OrbitBoxModel", "becomes", "(I)V"⟩ ⟨"OrbitBoxModel", "becomes", "(I)V"⟩ ∈ ob_g := ob_p 88 rfl rfl
theorem wp_89 : Cond.selects "OrbitBoxModel" ⟨"OrbitBoxModel", "raise", "(II)V"⟩ ⟨"OrbitBoxModel", "raise", "(II)V"⟩ ∈ ob_g := ob_p 89 rfl rfl
theorem wp_90 : Cond.selects "OrbitBoxModel" ⟨"OrbitBoxModel", "actTable", "(I)V"⟩ ⟨"OrbitBoxModel", "actTable", "(I)V"⟩ ∈ ob_g := ob_p 90 rfl rfl
theorem wp_91 : Cond.selects "OrbitBoxModel" ⟨"OrbitBoxModel", "actLimit", "(I)V"⟩ ⟨"OrbitBoxModel", "actLimit", "(I)V"⟩ ∈ ob_g := ob_p 91 rfl rfl
theorem wp_92 : Cond.selects "OrbitBoxModel" ⟨"OrbitBoxModel", "actStore", "(I)V"⟩ ⟨"OrbitBoxModel", "actStore", "(I)V"⟩ ∈ ob_g := ob_p 92 rfl rfl
theorem wp_93 : Cond.selects "OrbitBoxModel" ⟨"OrbitBoxModel", "actAction", "(I)V"⟩ ⟨"OrbitBoxModel", "actAction", "(I)V"⟩ ∈ ob_g := ob_p 93 rfl rfl
theorem wp_94 : Cond.selects "OrbitBoxModel" ⟨"OrbitBoxModel", "watch", "(I)V"⟩ ⟨"OrbitBoxModel", "watch", "(I)V"⟩ ∈ ob_g := ob_p 94 rfl rfl
theorem wp_95 : Cond.selects "OrbitBoxModel" ⟨"OrbitBoxModel", "workEvents", "()V"⟩ ⟨"OrbitBoxModel", "workEvents", "()V"⟩ ∈ ob_g := ob_p 95 rfl rfl
theorem wp_96 : Cond.selects "OrbitBoxModel" ⟨"OrbitBoxModel", "retrieve", "()V"⟩ ⟨"OrbitBoxModel", "retrieve", "()V"⟩ ∈ ob_g := ob_p 96 rfl rfl
theorem wp_97 : Cond.selects "OrbitBoxModel" ⟨"OrbitBoxModel", "frame", "(I)V"⟩ ⟨"OrbitBoxModel", "frame", "(I)V"⟩ ∈ ob_g := ob_p 97 rfl rfl
theorem wp_98 : Cond.selects "OrbitBoxModel" ⟨"OrbitBoxModel", "empty", "(II)V"⟩ ⟨"OrbitBoxModel", "empty", "(II)V"⟩ ∈ ob_g := ob_p 98 rfl rfl
theorem wp_99 : Cond.selects "OrbitBoxModel" ⟨"OrbitBoxModel", "theWord", "()I"⟩ ⟨"OrbitBoxModel", "theWord", "()I"⟩ ∈ ob_g := ob_p 99 rfl rfl
theorem F_0_0 : ob_fd 0 0 "OrbitBox" "tape" "LOrbitBox$Row;" true 4 := ⟨ob_T0, 11, ⟨rfl, ob_i0, ⟨ob_y0, ob_h0⟩, ob_n0⟩, by decide, rfl, rfl⟩
theorem F_0_1 : ob_fd 0 1 "OrbitBox" "memory" "LOrbitBox$Row;" true 4 := ⟨ob_T0, 11, ⟨rfl, ob_i0, ⟨ob_y0, ob_h0⟩, ob_n0⟩, by decide, rfl, rfl⟩
theorem F_0_2 : ob_fd 0 2 "OrbitBox" "receiver" "LOrbitBox$Receiver;" true 6 := ⟨ob_T0, 11, ⟨rfl, ob_i0, ⟨ob_y0, ob_h0⟩, ob_n0⟩, by decide, rfl, rfl⟩
theorem F_0_3 : ob_fd 0 3 "OrbitBox" "gate" "LOrbitBox$Gate;" true 7 := ⟨ob_T0, 11, ⟨rfl, ob_i0, ⟨ob_y0, ob_h0⟩, ob_n0⟩, by decide, rfl, rfl⟩
theorem F_0_4 : ob_fd 0 4 "OrbitBox" "timetable" "LOrbitBox$Timetable;" true 8 := ⟨ob_T0, 11, ⟨rfl, ob_i0, ⟨ob_y0, ob_h0⟩, ob_n0⟩, by decide, rfl, rfl⟩
theorem F_0_5 : ob_fd 0 5 "OrbitBox" "events" "LOrbitBox$Events;" true 9 := ⟨ob_T0, 11, ⟨rfl, ob_i0, ⟨ob_y0, ob_h0⟩, ob_n0⟩, by decide, rfl, rfl⟩
theorem F_0_6 : ob_fd 0 6 "OrbitBox" "limits" "LOrbitBox$Table;" true 10 := ⟨ob_T0, 11, ⟨rfl, ob_i0, ⟨ob_y0, ob_h0⟩, ob_n0⟩, by decide, rfl, rfl⟩
theorem F_0_7 : ob_fd 0 7 "OrbitBox" "downlink" "LOrbitBox$Downlink;" true 12 := ⟨ob_T0, 11, ⟨rfl, ob_i0, ⟨ob_y0, ob_h0⟩, ob_n0⟩, by decide, rfl, rfl⟩
theorem F_0_8 : ob_fd 0 8 "OrbitBox" "reports" "LOrbitBox$Reports;" true 11 := ⟨ob_T0, 11, ⟨rfl, ob_i0, ⟨ob_y0, ob_h0⟩, ob_n0⟩, by decide, rfl, rfl⟩
theorem F_0_9 : ob_fd 0 9 "OrbitBox" "craft" "LOrbitBox$Craft;" true 13 := ⟨ob_T0, 11, ⟨rfl, ob_i0, ⟨ob_y0, ob_h0⟩, ob_n0⟩, by decide, rfl, rfl⟩
theorem F_0_10 : ob_fd 0 10 "OrbitBox" "handler" "LOrbitBox$Handler;" true 14 := ⟨ob_T0, 11, ⟨rfl, ob_i0, ⟨ob_y0, ob_h0⟩, ob_n0⟩, by decide, rfl, rfl⟩
theorem F_1_0 : ob_fd 1 0 "OrbitBox$Row" "bytes" "[I" true 22 := ⟨ob_T1, 2, ⟨rfl, ob_i1, ⟨ob_y1, ob_h1⟩, ob_n1⟩, by decide, rfl, rfl⟩
theorem F_1_1 : ob_fd 1 1 "OrbitBox$Row" "length" "I" false 0 := ⟨ob_T1, 2, ⟨rfl, ob_i1, ⟨ob_y1, ob_h1⟩, ob_n1⟩, by decide, rfl, rfl⟩
theorem F_2_0 : ob_fd 2 0 "OrbitBox$Ring" "cells" "[I" true 22 := ⟨ob_T2, 3, ⟨rfl, ob_i2, ⟨ob_y2, ob_h2⟩, ob_n2⟩, by decide, rfl, rfl⟩
theorem F_2_1 : ob_fd 2 1 "OrbitBox$Ring" "head" "I" false 0 := ⟨ob_T2, 3, ⟨rfl, ob_i2, ⟨ob_y2, ob_h2⟩, ob_n2⟩, by decide, rfl, rfl⟩
theorem F_2_2 : ob_fd 2 2 "OrbitBox$Ring" "size" "I" false 0 := ⟨ob_T2, 3, ⟨rfl, ob_i2, ⟨ob_y2, ob_h2⟩, ob_n2⟩, by decide, rfl, rfl⟩
theorem F_3_0 : ob_fd 3 0 "OrbitBox$Receiver" "candidate" "LOrbitBox$Row;" true 4 := ⟨ob_T3, 7, ⟨rfl, ob_i3, ⟨ob_y3, ob_h3⟩, ob_n3⟩, by decide, rfl, rfl⟩
theorem F_3_1 : ob_fd 3 1 "OrbitBox$Receiver" "collects" "Z" false 0 := ⟨ob_T3, 7, ⟨rfl, ob_i3, ⟨ob_y3, ob_h3⟩, ob_n3⟩, by decide, rfl, rfl⟩
theorem F_3_2 : ob_fd 3 2 "OrbitBox$Receiver" "window" "I" false 0 := ⟨ob_T3, 7, ⟨rfl, ob_i3, ⟨ob_y3, ob_h3⟩, ob_n3⟩, by decide, rfl, rfl⟩
theorem F_3_3 : ob_fd 3 3 "OrbitBox$Receiver" "bits" "I" false 0 := ⟨ob_T3, 7, ⟨rfl, ob_i3, ⟨ob_y3, ob_h3⟩, ob_n3⟩, by decide, rfl, rfl⟩
theorem F_3_4 : ob_fd 3 4 "OrbitBox$Receiver" "block" "J" false 1 := ⟨ob_T3, 7, ⟨rfl, ob_i3, ⟨ob_y3, ob_h3⟩, ob_n3⟩, by decide, rfl, rfl⟩
theorem F_3_5 : ob_fd 3 5 "OrbitBox$Receiver" "remainder" "I" false 0 := ⟨ob_T3, 7, ⟨rfl, ob_i3, ⟨ob_y3, ob_h3⟩, ob_n3⟩, by decide, rfl, rfl⟩
theorem F_3_6 : ob_fd 3 6 "OrbitBox$Receiver" "putRight" "I" false 0 := ⟨ob_T3, 7, ⟨rfl, ob_i3, ⟨ob_y3, ob_h3⟩, ob_n3⟩, by decide, rfl, rfl⟩
theorem F_4_0 : ob_fd 4 0 "OrbitBox$Gate" "queue" "[LOrbitBox$Row;" true 26 := ⟨ob_T4, 10, ⟨rfl, ob_i4, ⟨ob_y4, ob_h4⟩, ob_n4⟩, by decide, rfl, rfl⟩
theorem F_4_1 : ob_fd 4 1 "OrbitBox$Gate" "first" "I" false 0 := ⟨ob_T4, 10, ⟨rfl, ob_i4, ⟨ob_y4, ob_h4⟩, ob_n4⟩, by decide, rfl, rfl⟩
theorem F_4_2 : ob_fd 4 2 "OrbitBox$Gate" "queued" "I" false 0 := ⟨ob_T4, 10, ⟨rfl, ob_i4, ⟨ob_y4, ob_h4⟩, ob_n4⟩, by decide, rfl, rfl⟩
theorem F_4_3 : ob_fd 4 3 "OrbitBox$Gate" "status" "I" false 0 := ⟨ob_T4, 10, ⟨rfl, ob_i4, ⟨ob_y4, ob_h4⟩, ob_n4⟩, by decide, rfl, rfl⟩
theorem F_4_4 : ob_fd 4 4 "OrbitBox$Gate" "next" "I" false 0 := ⟨ob_T4, 10, ⟨rfl, ob_i4, ⟨ob_y4, ob_h4⟩, ob_n4⟩, by decide, rfl, rfl⟩
theorem F_4_5 : ob_fd 4 5 "OrbitBox$Gate" "waits" "Z" false 0 := ⟨ob_T4, 10, ⟨rfl, ob_i4, ⟨ob_y4, ob_h4⟩, ob_n4⟩, by decide, rfl, rfl⟩
theorem F_4_6 : ob_fd 4 6 "OrbitBox$Gate" "again" "Z" false 0 := ⟨ob_T4, 10, ⟨rfl, ob_i4, ⟨ob_y4, ob_h4⟩, ob_n4⟩, by decide, rfl, rfl⟩
theorem F_4_7 : ob_fd 4 7 "OrbitBox$Gate" "beside" "I" false 0 := ⟨ob_T4, 10, ⟨rfl, ob_i4, ⟨ob_y4, ob_h4⟩, ob_n4⟩, by decide, rfl, rfl⟩
theorem F_4_8 : ob_fd 4 8 "OrbitBox$Gate" "refused" "I" false 0 := ⟨ob_T4, 10, ⟨rfl, ob_i4, ⟨ob_y4, ob_h4⟩, ob_n4⟩, by decide, rfl, rfl⟩
theorem F_4_9 : ob_fd 4 9 "OrbitBox$Gate" "accepted" "I" false 0 := ⟨ob_T4, 10, ⟨rfl, ob_i4, ⟨ob_y4, ob_h4⟩, ob_n4⟩, by decide, rfl, rfl⟩
theorem F_5_0 : ob_fd 5 0 "OrbitBox$Timetable" "times" "[I" true 22 := ⟨ob_T5, 4, ⟨rfl, ob_i5, ⟨ob_y5, ob_h5⟩, ob_n5⟩, by decide, rfl, rfl⟩
theorem F_5_1 : ob_fd 5 1 "OrbitBox$Timetable" "commands" "[LOrbitBox$Row;" true 26 := ⟨ob_T5, 4, ⟨rfl, ob_i5, ⟨ob_y5, ob_h5⟩, ob_n5⟩, by decide, rfl, rfl⟩
theorem F_5_2 : ob_fd 5 2 "OrbitBox$Timetable" "size" "I" false 0 := ⟨ob_T5, 4, ⟨rfl, ob_i5, ⟨ob_y5, ob_h5⟩, ob_n5⟩, by decide, rfl, rfl⟩
theorem F_5_3 : ob_fd 5 3 "OrbitBox$Timetable" "on" "Z" false 0 := ⟨ob_T5, 4, ⟨rfl, ob_i5, ⟨ob_y5, ob_h5⟩, ob_n5⟩, by decide, rfl, rfl⟩
theorem F_6_0 : ob_fd 6 0 "OrbitBox$Events" "raised" "LOrbitBox$Ring;" true 5 := ⟨ob_T6, 6, ⟨rfl, ob_i6, ⟨ob_y6, ob_h6⟩, ob_n6⟩, by decide, rfl, rfl⟩
theorem F_6_1 : ob_fd 6 1 "OrbitBox$Events" "silent" "[Z" true 24 := ⟨ob_T6, 6, ⟨rfl, ob_i6, ⟨ob_y6, ob_h6⟩, ob_n6⟩, by decide, rfl, rfl⟩
theorem F_6_2 : ob_fd 6 2 "OrbitBox$Events" "hasAction" "[Z" true 24 := ⟨ob_T6, 6, ⟨rfl, ob_i6, ⟨ob_y6, ob_h6⟩, ob_n6⟩, by decide, rfl, rfl⟩
theorem F_6_3 : ob_fd 6 3 "OrbitBox$Events" "actionOn" "[Z" true 24 := ⟨ob_T6, 6, ⟨rfl, ob_i6, ⟨ob_y6, ob_h6⟩, ob_n6⟩, by decide, rfl, rfl⟩
theorem F_6_4 : ob_fd 6 4 "OrbitBox$Events" "actions" "[LOrbitBox$Row;" true 26 := ⟨ob_T6, 6, ⟨rfl, ob_i6, ⟨ob_y6, ob_h6⟩, ob_n6⟩, by decide, rfl, rfl⟩
theorem F_6_5 : ob_fd 6 5 "OrbitBox$Events" "lost" "I" false 0 := ⟨ob_T6, 6, ⟨rfl, ob_i6, ⟨ob_y6, ob_h6⟩, ob_n6⟩, by decide, rfl, rfl⟩
theorem F_7_0 : ob_fd 7 0 "OrbitBox$Table" "most" "I" true 0 := ⟨ob_T7, 4, ⟨rfl, ob_i7, ⟨ob_y7, ob_h7⟩, ob_n7⟩, by decide, rfl, rfl⟩
theorem F_7_1 : ob_fd 7 1 "OrbitBox$Table" "width" "I" true 0 := ⟨ob_T7, 4, ⟨rfl, ob_i7, ⟨ob_y7, ob_h7⟩, ob_n7⟩, by decide, rfl, rfl⟩
theorem F_7_2 : ob_fd 7 2 "OrbitBox$Table" "cells" "[I" true 22 := ⟨ob_T7, 4, ⟨rfl, ob_i7, ⟨ob_y7, ob_h7⟩, ob_n7⟩, by decide, rfl, rfl⟩
theorem F_7_3 : ob_fd 7 3 "OrbitBox$Table" "size" "I" false 0 := ⟨ob_T7, 4, ⟨rfl, ob_i7, ⟨ob_y7, ob_h7⟩, ob_n7⟩, by decide, rfl, rfl⟩
theorem F_8_0 : ob_fd 8 0 "OrbitBox$Reports" "live" "LOrbitBox$Ring;" true 5 := ⟨ob_T8, 12, ⟨rfl, ob_i8, ⟨ob_y8, ob_h8⟩, ob_n8⟩, by decide, rfl, rfl⟩
theorem F_8_1 : ob_fd 8 1 "OrbitBox$Reports" "store" "LOrbitBox$Ring;" true 5 := ⟨ob_T8, 12, ⟨rfl, ob_i8, ⟨ob_y8, ob_h8⟩, ob_n8⟩, by decide, rfl, rfl⟩
theorem F_8_2 : ob_fd 8 2 "OrbitBox$Reports" "packet" "LOrbitBox$Row;" true 4 := ⟨ob_T8, 12, ⟨rfl, ob_i8, ⟨ob_y8, ob_h8⟩, ob_n8⟩, by decide, rfl, rfl⟩
theorem F_8_3 : ob_fd 8 3 "OrbitBox$Reports" "stored" "[Z" true 24 := ⟨ob_T8, 12, ⟨rfl, ob_i8, ⟨ob_y8, ob_h8⟩, ob_n8⟩, by decide, rfl, rfl⟩
theorem F_8_4 : ob_fd 8 4 "OrbitBox$Reports" "made" "[I" true 22 := ⟨ob_T8, 12, ⟨rfl, ob_i8, ⟨ob_y8, ob_h8⟩, ob_n8⟩, by decide, rfl, rfl⟩
theorem F_8_5 : ob_fd 8 5 "OrbitBox$Reports" "madeInAll" "I" false 0 := ⟨ob_T8, 12, ⟨rfl, ob_i8, ⟨ob_y8, ob_h8⟩, ob_n8⟩, by decide, rfl, rfl⟩
theorem F_8_6 : ob_fd 8 6 "OrbitBox$Reports" "lost" "I" false 0 := ⟨ob_T8, 12, ⟨rfl, ob_i8, ⟨ob_y8, ob_h8⟩, ob_n8⟩, by decide, rfl, rfl⟩
theorem F_8_7 : ob_fd 8 7 "OrbitBox$Reports" "packets" "I" false 0 := ⟨ob_T8, 12, ⟨rfl, ob_i8, ⟨ob_y8, ob_h8⟩, ob_n8⟩, by decide, rfl, rfl⟩
theorem F_8_8 : ob_fd 8 8 "OrbitBox$Reports" "retrieving" "Z" false 0 := ⟨ob_T8, 12, ⟨rfl, ob_i8, ⟨ob_y8, ob_h8⟩, ob_n8⟩, by decide, rfl, rfl⟩
theorem F_8_9 : ob_fd 8 9 "OrbitBox$Reports" "retrieveFrom" "I" false 0 := ⟨ob_T8, 12, ⟨rfl, ob_i8, ⟨ob_y8, ob_h8⟩, ob_n8⟩, by decide, rfl, rfl⟩
theorem F_8_10 : ob_fd 8 10 "OrbitBox$Reports" "retrieveTo" "I" false 0 := ⟨ob_T8, 12, ⟨rfl, ob_i8, ⟨ob_y8, ob_h8⟩, ob_n8⟩, by decide, rfl, rfl⟩
theorem F_8_11 : ob_fd 8 11 "OrbitBox$Reports" "retrieveNext" "I" false 0 := ⟨ob_T8, 12, ⟨rfl, ob_i8, ⟨ob_y8, ob_h8⟩, ob_n8⟩, by decide, rfl, rfl⟩
theorem F_9_0 : ob_fd 9 0 "OrbitBox$Downlink" "live" "LOrbitBox$Ring;" true 5 := ⟨ob_T9, 7, ⟨rfl, ob_i9, ⟨ob_y9, ob_h9⟩, ob_n9⟩, by decide, rfl, rfl⟩
theorem F_9_1 : ob_fd 9 1 "OrbitBox$Downlink" "replay" "LOrbitBox$Ring;" true 5 := ⟨ob_T9, 7, ⟨rfl, ob_i9, ⟨ob_y9, ob_h9⟩, ob_n9⟩, by decide, rfl, rfl⟩
theorem F_9_2 : ob_fd 9 2 "OrbitBox$Downlink" "frames" "[LOrbitBox$Row;" true 26 := ⟨ob_T9, 7, ⟨rfl, ob_i9, ⟨ob_y9, ob_h9⟩, ob_n9⟩, by decide, rfl, rfl⟩
theorem F_9_3 : ob_fd 9 3 "OrbitBox$Downlink" "frameLength" "I" true 0 := ⟨ob_T9, 7, ⟨rfl, ob_i9, ⟨ob_y9, ob_h9⟩, ob_n9⟩, by decide, rfl, rfl⟩
theorem F_9_4 : ob_fd 9 4 "OrbitBox$Downlink" "sentOf" "[I" true 22 := ⟨ob_T9, 7, ⟨rfl, ob_i9, ⟨ob_y9, ob_h9⟩, ob_n9⟩, by decide, rfl, rfl⟩
theorem F_9_5 : ob_fd 9 5 "OrbitBox$Downlink" "sentInAll" "I" false 0 := ⟨ob_T9, 7, ⟨rfl, ob_i9, ⟨ob_y9, ob_h9⟩, ob_n9⟩, by decide, rfl, rfl⟩
theorem F_9_6 : ob_fd 9 6 "OrbitBox$Downlink" "sent" "I" false 0 := ⟨ob_T9, 7, ⟨rfl, ob_i9, ⟨ob_y9, ob_h9⟩, ob_n9⟩, by decide, rfl, rfl⟩
theorem F_10_0 : ob_fd 10 0 "OrbitBox$Craft" "patience" "I" true 0 := ⟨ob_T10, 13, ⟨rfl, ob_i10, ⟨ob_y10, ob_h10⟩, ob_n10⟩, by decide, rfl, rfl⟩
theorem F_10_1 : ob_fd 10 1 "OrbitBox$Craft" "receiver" "LOrbitBox$Receiver;" true 6 := ⟨ob_T10, 13, ⟨rfl, ob_i10, ⟨ob_y10, ob_h10⟩, ob_n10⟩, by decide, rfl, rfl⟩
theorem F_10_2 : ob_fd 10 2 "OrbitBox$Craft" "gate" "LOrbitBox$Gate;" true 7 := ⟨ob_T10, 13, ⟨rfl, ob_i10, ⟨ob_y10, ob_h10⟩, ob_n10⟩, by decide, rfl, rfl⟩
theorem F_10_3 : ob_fd 10 3 "OrbitBox$Craft" "timetable" "LOrbitBox$Timetable;" true 8 := ⟨ob_T10, 13, ⟨rfl, ob_i10, ⟨ob_y10, ob_h10⟩, ob_n10⟩, by decide, rfl, rfl⟩
theorem F_10_4 : ob_fd 10 4 "OrbitBox$Craft" "events" "LOrbitBox$Events;" true 9 := ⟨ob_T10, 13, ⟨rfl, ob_i10, ⟨ob_y10, ob_h10⟩, ob_n10⟩, by decide, rfl, rfl⟩
theorem F_10_5 : ob_fd 10 5 "OrbitBox$Craft" "reports" "LOrbitBox$Reports;" true 11 := ⟨ob_T10, 13, ⟨rfl, ob_i10, ⟨ob_y10, ob_h10⟩, ob_n10⟩, by decide, rfl, rfl⟩
theorem F_10_6 : ob_fd 10 6 "OrbitBox$Craft" "wires" "[I" true 22 := ⟨ob_T10, 13, ⟨rfl, ob_i10, ⟨ob_y10, ob_h10⟩, ob_n10⟩, by decide, rfl, rfl⟩
theorem F_10_7 : ob_fd 10 7 "OrbitBox$Craft" "mode" "I" false 0 := ⟨ob_T10, 13, ⟨rfl, ob_i10, ⟨ob_y10, ob_h10⟩, ob_n10⟩, by decide, rfl, rfl⟩
theorem F_10_8 : ob_fd 10 8 "OrbitBox$Craft" "clock" "I" false 0 := ⟨ob_T10, 13, ⟨rfl, ob_i10, ⟨ob_y10, ob_h10⟩, ob_n10⟩, by decide, rfl, rfl⟩
theorem F_10_9 : ob_fd 10 9 "OrbitBox$Craft" "alarm" "I" false 0 := ⟨ob_T10, 13, ⟨rfl, ob_i10, ⟨ob_y10, ob_h10⟩, ob_n10⟩, by decide, rfl, rfl⟩
theorem F_10_10 : ob_fd 10 10 "OrbitBox$Craft" "handled" "I" false 0 := ⟨ob_T10, 13, ⟨rfl, ob_i10, ⟨ob_y10, ob_h10⟩, ob_n10⟩, by decide, rfl, rfl⟩
theorem F_10_11 : ob_fd 10 11 "OrbitBox$Craft" "failed" "I" false 0 := ⟨ob_T10, 13, ⟨rfl, ob_i10, ⟨ob_y10, ob_h10⟩, ob_n10⟩, by decide, rfl, rfl⟩
theorem F_10_12 : ob_fd 10 12 "OrbitBox$Craft" "broken" "I" false 0 := ⟨ob_T10, 13, ⟨rfl, ob_i10, ⟨ob_y10, ob_h10⟩, ob_n10⟩, by decide, rfl, rfl⟩
theorem F_11_0 : ob_fd 11 0 "OrbitBox$Handler" "craft" "LOrbitBox$Craft;" true 13 := ⟨ob_T11, 9, ⟨rfl, ob_i11, ⟨ob_y11, ob_h11⟩, ob_n11⟩, by decide, rfl, rfl⟩
theorem F_11_1 : ob_fd 11 1 "OrbitBox$Handler" "gate" "LOrbitBox$Gate;" true 7 := ⟨ob_T11, 9, ⟨rfl, ob_i11, ⟨ob_y11, ob_h11⟩, ob_n11⟩, by decide, rfl, rfl⟩
theorem F_11_2 : ob_fd 11 2 "OrbitBox$Handler" "timetable" "LOrbitBox$Timetable;" true 8 := ⟨ob_T11, 9, ⟨rfl, ob_i11, ⟨ob_y11, ob_h11⟩, ob_n11⟩, by decide, rfl, rfl⟩
theorem F_11_3 : ob_fd 11 3 "OrbitBox$Handler" "events" "LOrbitBox$Events;" true 9 := ⟨ob_T11, 9, ⟨rfl, ob_i11, ⟨ob_y11, ob_h11⟩, ob_n11⟩, by decide, rfl, rfl⟩
theorem F_11_4 : ob_fd 11 4 "OrbitBox$Handler" "reports" "LOrbitBox$Reports;" true 11 := ⟨ob_T11, 9, ⟨rfl, ob_i11, ⟨ob_y11, ob_h11⟩, ob_n11⟩, by decide, rfl, rfl⟩
theorem F_11_5 : ob_fd 11 5 "OrbitBox$Handler" "forms" "LOrbitBox$Table;" true 10 := ⟨ob_T11, 9, ⟨rfl, ob_i11, ⟨ob_y11, ob_h11⟩, ob_n11⟩, by decide, rfl, rfl⟩
theorem F_11_6 : ob_fd 11 6 "OrbitBox$Handler" "limits" "LOrbitBox$Table;" true 10 := ⟨ob_T11, 9, ⟨rfl, ob_i11, ⟨ob_y11, ob_h11⟩, ob_n11⟩, by decide, rfl, rfl⟩
theorem F_11_7 : ob_fd 11 7 "OrbitBox$Handler" "memory" "LOrbitBox$Row;" true 4 := ⟨ob_T11, 9, ⟨rfl, ob_i11, ⟨ob_y11, ob_h11⟩, ob_n11⟩, by decide, rfl, rfl⟩
theorem F_11_8 : ob_fd 11 8 "OrbitBox$Handler" "command" "LOrbitBox$Row;" true 4 := ⟨ob_T11, 9, ⟨rfl, ob_i11, ⟨ob_y11, ob_h11⟩, ob_n11⟩, by decide, rfl, rfl⟩
theorem F_12_0 : ob_fd 12 0 "OrbitBoxModel" "entriesMost" "I" true 0 := ⟨ob_T12, 91, ⟨rfl, ob_i12, ⟨ob_y12, ob_h12⟩, ob_n12⟩, by decide, rfl, rfl⟩
theorem F_12_1 : ob_fd 12 1 "OrbitBoxModel" "frameLength" "I" true 0 := ⟨ob_T12, 91, ⟨rfl, ob_i12, ⟨ob_y12, ob_h12⟩, ob_n12⟩, by decide, rfl, rfl⟩
theorem F_12_2 : ob_fd 12 2 "OrbitBoxModel" "framesMost" "I" true 0 := ⟨ob_T12, 91, ⟨rfl, ob_i12, ⟨ob_y12, ob_h12⟩, ob_n12⟩, by decide, rfl, rfl⟩
theorem F_12_3 : ob_fd 12 3 "OrbitBoxModel" "patience" "I" true 0 := ⟨ob_T12, 91, ⟨rfl, ob_i12, ⟨ob_y12, ob_h12⟩, ob_n12⟩, by decide, rfl, rfl⟩
theorem F_12_4 : ob_fd 12 4 "OrbitBoxModel" "storeMost" "I" true 0 := ⟨ob_T12, 91, ⟨rfl, ob_i12, ⟨ob_y12, ob_h12⟩, ob_n12⟩, by decide, rfl, rfl⟩
theorem F_12_5 : ob_fd 12 5 "OrbitBoxModel" "thrownCode" "I" false 0 := ⟨ob_T12, 91, ⟨rfl, ob_i12, ⟨ob_y12, ob_h12⟩, ob_n12⟩, by decide, rfl, rfl⟩
theorem F_12_6 : ob_fd 12 6 "OrbitBoxModel" "tape" "[B" true 23 := ⟨ob_T12, 91, ⟨rfl, ob_i12, ⟨ob_y12, ob_h12⟩, ob_n12⟩, by decide, rfl, rfl⟩
theorem F_12_7 : ob_fd 12 7 "OrbitBoxModel" "taped" "I" false 0 := ⟨ob_T12, 91, ⟨rfl, ob_i12, ⟨ob_y12, ob_h12⟩, ob_n12⟩, by decide, rfl, rfl⟩
theorem F_12_8 : ob_fd 12 8 "OrbitBoxModel" "collects" "Z" false 0 := ⟨ob_T12, 91, ⟨rfl, ob_i12, ⟨ob_y12, ob_h12⟩, ob_n12⟩, by decide, rfl, rfl⟩
theorem F_12_9 : ob_fd 12 9 "OrbitBoxModel" "searched" "I" false 0 := ⟨ob_T12, 91, ⟨rfl, ob_i12, ⟨ob_y12, ob_h12⟩, ob_n12⟩, by decide, rfl, rfl⟩
theorem F_12_10 : ob_fd 12 10 "OrbitBoxModel" "latest" "I" false 0 := ⟨ob_T12, 91, ⟨rfl, ob_i12, ⟨ob_y12, ob_h12⟩, ob_n12⟩, by decide, rfl, rfl⟩
theorem F_12_11 : ob_fd 12 11 "OrbitBoxModel" "block" "[Z" true 24 := ⟨ob_T12, 91, ⟨rfl, ob_i12, ⟨ob_y12, ob_h12⟩, ob_n12⟩, by decide, rfl, rfl⟩
theorem F_12_12 : ob_fd 12 12 "OrbitBoxModel" "blockBits" "I" false 0 := ⟨ob_T12, 91, ⟨rfl, ob_i12, ⟨ob_y12, ob_h12⟩, ob_n12⟩, by decide, rfl, rfl⟩
theorem F_12_13 : ob_fd 12 13 "OrbitBoxModel" "candidate" "[B" true 23 := ⟨ob_T12, 91, ⟨rfl, ob_i12, ⟨ob_y12, ob_h12⟩, ob_n12⟩, by decide, rfl, rfl⟩
theorem F_12_14 : ob_fd 12 14 "OrbitBoxModel" "candidateBytes" "I" false 0 := ⟨ob_T12, 91, ⟨rfl, ob_i12, ⟨ob_y12, ob_h12⟩, ob_n12⟩, by decide, rfl, rfl⟩
theorem F_12_15 : ob_fd 12 15 "OrbitBoxModel" "putRight" "I" false 0 := ⟨ob_T12, 91, ⟨rfl, ob_i12, ⟨ob_y12, ob_h12⟩, ob_n12⟩, by decide, rfl, rfl⟩
theorem F_12_16 : ob_fd 12 16 "OrbitBoxModel" "refused" "I" false 0 := ⟨ob_T12, 91, ⟨rfl, ob_i12, ⟨ob_y12, ob_h12⟩, ob_n12⟩, by decide, rfl, rfl⟩
theorem F_12_17 : ob_fd 12 17 "OrbitBoxModel" "accepted" "I" false 0 := ⟨ob_T12, 91, ⟨rfl, ob_i12, ⟨ob_y12, ob_h12⟩, ob_n12⟩, by decide, rfl, rfl⟩
theorem F_12_18 : ob_fd 12 18 "OrbitBoxModel" "rest" "[Z" true 24 := ⟨ob_T12, 91, ⟨rfl, ob_i12, ⟨ob_y12, ob_h12⟩, ob_n12⟩, by decide, rfl, rfl⟩
theorem F_12_19 : ob_fd 12 19 "OrbitBoxModel" "gate" "I" false 0 := ⟨ob_T12, 91, ⟨rfl, ob_i12, ⟨ob_y12, ob_h12⟩, ob_n12⟩, by decide, rfl, rfl⟩
theorem F_12_20 : ob_fd 12 20 "OrbitBoxModel" "next" "I" false 0 := ⟨ob_T12, 91, ⟨rfl, ob_i12, ⟨ob_y12, ob_h12⟩, ob_n12⟩, by decide, rfl, rfl⟩
theorem F_12_21 : ob_fd 12 21 "OrbitBoxModel" "beside" "I" false 0 := ⟨ob_T12, 91, ⟨rfl, ob_i12, ⟨ob_y12, ob_h12⟩, ob_n12⟩, by decide, rfl, rfl⟩
theorem F_12_22 : ob_fd 12 22 "OrbitBoxModel" "waits" "Z" false 0 := ⟨ob_T12, 91, ⟨rfl, ob_i12, ⟨ob_y12, ob_h12⟩, ob_n12⟩, by decide, rfl, rfl⟩
theorem F_12_23 : ob_fd 12 23 "OrbitBoxModel" "again" "Z" false 0 := ⟨ob_T12, 91, ⟨rfl, ob_i12, ⟨ob_y12, ob_h12⟩, ob_n12⟩, by decide, rfl, rfl⟩
theorem F_12_24 : ob_fd 12 24 "OrbitBoxModel" "queue" "[B" true 23 := ⟨ob_T12, 91, ⟨rfl, ob_i12, ⟨ob_y12, ob_h12⟩, ob_n12⟩, by decide, rfl, rfl⟩
theorem F_12_25 : ob_fd 12 25 "OrbitBoxModel" "queueBytes" "[I" true 22 := ⟨ob_T12, 91, ⟨rfl, ob_i12, ⟨ob_y12, ob_h12⟩, ob_n12⟩, by decide, rfl, rfl⟩
theorem F_12_26 : ob_fd 12 26 "OrbitBoxModel" "queued" "I" false 0 := ⟨ob_T12, 91, ⟨rfl, ob_i12, ⟨ob_y12, ob_h12⟩, ob_n12⟩, by decide, rfl, rfl⟩
theorem F_12_27 : ob_fd 12 27 "OrbitBoxModel" "command" "[B" true 23 := ⟨ob_T12, 91, ⟨rfl, ob_i12, ⟨ob_y12, ob_h12⟩, ob_n12⟩, by decide, rfl, rfl⟩
theorem F_12_28 : ob_fd 12 28 "OrbitBoxModel" "commandBytes" "I" false 0 := ⟨ob_T12, 91, ⟨rfl, ob_i12, ⟨ob_y12, ob_h12⟩, ob_n12⟩, by decide, rfl, rfl⟩
theorem F_12_29 : ob_fd 12 29 "OrbitBoxModel" "handled" "I" false 0 := ⟨ob_T12, 91, ⟨rfl, ob_i12, ⟨ob_y12, ob_h12⟩, ob_n12⟩, by decide, rfl, rfl⟩
theorem F_12_30 : ob_fd 12 30 "OrbitBoxModel" "failed" "I" false 0 := ⟨ob_T12, 91, ⟨rfl, ob_i12, ⟨ob_y12, ob_h12⟩, ob_n12⟩, by decide, rfl, rfl⟩
theorem F_12_31 : ob_fd 12 31 "OrbitBoxModel" "formThere" "[Z" true 24 := ⟨ob_T12, 91, ⟨rfl, ob_i12, ⟨ob_y12, ob_h12⟩, ob_n12⟩, by decide, rfl, rfl⟩
theorem F_12_32 : ob_fd 12 32 "OrbitBoxModel" "formOn" "[Z" true 24 := ⟨ob_T12, 91, ⟨rfl, ob_i12, ⟨ob_y12, ob_h12⟩, ob_n12⟩, by decide, rfl, rfl⟩
theorem F_12_33 : ob_fd 12 33 "OrbitBoxModel" "formEvery" "[I" true 22 := ⟨ob_T12, 91, ⟨rfl, ob_i12, ⟨ob_y12, ob_h12⟩, ob_n12⟩, by decide, rfl, rfl⟩
theorem F_12_34 : ob_fd 12 34 "OrbitBoxModel" "formSize" "[I" true 22 := ⟨ob_T12, 91, ⟨rfl, ob_i12, ⟨ob_y12, ob_h12⟩, ob_n12⟩, by decide, rfl, rfl⟩
theorem F_12_35 : ob_fd 12 35 "OrbitBoxModel" "formIs" "[I" true 22 := ⟨ob_T12, 91, ⟨rfl, ob_i12, ⟨ob_y12, ob_h12⟩, ob_n12⟩, by decide, rfl, rfl⟩
theorem F_12_36 : ob_fd 12 36 "OrbitBoxModel" "forms" "I" false 0 := ⟨ob_T12, 91, ⟨rfl, ob_i12, ⟨ob_y12, ob_h12⟩, ob_n12⟩, by decide, rfl, rfl⟩
theorem F_12_37 : ob_fd 12 37 "OrbitBoxModel" "memory" "[B" true 23 := ⟨ob_T12, 91, ⟨rfl, ob_i12, ⟨ob_y12, ob_h12⟩, ob_n12⟩, by decide, rfl, rfl⟩
theorem F_12_38 : ob_fd 12 38 "OrbitBoxModel" "sensor" "[I" true 22 := ⟨ob_T12, 91, ⟨rfl, ob_i12, ⟨ob_y12, ob_h12⟩, ob_n12⟩, by decide, rfl, rfl⟩
theorem F_12_39 : ob_fd 12 39 "OrbitBoxModel" "actuator" "[I" true 22 := ⟨ob_T12, 91, ⟨rfl, ob_i12, ⟨ob_y12, ob_h12⟩, ob_n12⟩, by decide, rfl, rfl⟩
theorem F_12_40 : ob_fd 12 40 "OrbitBoxModel" "mode" "I" false 0 := ⟨ob_T12, 91, ⟨rfl, ob_i12, ⟨ob_y12, ob_h12⟩, ob_n12⟩, by decide, rfl, rfl⟩
theorem F_12_41 : ob_fd 12 41 "OrbitBoxModel" "clock" "I" false 0 := ⟨ob_T12, 91, ⟨rfl, ob_i12, ⟨ob_y12, ob_h12⟩, ob_n12⟩, by decide, rfl, rfl⟩
theorem F_12_42 : ob_fd 12 42 "OrbitBoxModel" "entryTime" "[I" true 22 := ⟨ob_T12, 91, ⟨rfl, ob_i12, ⟨ob_y12, ob_h12⟩, ob_n12⟩, by decide, rfl, rfl⟩
theorem F_12_43 : ob_fd 12 43 "OrbitBoxModel" "entryBytes" "[I" true 22 := ⟨ob_T12, 91, ⟨rfl, ob_i12, ⟨ob_y12, ob_h12⟩, ob_n12⟩, by decide, rfl, rfl⟩
theorem F_12_44 : ob_fd 12 44 "OrbitBoxModel" "entryCommand" "[B" true 23 := ⟨ob_T12, 91, ⟨rfl, ob_i12, ⟨ob_y12, ob_h12⟩, ob_n12⟩, by decide, rfl, rfl⟩
theorem F_12_45 : ob_fd 12 45 "OrbitBoxModel" "entries" "I" false 0 := ⟨ob_T12, 91, ⟨rfl, ob_i12, ⟨ob_y12, ob_h12⟩, ob_n12⟩, by decide, rfl, rfl⟩
theorem F_12_46 : ob_fd 12 46 "OrbitBoxModel" "tableOn" "Z" false 0 := ⟨ob_T12, 91, ⟨rfl, ob_i12, ⟨ob_y12, ob_h12⟩, ob_n12⟩, by decide, rfl, rfl⟩
theorem F_12_47 : ob_fd 12 47 "OrbitBoxModel" "limitThere" "[Z" true 24 := ⟨ob_T12, 91, ⟨rfl, ob_i12, ⟨ob_y12, ob_h12⟩, ob_n12⟩, by decide, rfl, rfl⟩
theorem F_12_48 : ob_fd 12 48 "OrbitBoxModel" "limitOn" "[Z" true 24 := ⟨ob_T12, 91, ⟨rfl, ob_i12, ⟨ob_y12, ob_h12⟩, ob_n12⟩, by decide, rfl, rfl⟩
theorem F_12_49 : ob_fd 12 49 "OrbitBoxModel" "limitOf" "[I" true 22 := ⟨ob_T12, 91, ⟨rfl, ob_i12, ⟨ob_y12, ob_h12⟩, ob_n12⟩, by decide, rfl, rfl⟩
theorem F_12_50 : ob_fd 12 50 "OrbitBoxModel" "limitTimes" "[I" true 22 := ⟨ob_T12, 91, ⟨rfl, ob_i12, ⟨ob_y12, ob_h12⟩, ob_n12⟩, by decide, rfl, rfl⟩
theorem F_12_51 : ob_fd 12 51 "OrbitBoxModel" "limitLow" "[I" true 22 := ⟨ob_T12, 91, ⟨rfl, ob_i12, ⟨ob_y12, ob_h12⟩, ob_n12⟩, by decide, rfl, rfl⟩
theorem F_12_52 : ob_fd 12 52 "OrbitBoxModel" "limitHigh" "[I" true 22 := ⟨ob_T12, 91, ⟨rfl, ob_i12, ⟨ob_y12, ob_h12⟩, ob_n12⟩, by decide, rfl, rfl⟩
theorem F_12_53 : ob_fd 12 53 "OrbitBoxModel" "limitEvent" "[I" true 22 := ⟨ob_T12, 91, ⟨rfl, ob_i12, ⟨ob_y12, ob_h12⟩, ob_n12⟩, by decide, rfl, rfl⟩
theorem F_12_54 : ob_fd 12 54 "OrbitBoxModel" "limitLink" "[I" true 22 := ⟨ob_T12, 91, ⟨rfl, ob_i12, ⟨ob_y12, ob_h12⟩, ob_n12⟩, by decide, rfl, rfl⟩
theorem F_12_55 : ob_fd 12 55 "OrbitBoxModel" "limitCount" "[I" true 22 := ⟨ob_T12, 91, ⟨rfl, ob_i12, ⟨ob_y12, ob_h12⟩, ob_n12⟩, by decide, rfl, rfl⟩
theorem F_12_56 : ob_fd 12 56 "OrbitBoxModel" "limits" "I" false 0 := ⟨ob_T12, 91, ⟨rfl, ob_i12, ⟨ob_y12, ob_h12⟩, ob_n12⟩, by decide, rfl, rfl⟩
theorem F_12_57 : ob_fd 12 57 "OrbitBoxModel" "broken" "I" false 0 := ⟨ob_T12, 91, ⟨rfl, ob_i12, ⟨ob_y12, ob_h12⟩, ob_n12⟩, by decide, rfl, rfl⟩
theorem F_12_58 : ob_fd 12 58 "OrbitBoxModel" "alarm" "I" false 0 := ⟨ob_T12, 91, ⟨rfl, ob_i12, ⟨ob_y12, ob_h12⟩, ob_n12⟩, by decide, rfl, rfl⟩
theorem F_12_59 : ob_fd 12 59 "OrbitBoxModel" "alarmed" "Z" false 0 := ⟨ob_T12, 91, ⟨rfl, ob_i12, ⟨ob_y12, ob_h12⟩, ob_n12⟩, by decide, rfl, rfl⟩
theorem F_12_60 : ob_fd 12 60 "OrbitBoxModel" "told" "[Z" true 24 := ⟨ob_T12, 91, ⟨rfl, ob_i12, ⟨ob_y12, ob_h12⟩, ob_n12⟩, by decide, rfl, rfl⟩
theorem F_12_61 : ob_fd 12 61 "OrbitBoxModel" "actionThere" "[Z" true 24 := ⟨ob_T12, 91, ⟨rfl, ob_i12, ⟨ob_y12, ob_h12⟩, ob_n12⟩, by decide, rfl, rfl⟩
theorem F_12_62 : ob_fd 12 62 "OrbitBoxModel" "actionOn" "[Z" true 24 := ⟨ob_T12, 91, ⟨rfl, ob_i12, ⟨ob_y12, ob_h12⟩, ob_n12⟩, by decide, rfl, rfl⟩
theorem F_12_63 : ob_fd 12 63 "OrbitBoxModel" "actionCommand" "[B" true 23 := ⟨ob_T12, 91, ⟨rfl, ob_i12, ⟨ob_y12, ob_h12⟩, ob_n12⟩, by decide, rfl, rfl⟩
theorem F_12_64 : ob_fd 12 64 "OrbitBoxModel" "actionBytes" "[I" true 22 := ⟨ob_T12, 91, ⟨rfl, ob_i12, ⟨ob_y12, ob_h12⟩, ob_n12⟩, by decide, rfl, rfl⟩
theorem F_12_65 : ob_fd 12 65 "OrbitBoxModel" "raisedEvent" "[I" true 22 := ⟨ob_T12, 91, ⟨rfl, ob_i12, ⟨ob_y12, ob_h12⟩, ob_n12⟩, by decide, rfl, rfl⟩
theorem F_12_66 : ob_fd 12 66 "OrbitBoxModel" "raisedWith" "[I" true 22 := ⟨ob_T12, 91, ⟨rfl, ob_i12, ⟨ob_y12, ob_h12⟩, ob_n12⟩, by decide, rfl, rfl⟩
theorem F_12_67 : ob_fd 12 67 "OrbitBoxModel" "raised" "I" false 0 := ⟨ob_T12, 91, ⟨rfl, ob_i12, ⟨ob_y12, ob_h12⟩, ob_n12⟩, by decide, rfl, rfl⟩
theorem F_12_68 : ob_fd 12 68 "OrbitBoxModel" "eventsLost" "I" false 0 := ⟨ob_T12, 91, ⟨rfl, ob_i12, ⟨ob_y12, ob_h12⟩, ob_n12⟩, by decide, rfl, rfl⟩
theorem F_12_69 : ob_fd 12 69 "OrbitBoxModel" "packet" "[B" true 23 := ⟨ob_T12, 91, ⟨rfl, ob_i12, ⟨ob_y12, ob_h12⟩, ob_n12⟩, by decide, rfl, rfl⟩
theorem F_12_70 : ob_fd 12 70 "OrbitBoxModel" "packetBytes" "I" false 0 := ⟨ob_T12, 91, ⟨rfl, ob_i12, ⟨ob_y12, ob_h12⟩, ob_n12⟩, by decide, rfl, rfl⟩
theorem F_12_71 : ob_fd 12 71 "OrbitBoxModel" "reports" "I" false 0 := ⟨ob_T12, 91, ⟨rfl, ob_i12, ⟨ob_y12, ob_h12⟩, ob_n12⟩, by decide, rfl, rfl⟩
theorem F_12_72 : ob_fd 12 72 "OrbitBoxModel" "reportsLost" "I" false 0 := ⟨ob_T12, 91, ⟨rfl, ob_i12, ⟨ob_y12, ob_h12⟩, ob_n12⟩, by decide, rfl, rfl⟩
theorem F_12_73 : ob_fd 12 73 "OrbitBoxModel" "reportsOf" "[I" true 22 := ⟨ob_T12, 91, ⟨rfl, ob_i12, ⟨ob_y12, ob_h12⟩, ob_n12⟩, by decide, rfl, rfl⟩
theorem F_12_74 : ob_fd 12 74 "OrbitBoxModel" "stored" "[Z" true 24 := ⟨ob_T12, 91, ⟨rfl, ob_i12, ⟨ob_y12, ob_h12⟩, ob_n12⟩, by decide, rfl, rfl⟩
theorem F_12_75 : ob_fd 12 75 "OrbitBoxModel" "store" "[B" true 23 := ⟨ob_T12, 91, ⟨rfl, ob_i12, ⟨ob_y12, ob_h12⟩, ob_n12⟩, by decide, rfl, rfl⟩
theorem F_12_76 : ob_fd 12 76 "OrbitBoxModel" "keptBytes" "[I" true 22 := ⟨ob_T12, 91, ⟨rfl, ob_i12, ⟨ob_y12, ob_h12⟩, ob_n12⟩, by decide, rfl, rfl⟩
theorem F_12_77 : ob_fd 12 77 "OrbitBoxModel" "keptTime" "[I" true 22 := ⟨ob_T12, 91, ⟨rfl, ob_i12, ⟨ob_y12, ob_h12⟩, ob_n12⟩, by decide, rfl, rfl⟩
theorem F_12_78 : ob_fd 12 78 "OrbitBoxModel" "kept" "I" false 0 := ⟨ob_T12, 91, ⟨rfl, ob_i12, ⟨ob_y12, ob_h12⟩, ob_n12⟩, by decide, rfl, rfl⟩
theorem F_12_79 : ob_fd 12 79 "OrbitBoxModel" "storeBytes" "I" false 0 := ⟨ob_T12, 91, ⟨rfl, ob_i12, ⟨ob_y12, ob_h12⟩, ob_n12⟩, by decide, rfl, rfl⟩
theorem F_12_80 : ob_fd 12 80 "OrbitBoxModel" "retrieving" "Z" false 0 := ⟨ob_T12, 91, ⟨rfl, ob_i12, ⟨ob_y12, ob_h12⟩, ob_n12⟩, by decide, rfl, rfl⟩
theorem F_12_81 : ob_fd 12 81 "OrbitBoxModel" "from" "I" false 0 := ⟨ob_T12, 91, ⟨rfl, ob_i12, ⟨ob_y12, ob_h12⟩, ob_n12⟩, by decide, rfl, rfl⟩
theorem F_12_82 : ob_fd 12 82 "OrbitBoxModel" "to" "I" false 0 := ⟨ob_T12, 91, ⟨rfl, ob_i12, ⟨ob_y12, ob_h12⟩, ob_n12⟩, by decide, rfl, rfl⟩
theorem F_12_83 : ob_fd 12 83 "OrbitBoxModel" "reached" "I" false 0 := ⟨ob_T12, 91, ⟨rfl, ob_i12, ⟨ob_y12, ob_h12⟩, ob_n12⟩, by decide, rfl, rfl⟩
theorem F_12_84 : ob_fd 12 84 "OrbitBoxModel" "row" "[[B" true 27 := ⟨ob_T12, 91, ⟨rfl, ob_i12, ⟨ob_y12, ob_h12⟩, ob_n12⟩, by decide, rfl, rfl⟩
theorem F_12_85 : ob_fd 12 85 "OrbitBoxModel" "begins" "[[Z" true 28 := ⟨ob_T12, 91, ⟨rfl, ob_i12, ⟨ob_y12, ob_h12⟩, ob_n12⟩, by decide, rfl, rfl⟩
theorem F_12_86 : ob_fd 12 86 "OrbitBoxModel" "wait" "[I" true 22 := ⟨ob_T12, 91, ⟨rfl, ob_i12, ⟨ob_y12, ob_h12⟩, ob_n12⟩, by decide, rfl, rfl⟩
theorem F_12_87 : ob_fd 12 87 "OrbitBoxModel" "frames" "[B" true 23 := ⟨ob_T12, 91, ⟨rfl, ob_i12, ⟨ob_y12, ob_h12⟩, ob_n12⟩, by decide, rfl, rfl⟩
theorem F_12_88 : ob_fd 12 88 "OrbitBoxModel" "framesThere" "I" false 0 := ⟨ob_T12, 91, ⟨rfl, ob_i12, ⟨ob_y12, ob_h12⟩, ob_n12⟩, by decide, rfl, rfl⟩
theorem F_12_89 : ob_fd 12 89 "OrbitBoxModel" "framesBefore" "I" false 0 := ⟨ob_T12, 91, ⟨rfl, ob_i12, ⟨ob_y12, ob_h12⟩, ob_n12⟩, by decide, rfl, rfl⟩
theorem F_12_90 : ob_fd 12 90 "OrbitBoxModel" "framesOf" "[I" true 22 := ⟨ob_T12, 91, ⟨rfl, ob_i12, ⟨ob_y12, ob_h12⟩, ob_n12⟩, by decide, rfl, rfl⟩
theorem l_Row_13 {K : ob_K} (h : K.1 = "OrbitBox$Row" := by rfl) : ob_fl K 13 "OrbitBox$Row" "length" "I" := by unfold ob_fl; rw [h]; exact Or.inl w_37
theorem l_Gate_20 {K : ob_K} (h : K.1 = "OrbitBox$Gate" := by rfl) : ob_fl K 20 "OrbitBox$Gate" "status" "I" := by unfold ob_fl; rw [h]; exact Or.inl w_99
theorem l_Gate_13 {K : ob_K} (h : K.1 = "OrbitBox$Gate" := by rfl) : ob_fl K 13 "OrbitBox$Gate" "queue" "[LOrbitBox$Row;" := by unfold ob_fl; rw [h]; exact Or.inl w_95
theorem l_Timetable_17 {K : ob_K} (h : K.1 = "OrbitBox$Timetable" := by rfl) : ob_fl K 17 "OrbitBox$Timetable" "commands" "[LOrbitBox$Row;" := by unfold ob_fl; rw [h]; exact Or.inl w_150
theorem l_Ring_13 {K : ob_K} (h : K.1 = "OrbitBox$Ring" := by rfl) : ob_fl K 13 "OrbitBox$Ring" "head" "I" := by unfold ob_fl; rw [h]; exact Or.inl w_180
theorem l_Ring_17 {K : ob_K} (h : K.1 = "OrbitBox$Ring" := by rfl) : ob_fl K 17 "OrbitBox$Ring" "size" "I" := by unfold ob_fl; rw [h]; exact Or.inl w_181
theorem l_Events_32 {K : ob_K} (h : K.1 = "OrbitBox$Events" := by rfl) : ob_fl K 32 "OrbitBox$Events" "actions" "[LOrbitBox$Row;" := by unfold ob_fl; rw [h]; exact Or.inl w_205
theorem l_Downlink_33 {K : ob_K} (h : K.1 = "OrbitBox$Downlink" := by rfl) : ob_fl K 33 "OrbitBox$Downlink" "frames" "[LOrbitBox$Row;" := by unfold ob_fl; rw [h]; exact Or.inl w_258
theorem l_Craft_39 {K : ob_K} (h : K.1 = "OrbitBox$Craft" := by rfl) : ob_fl K 39 "OrbitBox$Craft" "mode" "I" := by unfold ob_fl; rw [h]; exact Or.inl w_353
theorem l_Craft_42 {K : ob_K} (h : K.1 = "OrbitBox$Craft" := by rfl) : ob_fl K 42 "OrbitBox$Craft" "alarm" "I" := by unfold ob_fl; rw [h]; exact Or.inl w_358
theorem l_Handler_15 {K : ob_K} (h : K.1 = "OrbitBox$Handler" := by rfl) : ob_fl K 15 "OrbitBox$Craft" "gate" "LOrbitBox$Gate;" := by unfold ob_fl; rw [h]; exact Or.inr (List.mem_of_getElem? (i := 51) rfl)
theorem l_Handler_22 {K : ob_K} (h : K.1 = "OrbitBox$Handler" := by rfl) : ob_fl K 22 "OrbitBox$Craft" "timetable" "LOrbitBox$Timetable;" := by unfold ob_fl; rw [h]; exact Or.inr (List.mem_of_getElem? (i := 52) rfl)
theorem l_Handler_27 {K : ob_K} (h : K.1 = "OrbitBox$Handler" := by rfl) : ob_fl K 27 "OrbitBox$Craft" "events" "LOrbitBox$Events;" := by unfold ob_fl; rw [h]; exact Or.inr (List.mem_of_getElem? (i := 53) rfl)
theorem l_Handler_32 {K : ob_K} (h : K.1 = "OrbitBox$Handler" := by rfl) : ob_fl K 32 "OrbitBox$Craft" "reports" "LOrbitBox$Reports;" := by unfold ob_fl; rw [h]; exact Or.inr (List.mem_of_getElem? (i := 54) rfl)
theorem l_Box_18 {K : ob_K} (h : K.1 = "OrbitBox" := by rfl) : ob_fl K 18 "OrbitBox" "memory" "LOrbitBox$Row;" := by unfold ob_fl; rw [h]; exact Or.inl w_429
theorem l_Box_21 {K : ob_K} (h : K.1 = "OrbitBox" := by rfl) : ob_fl K 21 "OrbitBox$Row" "length" "I" := by unfold ob_fl; rw [h]; exact Or.inr (List.mem_of_getElem? (i := 1) rfl)
theorem l_Box_69 {K : ob_K} (h : K.1 = "OrbitBox" := by rfl) : ob_fl K 69 "OrbitBox" "downlink" "LOrbitBox$Downlink;" := by unfold ob_fl; rw [h]; exact Or.inl w_435
theorem l_Box_75 {K : ob_K} (h : K.1 = "OrbitBox" := by rfl) : ob_fl K 75 "OrbitBox$Downlink" "live" "LOrbitBox$Ring;" := by unfold ob_fl; rw [h]; exact Or.inr (List.mem_of_getElem? (i := 39) rfl)
theorem l_Box_28 {K : ob_K} (h : K.1 = "OrbitBox" := by rfl) : ob_fl K 28 "OrbitBox" "receiver" "LOrbitBox$Receiver;" := by unfold ob_fl; rw [h]; exact Or.inl w_430
theorem l_Box_35 {K : ob_K} (h : K.1 = "OrbitBox" := by rfl) : ob_fl K 35 "OrbitBox" "gate" "LOrbitBox$Gate;" := by unfold ob_fl; rw [h]; exact Or.inl w_431
theorem l_Box_46 {K : ob_K} (h : K.1 = "OrbitBox" := by rfl) : ob_fl K 46 "OrbitBox" "timetable" "LOrbitBox$Timetable;" := by unfold ob_fl; rw [h]; exact Or.inl w_432
theorem l_Box_53 {K : ob_K} (h : K.1 = "OrbitBox" := by rfl) : ob_fl K 53 "OrbitBox" "events" "LOrbitBox$Events;" := by unfold ob_fl; rw [h]; exact Or.inl w_433
theorem l_Box_82 {K : ob_K} (h : K.1 = "OrbitBox" := by rfl) : ob_fl K 82 "OrbitBox" "reports" "LOrbitBox$Reports;" := by unfold ob_fl; rw [h]; exact Or.inl w_436
theorem l_Box_91 {K : ob_K} (h : K.1 = "OrbitBox" := by rfl) : ob_fl K 91 "OrbitBox" "craft" "LOrbitBox$Craft;" := by unfold ob_fl; rw [h]; exact Or.inl w_437
theorem l_Box_62 {K : ob_K} (h : K.1 = "OrbitBox" := by rfl) : ob_fl K 62 "OrbitBox" "limits" "LOrbitBox$Table;" := by unfold ob_fl; rw [h]; exact Or.inl w_434
theorem l_Row_7 {K : ob_K} (h : K.1 = "OrbitBox$Row" := by rfl) : ob_fl K 7 "OrbitBox$Row" "bytes" "[I" := by unfold ob_fl; rw [h]; exact Or.inl w_35
theorem l_Box_14 {K : ob_K} (h : K.1 = "OrbitBox" := by rfl) : ob_fl K 14 "OrbitBox" "tape" "LOrbitBox$Row;" := by unfold ob_fl; rw [h]; exact Or.inl w_428
theorem l_Receiver_57 {K : ob_K} (h : K.1 = "OrbitBox$Receiver" := by rfl) : ob_fl K 57 "OrbitBox$Receiver" "remainder" "I" := by unfold ob_fl; rw [h]; exact Or.inl w_68
theorem l_Receiver_74 {K : ob_K} (h : K.1 = "OrbitBox$Receiver" := by rfl) : ob_fl K 74 "OrbitBox$Receiver" "putRight" "I" := by unfold ob_fl; rw [h]; exact Or.inl w_70
theorem l_Receiver_53 {K : ob_K} (h : K.1 = "OrbitBox$Receiver" := by rfl) : ob_fl K 53 "OrbitBox$Receiver" "block" "J" := by unfold ob_fl; rw [h]; exact Or.inl w_67
theorem l_Receiver_31 {K : ob_K} (h : K.1 = "OrbitBox$Receiver" := by rfl) : ob_fl K 31 "OrbitBox$Receiver" "bits" "I" := by unfold ob_fl; rw [h]; exact Or.inl w_66
theorem l_Receiver_47 {K : ob_K} (h : K.1 = "OrbitBox$Receiver" := by rfl) : ob_fl K 47 "OrbitBox$Row" "length" "I" := by unfold ob_fl; rw [h]; exact Or.inr (List.mem_of_getElem? (i := 2) rfl)
theorem l_Receiver_14 {K : ob_K} (h : K.1 = "OrbitBox$Receiver" := by rfl) : ob_fl K 14 "OrbitBox$Receiver" "candidate" "LOrbitBox$Row;" := by unfold ob_fl; rw [h]; exact Or.inl w_61
theorem l_Receiver_26 {K : ob_K} (h : K.1 = "OrbitBox$Receiver" := by rfl) : ob_fl K 26 "OrbitBox$Receiver" "window" "I" := by unfold ob_fl; rw [h]; exact Or.inl w_65
theorem l_Receiver_18 {K : ob_K} (h : K.1 = "OrbitBox$Receiver" := by rfl) : ob_fl K 18 "OrbitBox$Receiver" "collects" "Z" := by unfold ob_fl; rw [h]; exact Or.inl w_63
theorem l_Gate_45 {K : ob_K} (h : K.1 = "OrbitBox$Gate" := by rfl) : ob_fl K 45 "OrbitBox$Row" "length" "I" := by unfold ob_fl; rw [h]; exact Or.inr (List.mem_of_getElem? (i := 5) rfl)
theorem l_Gate_85 {K : ob_K} (h : K.1 = "OrbitBox$Gate" := by rfl) : ob_fl K 85 "OrbitBox$Gate" "accepted" "I" := by unfold ob_fl; rw [h]; exact Or.inl w_109
theorem l_Gate_75 {K : ob_K} (h : K.1 = "OrbitBox$Gate" := by rfl) : ob_fl K 75 "OrbitBox$Gate" "queued" "I" := by unfold ob_fl; rw [h]; exact Or.inl w_98
theorem l_Gate_78 {K : ob_K} (h : K.1 = "OrbitBox$Gate" := by rfl) : ob_fl K 78 "OrbitBox$Gate" "first" "I" := by unfold ob_fl; rw [h]; exact Or.inl w_96
theorem l_Gate_62 {K : ob_K} (h : K.1 = "OrbitBox$Gate" := by rfl) : ob_fl K 62 "OrbitBox$Gate" "again" "Z" := by unfold ob_fl; rw [h]; exact Or.inl w_104
theorem l_Gate_59 {K : ob_K} (h : K.1 = "OrbitBox$Gate" := by rfl) : ob_fl K 59 "OrbitBox$Gate" "next" "I" := by unfold ob_fl; rw [h]; exact Or.inl w_102
theorem l_Gate_69 {K : ob_K} (h : K.1 = "OrbitBox$Gate" := by rfl) : ob_fl K 69 "OrbitBox$Gate" "waits" "Z" := by unfold ob_fl; rw [h]; exact Or.inl w_103
theorem l_Gate_72 {K : ob_K} (h : K.1 = "OrbitBox$Gate" := by rfl) : ob_fl K 72 "OrbitBox$Gate" "beside" "I" := by unfold ob_fl; rw [h]; exact Or.inl w_105
theorem l_Gate_28 {K : ob_K} (h : K.1 = "OrbitBox$Gate" := by rfl) : ob_fl K 28 "OrbitBox$Gate" "refused" "I" := by unfold ob_fl; rw [h]; exact Or.inl w_106
theorem l_Box_115 {K : ob_K} (h : K.1 = "OrbitBox" := by rfl) : ob_fl K 115 "OrbitBox$Receiver" "candidate" "LOrbitBox$Row;" := by unfold ob_fl; rw [h]; exact Or.inr (List.mem_of_getElem? (i := 10) rfl)
theorem l_Box_122 {K : ob_K} (h : K.1 = "OrbitBox" := by rfl) : ob_fl K 122 "OrbitBox$Craft" "wires" "[I" := by unfold ob_fl; rw [h]; exact Or.inr (List.mem_of_getElem? (i := 55) rfl)
theorem l_Timetable_9 {K : ob_K} (h : K.1 = "OrbitBox$Timetable" := by rfl) : ob_fl K 9 "OrbitBox$Timetable" "times" "[I" := by unfold ob_fl; rw [h]; exact Or.inl w_148
theorem l_Timetable_24 {K : ob_K} (h : K.1 = "OrbitBox$Timetable" := by rfl) : ob_fl K 24 "OrbitBox$Timetable" "size" "I" := by unfold ob_fl; rw [h]; exact Or.inl w_152
theorem l_Timetable_40 {K : ob_K} (h : K.1 = "OrbitBox$Timetable" := by rfl) : ob_fl K 40 "OrbitBox$Row" "length" "I" := by unfold ob_fl; rw [h]; exact Or.inr (List.mem_of_getElem? (i := 8) rfl)
theorem l_Reports_26 {K : ob_K} (h : K.1 = "OrbitBox$Reports" := by rfl) : ob_fl K 26 "OrbitBox$Reports" "packet" "LOrbitBox$Row;" := by unfold ob_fl; rw [h]; exact Or.inl w_295
theorem l_Reports_47 {K : ob_K} (h : K.1 = "OrbitBox$Reports" := by rfl) : ob_fl K 47 "OrbitBox$Reports" "madeInAll" "I" := by unfold ob_fl; rw [h]; exact Or.inl w_299
theorem l_Reports_34 {K : ob_K} (h : K.1 = "OrbitBox$Reports" := by rfl) : ob_fl K 34 "OrbitBox$Reports" "made" "[I" := by unfold ob_fl; rw [h]; exact Or.inl w_298
theorem l_Reports_38 {K : ob_K} (h : K.1 = "OrbitBox$Reports" := by rfl) : ob_fl K 38 "OrbitBox$Row" "length" "I" := by unfold ob_fl; rw [h]; exact Or.inr (List.mem_of_getElem? (i := 4) rfl)
theorem l_Ring_7 {K : ob_K} (h : K.1 = "OrbitBox$Ring" := by rfl) : ob_fl K 7 "OrbitBox$Ring" "cells" "[I" := by unfold ob_fl; rw [h]; exact Or.inl w_178
theorem l_Ring_29 {K : ob_K} (h : K.1 = "OrbitBox$Ring" := by rfl) : ob_fl K 29 "OrbitBox$Row" "bytes" "[I" := by unfold ob_fl; rw [h]; exact Or.inr (List.mem_of_getElem? (i := 0) rfl)
theorem l_Ring_20 {K : ob_K} (h : K.1 = "OrbitBox$Ring" := by rfl) : ob_fl K 20 "OrbitBox$Row" "length" "I" := by unfold ob_fl; rw [h]; exact Or.inr (List.mem_of_getElem? (i := 6) rfl)
theorem l_Reports_88 {K : ob_K} (h : K.1 = "OrbitBox$Reports" := by rfl) : ob_fl K 88 "OrbitBox$Reports" "retrieveNext" "I" := by unfold ob_fl; rw [h]; exact Or.inl w_309
theorem l_Reports_75 {K : ob_K} (h : K.1 = "OrbitBox$Reports" := by rfl) : ob_fl K 75 "OrbitBox$Reports" "packets" "I" := by unfold ob_fl; rw [h]; exact Or.inl w_303
theorem l_Reports_20 {K : ob_K} (h : K.1 = "OrbitBox$Reports" := by rfl) : ob_fl K 20 "OrbitBox$Reports" "store" "LOrbitBox$Ring;" := by unfold ob_fl; rw [h]; exact Or.inl w_293
theorem l_Reports_72 {K : ob_K} (h : K.1 = "OrbitBox$Reports" := by rfl) : ob_fl K 72 "OrbitBox$Ring" "cells" "[I" := by unfold ob_fl; rw [h]; exact Or.inr (List.mem_of_getElem? (i := 24) rfl)
theorem l_Reports_30 {K : ob_K} (h : K.1 = "OrbitBox$Reports" := by rfl) : ob_fl K 30 "OrbitBox$Reports" "stored" "[Z" := by unfold ob_fl; rw [h]; exact Or.inl w_296
theorem l_Reports_62 {K : ob_K} (h : K.1 = "OrbitBox$Reports" := by rfl) : ob_fl K 62 "OrbitBox$Reports" "lost" "I" := by unfold ob_fl; rw [h]; exact Or.inl w_301
theorem l_Reports_9 {K : ob_K} (h : K.1 = "OrbitBox$Reports" := by rfl) : ob_fl K 9 "OrbitBox$Reports" "live" "LOrbitBox$Ring;" := by unfold ob_fl; rw [h]; exact Or.inl w_291
theorem l_Handler_36 {K : ob_K} (h : K.1 = "OrbitBox$Handler" := by rfl) : ob_fl K 36 "OrbitBox$Handler" "reports" "LOrbitBox$Reports;" := by unfold ob_fl; rw [h]; exact Or.inl w_404
theorem l_Handler_53 {K : ob_K} (h : K.1 = "OrbitBox$Handler" := by rfl) : ob_fl K 53 "OrbitBox$Handler" "command" "LOrbitBox$Row;" := by unfold ob_fl; rw [h]; exact Or.inl w_408
theorem l_Handler_58 {K : ob_K} (h : K.1 = "OrbitBox$Handler" := by rfl) : ob_fl K 58 "OrbitBox$Craft" "clock" "I" := by unfold ob_fl; rw [h]; exact Or.inr (List.mem_of_getElem? (i := 57) rfl)
theorem l_Handler_9 {K : ob_K} (h : K.1 = "OrbitBox$Handler" := by rfl) : ob_fl K 9 "OrbitBox$Handler" "craft" "LOrbitBox$Craft;" := by unfold ob_fl; rw [h]; exact Or.inl w_400
theorem l_Handler_163 {K : ob_K} (h : K.1 = "OrbitBox$Handler" := by rfl) : ob_fl K 163 "OrbitBox$Craft" "failed" "I" := by unfold ob_fl; rw [h]; exact Or.inr (List.mem_of_getElem? (i := 61) rfl)
theorem l_Table_15 {K : ob_K} (h : K.1 = "OrbitBox$Table" := by rfl) : ob_fl K 15 "OrbitBox$Table" "width" "I" := by unfold ob_fl; rw [h]; exact Or.inl w_230
theorem l_Table_18 {K : ob_K} (h : K.1 = "OrbitBox$Table" := by rfl) : ob_fl K 18 "OrbitBox$Table" "cells" "[I" := by unfold ob_fl; rw [h]; exact Or.inl w_231
theorem l_Table_22 {K : ob_K} (h : K.1 = "OrbitBox$Table" := by rfl) : ob_fl K 22 "OrbitBox$Table" "size" "I" := by unfold ob_fl; rw [h]; exact Or.inl w_232
theorem l_Table_11 {K : ob_K} (h : K.1 = "OrbitBox$Table" := by rfl) : ob_fl K 11 "OrbitBox$Table" "most" "I" := by unfold ob_fl; rw [h]; exact Or.inl w_229
theorem l_Handler_37 {K : ob_K} (h : K.1 = "OrbitBox$Handler" := by rfl) : ob_fl K 37 "OrbitBox$Handler" "forms" "LOrbitBox$Table;" := by unfold ob_fl; rw [h]; exact Or.inl w_405
theorem l_Handler_236 {K : ob_K} (h : K.1 = "OrbitBox$Handler" := by rfl) : ob_fl K 236 "OrbitBox$Craft" "mode" "I" := by unfold ob_fl; rw [h]; exact Or.inr (List.mem_of_getElem? (i := 56) rfl)
theorem l_Handler_140 {K : ob_K} (h : K.1 = "OrbitBox$Handler" := by rfl) : ob_fl K 140 "OrbitBox$Row" "length" "I" := by unfold ob_fl; rw [h]; exact Or.inr (List.mem_of_getElem? (i := 9) rfl)
theorem l_Handler_26 {K : ob_K} (h : K.1 = "OrbitBox$Handler" := by rfl) : ob_fl K 26 "OrbitBox$Handler" "timetable" "LOrbitBox$Timetable;" := by unfold ob_fl; rw [h]; exact Or.inl w_402
theorem l_Handler_41 {K : ob_K} (h : K.1 = "OrbitBox$Handler" := by rfl) : ob_fl K 41 "OrbitBox$Handler" "limits" "LOrbitBox$Table;" := by unfold ob_fl; rw [h]; exact Or.inl w_406
theorem l_Handler_243 {K : ob_K} (h : K.1 = "OrbitBox$Handler" := by rfl) : ob_fl K 243 "OrbitBox$Events" "hasAction" "[Z" := by unfold ob_fl; rw [h]; exact Or.inr (List.mem_of_getElem? (i := 33) rfl)
theorem l_Handler_31 {K : ob_K} (h : K.1 = "OrbitBox$Handler" := by rfl) : ob_fl K 31 "OrbitBox$Handler" "events" "LOrbitBox$Events;" := by unfold ob_fl; rw [h]; exact Or.inl w_403
theorem l_Handler_247 {K : ob_K} (h : K.1 = "OrbitBox$Handler" := by rfl) : ob_fl K 247 "OrbitBox$Events" "actionOn" "[Z" := by unfold ob_fl; rw [h]; exact Or.inr (List.mem_of_getElem? (i := 34) rfl)
theorem l_Handler_215 {K : ob_K} (h : K.1 = "OrbitBox$Handler" := by rfl) : ob_fl K 215 "OrbitBox$Reports" "retrieving" "Z" := by unfold ob_fl; rw [h]; exact Or.inr (List.mem_of_getElem? (i := 50) rfl)
theorem l_Craft_45 {K : ob_K} (h : K.1 = "OrbitBox$Craft" := by rfl) : ob_fl K 45 "OrbitBox$Craft" "clock" "I" := by unfold ob_fl; rw [h]; exact Or.inl w_356
theorem l_Craft_48 {K : ob_K} (h : K.1 = "OrbitBox$Craft" := by rfl) : ob_fl K 48 "OrbitBox$Gate" "status" "I" := by unfold ob_fl; rw [h]; exact Or.inr (List.mem_of_getElem? (i := 14) rfl)
theorem l_Craft_19 {K : ob_K} (h : K.1 = "OrbitBox$Craft" := by rfl) : ob_fl K 19 "OrbitBox$Craft" "gate" "LOrbitBox$Gate;" := by unfold ob_fl; rw [h]; exact Or.inl w_344
theorem l_Craft_53 {K : ob_K} (h : K.1 = "OrbitBox$Craft" := by rfl) : ob_fl K 53 "OrbitBox$Gate" "next" "I" := by unfold ob_fl; rw [h]; exact Or.inr (List.mem_of_getElem? (i := 15) rfl)
theorem l_Craft_56 {K : ob_K} (h : K.1 = "OrbitBox$Craft" := by rfl) : ob_fl K 56 "OrbitBox$Timetable" "size" "I" := by unfold ob_fl; rw [h]; exact Or.inr (List.mem_of_getElem? (i := 20) rfl)
theorem l_Craft_23 {K : ob_K} (h : K.1 = "OrbitBox$Craft" := by rfl) : ob_fl K 23 "OrbitBox$Craft" "timetable" "LOrbitBox$Timetable;" := by unfold ob_fl; rw [h]; exact Or.inl w_346
theorem l_Craft_61 {K : ob_K} (h : K.1 = "OrbitBox$Craft" := by rfl) : ob_fl K 61 "OrbitBox$Gate" "queued" "I" := by unfold ob_fl; rw [h]; exact Or.inr (List.mem_of_getElem? (i := 13) rfl)
theorem l_Craft_64 {K : ob_K} (h : K.1 = "OrbitBox$Craft" := by rfl) : ob_fl K 64 "OrbitBox$Receiver" "putRight" "I" := by unfold ob_fl; rw [h]; exact Or.inr (List.mem_of_getElem? (i := 12) rfl)
theorem l_Craft_15 {K : ob_K} (h : K.1 = "OrbitBox$Craft" := by rfl) : ob_fl K 15 "OrbitBox$Craft" "receiver" "LOrbitBox$Receiver;" := by unfold ob_fl; rw [h]; exact Or.inl w_342
theorem l_Craft_69 {K : ob_K} (h : K.1 = "OrbitBox$Craft" := by rfl) : ob_fl K 69 "OrbitBox$Gate" "refused" "I" := by unfold ob_fl; rw [h]; exact Or.inr (List.mem_of_getElem? (i := 16) rfl)
theorem l_Craft_72 {K : ob_K} (h : K.1 = "OrbitBox$Craft" := by rfl) : ob_fl K 72 "OrbitBox$Gate" "accepted" "I" := by unfold ob_fl; rw [h]; exact Or.inr (List.mem_of_getElem? (i := 17) rfl)
theorem l_Craft_75 {K : ob_K} (h : K.1 = "OrbitBox$Craft" := by rfl) : ob_fl K 75 "OrbitBox$Craft" "handled" "I" := by unfold ob_fl; rw [h]; exact Or.inl w_360
theorem l_Craft_78 {K : ob_K} (h : K.1 = "OrbitBox$Craft" := by rfl) : ob_fl K 78 "OrbitBox$Craft" "failed" "I" := by unfold ob_fl; rw [h]; exact Or.inl w_362
theorem l_Craft_81 {K : ob_K} (h : K.1 = "OrbitBox$Craft" := by rfl) : ob_fl K 81 "OrbitBox$Reports" "lost" "I" := by unfold ob_fl; rw [h]; exact Or.inr (List.mem_of_getElem? (i := 47) rfl)
theorem l_Craft_31 {K : ob_K} (h : K.1 = "OrbitBox$Craft" := by rfl) : ob_fl K 31 "OrbitBox$Craft" "reports" "LOrbitBox$Reports;" := by unfold ob_fl; rw [h]; exact Or.inl w_349
theorem l_Craft_86 {K : ob_K} (h : K.1 = "OrbitBox$Craft" := by rfl) : ob_fl K 86 "OrbitBox$Reports" "packets" "I" := by unfold ob_fl; rw [h]; exact Or.inr (List.mem_of_getElem? (i := 48) rfl)
theorem l_Craft_93 {K : ob_K} (h : K.1 = "OrbitBox$Craft" := by rfl) : ob_fl K 93 "OrbitBox$Ring" "size" "I" := by unfold ob_fl; rw [h]; exact Or.inr (List.mem_of_getElem? (i := 26) rfl)
theorem l_Craft_89 {K : ob_K} (h : K.1 = "OrbitBox$Craft" := by rfl) : ob_fl K 89 "OrbitBox$Reports" "live" "LOrbitBox$Ring;" := by unfold ob_fl; rw [h]; exact Or.inr (List.mem_of_getElem? (i := 44) rfl)
theorem l_Craft_96 {K : ob_K} (h : K.1 = "OrbitBox$Craft" := by rfl) : ob_fl K 96 "OrbitBox$Events" "lost" "I" := by unfold ob_fl; rw [h]; exact Or.inr (List.mem_of_getElem? (i := 36) rfl)
theorem l_Craft_27 {K : ob_K} (h : K.1 = "OrbitBox$Craft" := by rfl) : ob_fl K 27 "OrbitBox$Craft" "events" "LOrbitBox$Events;" := by unfold ob_fl; rw [h]; exact Or.inl w_348
theorem l_Craft_99 {K : ob_K} (h : K.1 = "OrbitBox$Craft" := by rfl) : ob_fl K 99 "OrbitBox$Craft" "broken" "I" := by unfold ob_fl; rw [h]; exact Or.inl w_364
theorem l_Craft_35 {K : ob_K} (h : K.1 = "OrbitBox$Craft" := by rfl) : ob_fl K 35 "OrbitBox$Craft" "wires" "[I" := by unfold ob_fl; rw [h]; exact Or.inl w_351
theorem l_Handler_323 {K : ob_K} (h : K.1 = "OrbitBox$Handler" := by rfl) : ob_fl K 323 "OrbitBox$Events" "silent" "[Z" := by unfold ob_fl; rw [h]; exact Or.inr (List.mem_of_getElem? (i := 32) rfl)
theorem l_Handler_44 {K : ob_K} (h : K.1 = "OrbitBox$Handler" := by rfl) : ob_fl K 44 "OrbitBox$Handler" "memory" "LOrbitBox$Row;" := by unfold ob_fl; rw [h]; exact Or.inl w_407
theorem l_Events_48 {K : ob_K} (h : K.1 = "OrbitBox$Events" := by rfl) : ob_fl K 48 "OrbitBox$Events" "lost" "I" := by unfold ob_fl; rw [h]; exact Or.inl w_208
theorem l_Events_16 {K : ob_K} (h : K.1 = "OrbitBox$Events" := by rfl) : ob_fl K 16 "OrbitBox$Events" "raised" "LOrbitBox$Ring;" := by unfold ob_fl; rw [h]; exact Or.inl w_197
theorem l_Handler_345 {K : ob_K} (h : K.1 = "OrbitBox$Handler" := by rfl) : ob_fl K 345 "OrbitBox$Reports" "stored" "[Z" := by unfold ob_fl; rw [h]; exact Or.inr (List.mem_of_getElem? (i := 46) rfl)
theorem l_Reports_98 {K : ob_K} (h : K.1 = "OrbitBox$Reports" := by rfl) : ob_fl K 98 "OrbitBox$Reports" "retrieveTo" "I" := by unfold ob_fl; rw [h]; exact Or.inl w_308
theorem l_Reports_95 {K : ob_K} (h : K.1 = "OrbitBox$Reports" := by rfl) : ob_fl K 95 "OrbitBox$Reports" "retrieveFrom" "I" := by unfold ob_fl; rw [h]; exact Or.inl w_307
theorem l_Reports_91 {K : ob_K} (h : K.1 = "OrbitBox$Reports" := by rfl) : ob_fl K 91 "OrbitBox$Reports" "retrieving" "Z" := by unfold ob_fl; rw [h]; exact Or.inl w_304
theorem l_Handler_348 {K : ob_K} (h : K.1 = "OrbitBox$Handler" := by rfl) : ob_fl K 348 "OrbitBox$Events" "actions" "[LOrbitBox$Row;" := by unfold ob_fl; rw [h]; exact Or.inr (List.mem_of_getElem? (i := 35) rfl)
theorem l_Handler_70 {K : ob_K} (h : K.1 = "OrbitBox$Handler" := by rfl) : ob_fl K 70 "OrbitBox$Timetable" "on" "Z" := by unfold ob_fl; rw [h]; exact Or.inr (List.mem_of_getElem? (i := 23) rfl)
theorem l_Handler_276 {K : ob_K} (h : K.1 = "OrbitBox$Handler" := by rfl) : ob_fl K 276 "OrbitBox$Timetable" "size" "I" := by unfold ob_fl; rw [h]; exact Or.inr (List.mem_of_getElem? (i := 22) rfl)
theorem l_Handler_137 {K : ob_K} (h : K.1 = "OrbitBox$Handler" := by rfl) : ob_fl K 137 "OrbitBox$Craft" "handled" "I" := by unfold ob_fl; rw [h]; exact Or.inr (List.mem_of_getElem? (i := 60) rfl)
theorem l_Handler_21 {K : ob_K} (h : K.1 = "OrbitBox$Handler" := by rfl) : ob_fl K 21 "OrbitBox$Handler" "gate" "LOrbitBox$Gate;" := by unfold ob_fl; rw [h]; exact Or.inl w_401
theorem l_Craft_9 {K : ob_K} (h : K.1 = "OrbitBox$Craft" := by rfl) : ob_fl K 9 "OrbitBox$Craft" "patience" "I" := by unfold ob_fl; rw [h]; exact Or.inl w_341
theorem l_Craft_109 {K : ob_K} (h : K.1 = "OrbitBox$Craft" := by rfl) : ob_fl K 109 "OrbitBox$Table" "size" "I" := by unfold ob_fl; rw [h]; exact Or.inr (List.mem_of_getElem? (i := 37) rfl)
theorem l_Events_20 {K : ob_K} (h : K.1 = "OrbitBox$Events" := by rfl) : ob_fl K 20 "OrbitBox$Events" "silent" "[Z" := by unfold ob_fl; rw [h]; exact Or.inl w_199
theorem l_Events_54 {K : ob_K} (h : K.1 = "OrbitBox$Events" := by rfl) : ob_fl K 54 "OrbitBox$Row" "length" "I" := by unfold ob_fl; rw [h]; exact Or.inr (List.mem_of_getElem? (i := 7) rfl)
theorem l_Events_27 {K : ob_K} (h : K.1 = "OrbitBox$Events" := by rfl) : ob_fl K 27 "OrbitBox$Events" "actionOn" "[Z" := by unfold ob_fl; rw [h]; exact Or.inl w_203
theorem l_Events_24 {K : ob_K} (h : K.1 = "OrbitBox$Events" := by rfl) : ob_fl K 24 "OrbitBox$Events" "hasAction" "[Z" := by unfold ob_fl; rw [h]; exact Or.inl w_201
theorem l_Events_37 {K : ob_K} (h : K.1 = "OrbitBox$Events" := by rfl) : ob_fl K 37 "OrbitBox$Ring" "size" "I" := by unfold ob_fl; rw [h]; exact Or.inr (List.mem_of_getElem? (i := 27) rfl)
theorem l_Handler_88 {K : ob_K} (h : K.1 = "OrbitBox$Handler" := by rfl) : ob_fl K 88 "OrbitBox$Events" "raised" "LOrbitBox$Ring;" := by unfold ob_fl; rw [h]; exact Or.inr (List.mem_of_getElem? (i := 31) rfl)
theorem l_Handler_92 {K : ob_K} (h : K.1 = "OrbitBox$Handler" := by rfl) : ob_fl K 92 "OrbitBox$Ring" "size" "I" := by unfold ob_fl; rw [h]; exact Or.inr (List.mem_of_getElem? (i := 28) rfl)
theorem l_Handler_127 {K : ob_K} (h : K.1 = "OrbitBox$Handler" := by rfl) : ob_fl K 127 "OrbitBox$Table" "size" "I" := by unfold ob_fl; rw [h]; exact Or.inr (List.mem_of_getElem? (i := 38) rfl)
theorem l_Reports_101 {K : ob_K} (h : K.1 = "OrbitBox$Reports" := by rfl) : ob_fl K 101 "OrbitBox$Ring" "size" "I" := by unfold ob_fl; rw [h]; exact Or.inr (List.mem_of_getElem? (i := 29) rfl)
theorem l_Downlink_9 {K : ob_K} (h : K.1 = "OrbitBox$Downlink" := by rfl) : ob_fl K 9 "OrbitBox$Downlink" "frameLength" "I" := by unfold ob_fl; rw [h]; exact Or.inl w_260
theorem l_Downlink_38 {K : ob_K} (h : K.1 = "OrbitBox$Downlink" := by rfl) : ob_fl K 38 "OrbitBox$Ring" "size" "I" := by unfold ob_fl; rw [h]; exact Or.inr (List.mem_of_getElem? (i := 25) rfl)
theorem l_Downlink_27 {K : ob_K} (h : K.1 = "OrbitBox$Downlink" := by rfl) : ob_fl K 27 "OrbitBox$Downlink" "sentOf" "[I" := by unfold ob_fl; rw [h]; exact Or.inl w_262
theorem l_Downlink_55 {K : ob_K} (h : K.1 = "OrbitBox$Downlink" := by rfl) : ob_fl K 55 "OrbitBox$Downlink" "sentInAll" "I" := by unfold ob_fl; rw [h]; exact Or.inl w_263
theorem l_Downlink_48 {K : ob_K} (h : K.1 = "OrbitBox$Downlink" := by rfl) : ob_fl K 48 "OrbitBox$Row" "length" "I" := by unfold ob_fl; rw [h]; exact Or.inr (List.mem_of_getElem? (i := 3) rfl)
theorem l_Downlink_24 {K : ob_K} (h : K.1 = "OrbitBox$Downlink" := by rfl) : ob_fl K 24 "OrbitBox$Downlink" "replay" "LOrbitBox$Ring;" := by unfold ob_fl; rw [h]; exact Or.inl w_256
theorem l_Downlink_20 {K : ob_K} (h : K.1 = "OrbitBox$Downlink" := by rfl) : ob_fl K 20 "OrbitBox$Downlink" "live" "LOrbitBox$Ring;" := by unfold ob_fl; rw [h]; exact Or.inl w_254
theorem l_Downlink_45 {K : ob_K} (h : K.1 = "OrbitBox$Downlink" := by rfl) : ob_fl K 45 "OrbitBox$Downlink" "sent" "I" := by unfold ob_fl; rw [h]; exact Or.inl w_264
theorem l_Box_148 {K : ob_K} (h : K.1 = "OrbitBox" := by rfl) : ob_fl K 148 "OrbitBox$Downlink" "replay" "LOrbitBox$Ring;" := by unfold ob_fl; rw [h]; exact Or.inr (List.mem_of_getElem? (i := 40) rfl)
theorem l_Box_100 {K : ob_K} (h : K.1 = "OrbitBox" := by rfl) : ob_fl K 100 "OrbitBox" "handler" "LOrbitBox$Handler;" := by unfold ob_fl; rw [h]; exact Or.inl w_438
theorem l_Box_126 {K : ob_K} (h : K.1 = "OrbitBox" := by rfl) : ob_fl K 126 "OrbitBox$Craft" "clock" "I" := by unfold ob_fl; rw [h]; exact Or.inr (List.mem_of_getElem? (i := 58) rfl)
theorem l_Box_197 {K : ob_K} (h : K.1 = "OrbitBox" := by rfl) : ob_fl K 197 "OrbitBox$Ring" "size" "I" := by unfold ob_fl; rw [h]; exact Or.inr (List.mem_of_getElem? (i := 30) rfl)
theorem l_Box_200 {K : ob_K} (h : K.1 = "OrbitBox" := by rfl) : ob_fl K 200 "OrbitBox$Craft" "alarm" "I" := by unfold ob_fl; rw [h]; exact Or.inr (List.mem_of_getElem? (i := 59) rfl)
theorem l_Box_203 {K : ob_K} (h : K.1 = "OrbitBox" := by rfl) : ob_fl K 203 "OrbitBox$Reports" "retrieving" "Z" := by unfold ob_fl; rw [h]; exact Or.inr (List.mem_of_getElem? (i := 49) rfl)
theorem l_Box_207 {K : ob_K} (h : K.1 = "OrbitBox" := by rfl) : ob_fl K 207 "OrbitBox$Reports" "store" "LOrbitBox$Ring;" := by unfold ob_fl; rw [h]; exact Or.inr (List.mem_of_getElem? (i := 45) rfl)
theorem l_Box_213 {K : ob_K} (h : K.1 = "OrbitBox" := by rfl) : ob_fl K 213 "OrbitBox$Receiver" "collects" "Z" := by unfold ob_fl; rw [h]; exact Or.inr (List.mem_of_getElem? (i := 11) rfl)
theorem l_Box_172 {K : ob_K} (h : K.1 = "OrbitBox" := by rfl) : ob_fl K 172 "OrbitBox$Downlink" "frames" "[LOrbitBox$Row;" := by unfold ob_fl; rw [h]; exact Or.inr (List.mem_of_getElem? (i := 41) rfl)
theorem l_Box_166 {K : ob_K} (h : K.1 = "OrbitBox" := by rfl) : ob_fl K 166 "OrbitBox$Downlink" "frameLength" "I" := by unfold ob_fl; rw [h]; exact Or.inr (List.mem_of_getElem? (i := 42) rfl)
theorem l_Box_163 {K : ob_K} (h : K.1 = "OrbitBox" := by rfl) : ob_fl K 163 "OrbitBox$Downlink" "sent" "I" := by unfold ob_fl; rw [h]; exact Or.inr (List.mem_of_getElem? (i := 43) rfl)
theorem l_Box_188 {K : ob_K} (h : K.1 = "OrbitBox" := by rfl) : ob_fl K 188 "OrbitBox$Timetable" "commands" "[LOrbitBox$Row;" := by unfold ob_fl; rw [h]; exact Or.inr (List.mem_of_getElem? (i := 19) rfl)
theorem l_Box_182 {K : ob_K} (h : K.1 = "OrbitBox" := by rfl) : ob_fl K 182 "OrbitBox$Timetable" "times" "[I" := by unfold ob_fl; rw [h]; exact Or.inr (List.mem_of_getElem? (i := 18) rfl)
theorem l_Box_179 {K : ob_K} (h : K.1 = "OrbitBox" := by rfl) : ob_fl K 179 "OrbitBox$Timetable" "size" "I" := by unfold ob_fl; rw [h]; exact Or.inr (List.mem_of_getElem? (i := 21) rfl)
theorem l_Model_23 {K : ob_K} (h : K.1 = "OrbitBoxModel" := by rfl) : ob_fl K 23 "OrbitBoxModel" "gate" "I" := by unfold ob_fl; rw [h]; exact Or.inl w_1108
theorem l_Model_61 {K : ob_K} (h : K.1 = "OrbitBoxModel" := by rfl) : ob_fl K 61 "OrbitBoxModel" "mode" "I" := by unfold ob_fl; rw [h]; exact Or.inl w_1129
theorem l_Model_100 {K : ob_K} (h : K.1 = "OrbitBoxModel" := by rfl) : ob_fl K 100 "OrbitBoxModel" "told" "[Z" := by unfold ob_fl; rw [h]; exact Or.inl w_1149
theorem l_Model_468 {K : ob_K} (h : K.1 = "OrbitBoxModel" := by rfl) : ob_fl K 468 "OrbitBoxModel" "thrownCode" "I" := by unfold ob_fl; rw [h]; exact Or.inl w_1094
theorem l_Model_471 {K : ob_K} (h : K.1 = "OrbitBoxModel" := by rfl) : ob_fl K 471 "OrbitBoxModel" "taped" "I" := by unfold ob_fl; rw [h]; exact Or.inl w_1096
theorem l_Model_7 {K : ob_K} (h : K.1 = "OrbitBoxModel" := by rfl) : ob_fl K 7 "OrbitBoxModel" "tape" "[B" := by unfold ob_fl; rw [h]; exact Or.inl w_1095
theorem l_Model_20 {K : ob_K} (h : K.1 = "OrbitBoxModel" := by rfl) : ob_fl K 20 "OrbitBoxModel" "rest" "[Z" := by unfold ob_fl; rw [h]; exact Or.inl w_1107
theorem l_Model_13 {K : ob_K} (h : K.1 = "OrbitBoxModel" := by rfl) : ob_fl K 13 "OrbitBoxModel" "block" "[Z" := by unfold ob_fl; rw [h]; exact Or.inl w_1100
theorem l_Model_17 {K : ob_K} (h : K.1 = "OrbitBoxModel" := by rfl) : ob_fl K 17 "OrbitBoxModel" "candidate" "[B" := by unfold ob_fl; rw [h]; exact Or.inl w_1102
theorem l_Model_201 {K : ob_K} (h : K.1 = "OrbitBoxModel" := by rfl) : ob_fl K 201 "OrbitBoxModel" "candidateBytes" "I" := by unfold ob_fl; rw [h]; exact Or.inl w_1103
theorem l_Model_238 {K : ob_K} (h : K.1 = "OrbitBoxModel" := by rfl) : ob_fl K 238 "OrbitBoxModel" "next" "I" := by unfold ob_fl; rw [h]; exact Or.inl w_1109
theorem l_Model_248 {K : ob_K} (h : K.1 = "OrbitBoxModel" := by rfl) : ob_fl K 248 "OrbitBoxModel" "waits" "Z" := by unfold ob_fl; rw [h]; exact Or.inl w_1111
theorem l_Model_245 {K : ob_K} (h : K.1 = "OrbitBoxModel" := by rfl) : ob_fl K 245 "OrbitBoxModel" "again" "Z" := by unfold ob_fl; rw [h]; exact Or.inl w_1112
theorem l_Model_235 {K : ob_K} (h : K.1 = "OrbitBoxModel" := by rfl) : ob_fl K 235 "OrbitBoxModel" "beside" "I" := by unfold ob_fl; rw [h]; exact Or.inl w_1110
theorem l_Model_251 {K : ob_K} (h : K.1 = "OrbitBoxModel" := by rfl) : ob_fl K 251 "OrbitBoxModel" "accepted" "I" := by unfold ob_fl; rw [h]; exact Or.inl w_1106
theorem l_Model_229 {K : ob_K} (h : K.1 = "OrbitBoxModel" := by rfl) : ob_fl K 229 "OrbitBoxModel" "queued" "I" := by unfold ob_fl; rw [h]; exact Or.inl w_1115
theorem l_Model_30 {K : ob_K} (h : K.1 = "OrbitBoxModel" := by rfl) : ob_fl K 30 "OrbitBoxModel" "queueBytes" "[I" := by unfold ob_fl; rw [h]; exact Or.inl w_1114
theorem l_Model_27 {K : ob_K} (h : K.1 = "OrbitBoxModel" := by rfl) : ob_fl K 27 "OrbitBoxModel" "queue" "[B" := by unfold ob_fl; rw [h]; exact Or.inl w_1113
theorem l_Model_222 {K : ob_K} (h : K.1 = "OrbitBoxModel" := by rfl) : ob_fl K 222 "OrbitBoxModel" "refused" "I" := by unfold ob_fl; rw [h]; exact Or.inl w_1105
theorem l_Model_194 {K : ob_K} (h : K.1 = "OrbitBoxModel" := by rfl) : ob_fl K 194 "OrbitBoxModel" "latest" "I" := by unfold ob_fl; rw [h]; exact Or.inl w_1099
theorem l_Model_197 {K : ob_K} (h : K.1 = "OrbitBoxModel" := by rfl) : ob_fl K 197 "OrbitBoxModel" "searched" "I" := by unfold ob_fl; rw [h]; exact Or.inl w_1098
theorem l_Model_184 {K : ob_K} (h : K.1 = "OrbitBoxModel" := by rfl) : ob_fl K 184 "OrbitBoxModel" "collects" "Z" := by unfold ob_fl; rw [h]; exact Or.inl w_1097
theorem l_Model_208 {K : ob_K} (h : K.1 = "OrbitBoxModel" := by rfl) : ob_fl K 208 "OrbitBoxModel" "putRight" "I" := by unfold ob_fl; rw [h]; exact Or.inl w_1104
theorem l_Model_188 {K : ob_K} (h : K.1 = "OrbitBoxModel" := by rfl) : ob_fl K 188 "OrbitBoxModel" "blockBits" "I" := by unfold ob_fl; rw [h]; exact Or.inl w_1101
theorem l_Model_55 {K : ob_K} (h : K.1 = "OrbitBoxModel" := by rfl) : ob_fl K 55 "OrbitBoxModel" "sensor" "[I" := by unfold ob_fl; rw [h]; exact Or.inl w_1127
theorem l_Model_64 {K : ob_K} (h : K.1 = "OrbitBoxModel" := by rfl) : ob_fl K 64 "OrbitBoxModel" "entryTime" "[I" := by unfold ob_fl; rw [h]; exact Or.inl w_1131
theorem l_Model_369 {K : ob_K} (h : K.1 = "OrbitBoxModel" := by rfl) : ob_fl K 369 "OrbitBoxModel" "entries" "I" := by unfold ob_fl; rw [h]; exact Or.inl w_1134
theorem l_Model_258 {K : ob_K} (h : K.1 = "OrbitBoxModel" := by rfl) : ob_fl K 258 "OrbitBoxModel" "commandBytes" "I" := by unfold ob_fl; rw [h]; exact Or.inl w_1117
theorem l_Model_34 {K : ob_K} (h : K.1 = "OrbitBoxModel" := by rfl) : ob_fl K 34 "OrbitBoxModel" "command" "[B" := by unfold ob_fl; rw [h]; exact Or.inl w_1116
theorem l_Model_70 {K : ob_K} (h : K.1 = "OrbitBoxModel" := by rfl) : ob_fl K 70 "OrbitBoxModel" "entryCommand" "[B" := by unfold ob_fl; rw [h]; exact Or.inl w_1133
theorem l_Model_67 {K : ob_K} (h : K.1 = "OrbitBoxModel" := by rfl) : ob_fl K 67 "OrbitBoxModel" "entryBytes" "[I" := by unfold ob_fl; rw [h]; exact Or.inl w_1132
theorem l_Model_414 {K : ob_K} (h : K.1 = "OrbitBoxModel" := by rfl) : ob_fl K 414 "OrbitBoxModel" "packetBytes" "I" := by unfold ob_fl; rw [h]; exact Or.inl w_1159
theorem l_Model_121 {K : ob_K} (h : K.1 = "OrbitBoxModel" := by rfl) : ob_fl K 121 "OrbitBoxModel" "packet" "[B" := by unfold ob_fl; rw [h]; exact Or.inl w_1158
theorem l_Model_124 {K : ob_K} (h : K.1 = "OrbitBoxModel" := by rfl) : ob_fl K 124 "OrbitBoxModel" "reportsOf" "[I" := by unfold ob_fl; rw [h]; exact Or.inl w_1162
theorem l_Model_418 {K : ob_K} (h : K.1 = "OrbitBoxModel" := by rfl) : ob_fl K 418 "OrbitBoxModel" "reports" "I" := by unfold ob_fl; rw [h]; exact Or.inl w_1160
theorem l_Model_372 {K : ob_K} (h : K.1 = "OrbitBoxModel" := by rfl) : ob_fl K 372 "OrbitBoxModel" "clock" "I" := by unfold ob_fl; rw [h]; exact Or.inl w_1130
theorem l_Model_149 {K : ob_K} (h : K.1 = "OrbitBoxModel" := by rfl) : ob_fl K 149 "OrbitBoxModel" "wait" "[I" := by unfold ob_fl; rw [h]; exact Or.inl w_1175
theorem l_Model_146 {K : ob_K} (h : K.1 = "OrbitBoxModel" := by rfl) : ob_fl K 146 "OrbitBoxModel" "begins" "[[Z" := by unfold ob_fl; rw [h]; exact Or.inl w_1174
theorem l_Model_141 {K : ob_K} (h : K.1 = "OrbitBoxModel" := by rfl) : ob_fl K 141 "OrbitBoxModel" "row" "[[B" := by unfold ob_fl; rw [h]; exact Or.inl w_1173
theorem l_Model_446 {K : ob_K} (h : K.1 = "OrbitBoxModel" := by rfl) : ob_fl K 446 "OrbitBoxModel" "reached" "I" := by unfold ob_fl; rw [h]; exact Or.inl w_1172
theorem l_Model_443 {K : ob_K} (h : K.1 = "OrbitBoxModel" := by rfl) : ob_fl K 443 "OrbitBoxModel" "kept" "I" := by unfold ob_fl; rw [h]; exact Or.inl w_1167
theorem l_Model_136 {K : ob_K} (h : K.1 = "OrbitBoxModel" := by rfl) : ob_fl K 136 "OrbitBoxModel" "keptTime" "[I" := by unfold ob_fl; rw [h]; exact Or.inl w_1166
theorem l_Model_133 {K : ob_K} (h : K.1 = "OrbitBoxModel" := by rfl) : ob_fl K 133 "OrbitBoxModel" "keptBytes" "[I" := by unfold ob_fl; rw [h]; exact Or.inl w_1165
theorem l_Model_431 {K : ob_K} (h : K.1 = "OrbitBoxModel" := by rfl) : ob_fl K 431 "OrbitBoxModel" "storeBytes" "I" := by unfold ob_fl; rw [h]; exact Or.inl w_1168
theorem l_Model_130 {K : ob_K} (h : K.1 = "OrbitBoxModel" := by rfl) : ob_fl K 130 "OrbitBoxModel" "store" "[B" := by unfold ob_fl; rw [h]; exact Or.inl w_1164
theorem l_Model_174 {K : ob_K} (h : K.1 = "OrbitBoxModel" := by rfl) : ob_fl K 174 "OrbitBoxModel" "storeMost" "I" := by unfold ob_fl; rw [h]; exact Or.inl w_1093
theorem l_Model_127 {K : ob_K} (h : K.1 = "OrbitBoxModel" := by rfl) : ob_fl K 127 "OrbitBoxModel" "stored" "[Z" := by unfold ob_fl; rw [h]; exact Or.inl w_1163
theorem l_Model_425 {K : ob_K} (h : K.1 = "OrbitBoxModel" := by rfl) : ob_fl K 425 "OrbitBoxModel" "reportsLost" "I" := by unfold ob_fl; rw [h]; exact Or.inl w_1161
theorem l_Model_40 {K : ob_K} (h : K.1 = "OrbitBoxModel" := by rfl) : ob_fl K 40 "OrbitBoxModel" "formOn" "[Z" := by unfold ob_fl; rw [h]; exact Or.inl w_1121
theorem l_Model_37 {K : ob_K} (h : K.1 = "OrbitBoxModel" := by rfl) : ob_fl K 37 "OrbitBoxModel" "formThere" "[Z" := by unfold ob_fl; rw [h]; exact Or.inl w_1120
theorem l_Model_345 {K : ob_K} (h : K.1 = "OrbitBoxModel" := by rfl) : ob_fl K 345 "OrbitBoxModel" "forms" "I" := by unfold ob_fl; rw [h]; exact Or.inl w_1125
theorem l_Model_162 {K : ob_K} (h : K.1 = "OrbitBoxModel" := by rfl) : ob_fl K 162 "OrbitBoxModel" "entriesMost" "I" := by unfold ob_fl; rw [h]; exact Or.inl w_1089
theorem l_Model_76 {K : ob_K} (h : K.1 = "OrbitBoxModel" := by rfl) : ob_fl K 76 "OrbitBoxModel" "limitOn" "[Z" := by unfold ob_fl; rw [h]; exact Or.inl w_1137
theorem l_Model_73 {K : ob_K} (h : K.1 = "OrbitBoxModel" := by rfl) : ob_fl K 73 "OrbitBoxModel" "limitThere" "[Z" := by unfold ob_fl; rw [h]; exact Or.inl w_1136
theorem l_Model_389 {K : ob_K} (h : K.1 = "OrbitBoxModel" := by rfl) : ob_fl K 389 "OrbitBoxModel" "limits" "I" := by unfold ob_fl; rw [h]; exact Or.inl w_1145
theorem l_Model_449 {K : ob_K} (h : K.1 = "OrbitBoxModel" := by rfl) : ob_fl K 449 "OrbitBoxModel" "retrieving" "Z" := by unfold ob_fl; rw [h]; exact Or.inl w_1169
theorem l_Model_106 {K : ob_K} (h : K.1 = "OrbitBoxModel" := by rfl) : ob_fl K 106 "OrbitBoxModel" "actionOn" "[Z" := by unfold ob_fl; rw [h]; exact Or.inl w_1151
theorem l_Model_103 {K : ob_K} (h : K.1 = "OrbitBoxModel" := by rfl) : ob_fl K 103 "OrbitBoxModel" "actionThere" "[Z" := by unfold ob_fl; rw [h]; exact Or.inl w_1150
theorem l_Model_279 {K : ob_K} (h : K.1 = "OrbitBoxModel" := by rfl) : ob_fl K 279 "OrbitBoxModel" "handled" "I" := by unfold ob_fl; rw [h]; exact Or.inl w_1118
theorem l_Model_285 {K : ob_K} (h : K.1 = "OrbitBoxModel" := by rfl) : ob_fl K 285 "OrbitBoxModel" "failed" "I" := by unfold ob_fl; rw [h]; exact Or.inl w_1119
theorem l_Model_404 {K : ob_K} (h : K.1 = "OrbitBoxModel" := by rfl) : ob_fl K 404 "OrbitBoxModel" "eventsLost" "I" := by unfold ob_fl; rw [h]; exact Or.inl w_1157
theorem l_Model_392 {K : ob_K} (h : K.1 = "OrbitBoxModel" := by rfl) : ob_fl K 392 "OrbitBoxModel" "broken" "I" := by unfold ob_fl; rw [h]; exact Or.inl w_1146
theorem l_Model_58 {K : ob_K} (h : K.1 = "OrbitBoxModel" := by rfl) : ob_fl K 58 "OrbitBoxModel" "actuator" "[I" := by unfold ob_fl; rw [h]; exact Or.inl w_1128
theorem l_Model_49 {K : ob_K} (h : K.1 = "OrbitBoxModel" := by rfl) : ob_fl K 49 "OrbitBoxModel" "formIs" "[I" := by unfold ob_fl; rw [h]; exact Or.inl w_1124
theorem l_Model_46 {K : ob_K} (h : K.1 = "OrbitBoxModel" := by rfl) : ob_fl K 46 "OrbitBoxModel" "formSize" "[I" := by unfold ob_fl; rw [h]; exact Or.inl w_1123
theorem l_Model_43 {K : ob_K} (h : K.1 = "OrbitBoxModel" := by rfl) : ob_fl K 43 "OrbitBoxModel" "formEvery" "[I" := by unfold ob_fl; rw [h]; exact Or.inl w_1122
theorem l_Model_52 {K : ob_K} (h : K.1 = "OrbitBoxModel" := by rfl) : ob_fl K 52 "OrbitBoxModel" "memory" "[B" := by unfold ob_fl; rw [h]; exact Or.inl w_1126
theorem l_Model_401 {K : ob_K} (h : K.1 = "OrbitBoxModel" := by rfl) : ob_fl K 401 "OrbitBoxModel" "raised" "I" := by unfold ob_fl; rw [h]; exact Or.inl w_1156
theorem l_Model_118 {K : ob_K} (h : K.1 = "OrbitBoxModel" := by rfl) : ob_fl K 118 "OrbitBoxModel" "raisedWith" "[I" := by unfold ob_fl; rw [h]; exact Or.inl w_1155
theorem l_Model_115 {K : ob_K} (h : K.1 = "OrbitBoxModel" := by rfl) : ob_fl K 115 "OrbitBoxModel" "raisedEvent" "[I" := by unfold ob_fl; rw [h]; exact Or.inl w_1154
theorem l_Model_380 {K : ob_K} (h : K.1 = "OrbitBoxModel" := by rfl) : ob_fl K 380 "OrbitBoxModel" "tableOn" "Z" := by unfold ob_fl; rw [h]; exact Or.inl w_1135
theorem l_Model_94 {K : ob_K} (h : K.1 = "OrbitBoxModel" := by rfl) : ob_fl K 94 "OrbitBoxModel" "limitLink" "[I" := by unfold ob_fl; rw [h]; exact Or.inl w_1143
theorem l_Model_91 {K : ob_K} (h : K.1 = "OrbitBoxModel" := by rfl) : ob_fl K 91 "OrbitBoxModel" "limitEvent" "[I" := by unfold ob_fl; rw [h]; exact Or.inl w_1142
theorem l_Model_88 {K : ob_K} (h : K.1 = "OrbitBoxModel" := by rfl) : ob_fl K 88 "OrbitBoxModel" "limitHigh" "[I" := by unfold ob_fl; rw [h]; exact Or.inl w_1141
theorem l_Model_85 {K : ob_K} (h : K.1 = "OrbitBoxModel" := by rfl) : ob_fl K 85 "OrbitBoxModel" "limitLow" "[I" := by unfold ob_fl; rw [h]; exact Or.inl w_1140
theorem l_Model_82 {K : ob_K} (h : K.1 = "OrbitBoxModel" := by rfl) : ob_fl K 82 "OrbitBoxModel" "limitTimes" "[I" := by unfold ob_fl; rw [h]; exact Or.inl w_1139
theorem l_Model_79 {K : ob_K} (h : K.1 = "OrbitBoxModel" := by rfl) : ob_fl K 79 "OrbitBoxModel" "limitOf" "[I" := by unfold ob_fl; rw [h]; exact Or.inl w_1138
theorem l_Model_97 {K : ob_K} (h : K.1 = "OrbitBoxModel" := by rfl) : ob_fl K 97 "OrbitBoxModel" "limitCount" "[I" := by unfold ob_fl; rw [h]; exact Or.inl w_1144
theorem l_Model_455 {K : ob_K} (h : K.1 = "OrbitBoxModel" := by rfl) : ob_fl K 455 "OrbitBoxModel" "to" "I" := by unfold ob_fl; rw [h]; exact Or.inl w_1171
theorem l_Model_452 {K : ob_K} (h : K.1 = "OrbitBoxModel" := by rfl) : ob_fl K 452 "OrbitBoxModel" "from" "I" := by unfold ob_fl; rw [h]; exact Or.inl w_1170
theorem l_Model_109 {K : ob_K} (h : K.1 = "OrbitBoxModel" := by rfl) : ob_fl K 109 "OrbitBoxModel" "actionCommand" "[B" := by unfold ob_fl; rw [h]; exact Or.inl w_1152
theorem l_Model_112 {K : ob_K} (h : K.1 = "OrbitBoxModel" := by rfl) : ob_fl K 112 "OrbitBoxModel" "actionBytes" "[I" := by unfold ob_fl; rw [h]; exact Or.inl w_1153
theorem l_Model_398 {K : ob_K} (h : K.1 = "OrbitBoxModel" := by rfl) : ob_fl K 398 "OrbitBoxModel" "alarm" "I" := by unfold ob_fl; rw [h]; exact Or.inl w_1147
theorem l_Model_171 {K : ob_K} (h : K.1 = "OrbitBoxModel" := by rfl) : ob_fl K 171 "OrbitBoxModel" "patience" "I" := by unfold ob_fl; rw [h]; exact Or.inl w_1092
theorem l_Model_395 {K : ob_K} (h : K.1 = "OrbitBoxModel" := by rfl) : ob_fl K 395 "OrbitBoxModel" "alarmed" "Z" := by unfold ob_fl; rw [h]; exact Or.inl w_1148
theorem l_Model_155 {K : ob_K} (h : K.1 = "OrbitBoxModel" := by rfl) : ob_fl K 155 "OrbitBoxModel" "framesOf" "[I" := by unfold ob_fl; rw [h]; exact Or.inl w_1179
theorem l_Model_461 {K : ob_K} (h : K.1 = "OrbitBoxModel" := by rfl) : ob_fl K 461 "OrbitBoxModel" "framesBefore" "I" := by unfold ob_fl; rw [h]; exact Or.inl w_1178
theorem l_Model_165 {K : ob_K} (h : K.1 = "OrbitBoxModel" := by rfl) : ob_fl K 165 "OrbitBoxModel" "frameLength" "I" := by unfold ob_fl; rw [h]; exact Or.inl w_1090
theorem l_Model_152 {K : ob_K} (h : K.1 = "OrbitBoxModel" := by rfl) : ob_fl K 152 "OrbitBoxModel" "frames" "[B" := by unfold ob_fl; rw [h]; exact Or.inl w_1176
theorem l_Model_168 {K : ob_K} (h : K.1 = "OrbitBoxModel" := by rfl) : ob_fl K 168 "OrbitBoxModel" "framesMost" "I" := by unfold ob_fl; rw [h]; exact Or.inl w_1091
theorem l_Model_487 {K : ob_K} (h : K.1 = "OrbitBoxModel" := by rfl) : ob_fl K 487 "OrbitBoxModel" "framesThere" "I" := by unfold ob_fl; rw [h]; exact Or.inl w_1177
theorem N_0 : ob_nd 0 "OrbitBox" 11 := ⟨ob_T0, ob_y0, rfl, ob_i0, ob_h0, by decide +kernel, w_22, w_1⟩
theorem N_1 : ob_nd 1 "OrbitBox$Row" 2 := ⟨ob_T1, ob_y1, rfl, ob_i1, ob_h1, by decide +kernel, w_30, w_2⟩
theorem N_2 : ob_nd 2 "OrbitBox$Ring" 3 := ⟨ob_T2, ob_y2, rfl, ob_i2, ob_h2, by decide +kernel, w_173, w_8⟩
theorem N_3 : ob_nd 3 "OrbitBox$Receiver" 7 := ⟨ob_T3, ob_y3, rfl, ob_i3, ob_h3, by decide +kernel, w_54, w_3⟩
theorem N_4 : ob_nd 4 "OrbitBox$Gate" 10 := ⟨ob_T4, ob_y4, rfl, ob_i4, ob_h4, by decide +kernel, w_87, w_4⟩
theorem N_5 : ob_nd 5 "OrbitBox$Timetable" 4 := ⟨ob_T5, ob_y5, rfl, ob_i5, ob_h5, by decide +kernel, w_132, w_5⟩
theorem N_6 : ob_nd 6 "OrbitBox$Events" 6 := ⟨ob_T6, ob_y6, rfl, ob_i6, ob_h6, by decide +kernel, w_167, w_7⟩
theorem N_7 : ob_nd 7 "OrbitBox$Table" 4 := ⟨ob_T7, ob_y7, rfl, ob_i7, ob_h7, by decide +kernel, w_224, w_9⟩
theorem N_8 : ob_nd 8 "OrbitBox$Reports" 12 := ⟨ob_T8, ob_y8, rfl, ob_i8, ob_h8, by decide +kernel, w_282, w_11⟩
theorem N_9 : ob_nd 9 "OrbitBox$Downlink" 7 := ⟨ob_T9, ob_y9, rfl, ob_i9, ob_h9, by decide +kernel, w_245, w_10⟩
theorem N_10 : ob_nd 10 "OrbitBox$Craft" 13 := ⟨ob_T10, ob_y10, rfl, ob_i10, ob_h10, by decide +kernel, w_336, w_12⟩
theorem N_11 : ob_nd 11 "OrbitBox$Handler" 9 := ⟨ob_T11, ob_y11, rfl, ob_i11, ob_h11, by decide +kernel, w_393, w_13⟩
theorem N_12 : ob_nd 12 "OrbitBoxModel" 91 := ⟨ob_T12, ob_y12, rfl, ob_i12, ob_h12, by decide +kernel, w_1077, w_14⟩
theorem cw_Row_init : ob_cw k_Row_init := w_33
theorem yd_Row_init : ob_yd k_Row_init 1 := by unfold ob_yd; decide +kernel
theorem cw_Receiver_init : ob_cw k_Receiver_init := w_57
theorem yd_Receiver_init : ob_yd k_Receiver_init 0 := by unfold ob_yd; decide +kernel
theorem cw_Gate_init : ob_cw k_Gate_init := w_90
theorem yd_Gate_init : ob_yd k_Gate_init 0 := by unfold ob_yd; decide +kernel
theorem cw_Box_nearest : ob_cw k_Box_nearest := w_135
theorem yd_Box_nearest : ob_yd k_Box_nearest 3 := by unfold ob_yd; decide +kernel
theorem cw_Timetable_init : ob_cw k_Timetable_init := w_144
theorem yd_Timetable_init : ob_yd k_Timetable_init 1 := by unfold ob_yd; decide +kernel
theorem cw_Ring_init : ob_cw k_Ring_init := w_176
theorem yd_Ring_init : ob_yd k_Ring_init 1 := by unfold ob_yd; decide +kernel
theorem cw_Events_init : ob_cw k_Events_init := w_170
theorem yd_Events_init : ob_yd k_Events_init 0 := by unfold ob_yd; decide +kernel
theorem cw_Table_init : ob_cw k_Table_init := w_227
theorem yd_Table_init : ob_yd k_Table_init 2 := by unfold ob_yd; decide +kernel
theorem cw_Downlink_init : ob_cw k_Downlink_init := w_248
theorem yd_Downlink_init : ob_yd k_Downlink_init 2 := by unfold ob_yd; decide +kernel
theorem cw_Reports_init : ob_cw k_Reports_init := w_285
theorem yd_Reports_init : ob_yd k_Reports_init 2 := by unfold ob_yd; decide +kernel
theorem cw_Craft_init : ob_cw k_Craft_init := w_339
theorem yd_Craft_init : ob_yd k_Craft_init 6 := by unfold ob_yd; decide +kernel
theorem cw_Handler_init : ob_cw k_Handler_init := w_396
theorem yd_Handler_init : ob_yd k_Handler_init 4 := by unfold ob_yd; decide +kernel
theorem cw_Box_init : ob_cw k_Box_init := w_25
theorem yd_Box_init : ob_yd k_Box_init 5 := by unfold ob_yd; decide +kernel
theorem cw_Row_add : ob_cw k_Row_add := w_469
theorem yd_Row_add : ob_yd k_Row_add 2 := by unfold ob_yd; decide +kernel
theorem cw_Box_feed : ob_cw k_Box_feed := w_465
theorem yd_Box_feed : ob_yd k_Box_feed 5 := by unfold ob_yd; decide +kernel
theorem cw_Box_end : ob_cw k_Box_end := w_473
theorem yd_Box_end : ob_yd k_Box_end 1 := by unfold ob_yd; decide +kernel
theorem cw_Row_number : ob_cw k_Row_number := w_481
theorem yd_Row_number : ob_yd k_Row_number 2 := by unfold ob_yd; decide +kernel
theorem cw_Receiver_divide : ob_cw k_Receiver_divide := w_493
theorem yd_Receiver_divide : ob_yd k_Receiver_divide 1 := by unfold ob_yd; decide +kernel
theorem cw_Receiver_turnWrongBit : ob_cw k_Receiver_turnWrongBit := w_501
theorem yd_Receiver_turnWrongBit : ob_yd k_Receiver_turnWrongBit 0 := by unfold ob_yd; decide +kernel
theorem cw_Receiver_beginBlock : ob_cw k_Receiver_beginBlock := w_506
theorem yd_Receiver_beginBlock : ob_yd k_Receiver_beginBlock 0 := by unfold ob_yd; decide +kernel
theorem cw_Receiver_endBlock : ob_cw k_Receiver_endBlock := w_497
theorem yd_Receiver_endBlock : ob_yd k_Receiver_endBlock 0 := by unfold ob_yd; decide +kernel
theorem cw_Receiver_collect : ob_cw k_Receiver_collect := w_489
theorem yd_Receiver_collect : ob_yd k_Receiver_collect 1 := by unfold ob_yd; decide +kernel
theorem cw_Integer_bitCount : ob_cw k_Integer_bitCount := w_512
theorem yd_Integer_bitCount : ob_yd k_Integer_bitCount 1 := by unfold ob_yd; decide +kernel
theorem cw_Receiver_hear : ob_cw k_Receiver_hear := w_485
theorem yd_Receiver_hear : ob_yd k_Receiver_hear 1 := by unfold ob_yd; decide +kernel
theorem cw_Row_check : ob_cw k_Row_check := w_527
theorem yd_Row_check : ob_yd k_Row_check 2 := by unfold ob_yd; decide +kernel
theorem cw_Gate_bodyLength : ob_cw k_Gate_bodyLength := w_534
theorem yd_Gate_bodyLength : ob_yd k_Gate_bodyLength 1 := by unfold ob_yd; decide +kernel
theorem cw_Gate_isDirective : ob_cw k_Gate_isDirective := w_531
theorem yd_Gate_isDirective : ob_yd k_Gate_isDirective 1 := by unfold ob_yd; decide +kernel
theorem cw_Gate_isValid : ob_cw k_Gate_isValid := w_522
theorem yd_Gate_isValid : ob_yd k_Gate_isValid 1 := by unfold ob_yd; decide +kernel
theorem cw_Row_addPart : ob_cw k_Row_addPart := w_551
theorem yd_Row_addPart : ob_yd k_Row_addPart 3 := by unfold ob_yd; decide +kernel
theorem cw_Row_become : ob_cw k_Row_become := w_547
theorem yd_Row_become : ob_yd k_Row_become 3 := by unfold ob_yd; decide +kernel
theorem cw_Gate_enqueue : ob_cw k_Gate_enqueue := w_543
theorem yd_Gate_enqueue : ob_yd k_Gate_enqueue 1 := by unfold ob_yd; decide +kernel
theorem cw_Gate_receiveInTurn : ob_cw k_Gate_receiveInTurn := w_539
theorem yd_Gate_receiveInTurn : ob_yd k_Gate_receiveInTurn 1 := by unfold ob_yd; decide +kernel
theorem cw_Gate_receiveBeside : ob_cw k_Gate_receiveBeside := w_555
theorem yd_Gate_receiveBeside : ob_yd k_Gate_receiveBeside 1 := by unfold ob_yd; decide +kernel
theorem cw_Gate_obey : ob_cw k_Gate_obey := w_559
theorem yd_Gate_obey : ob_yd k_Gate_obey 1 := by unfold ob_yd; decide +kernel
theorem cw_Gate_receive : ob_cw k_Gate_receive := w_519
theorem yd_Gate_receive : ob_yd k_Gate_receive 1 := by unfold ob_yd; decide +kernel
theorem cw_Box_uplink : ob_cw k_Box_uplink := w_477
theorem yd_Box_uplink : ob_yd k_Box_uplink 0 := by unfold ob_yd; decide +kernel
theorem cw_Box_sense : ob_cw k_Box_sense := w_563
theorem yd_Box_sense : ob_yd k_Box_sense 2 := by unfold ob_yd; decide +kernel
theorem cw_Timetable_isDue : ob_cw k_Timetable_isDue := w_575
theorem yd_Timetable_isDue : ob_yd k_Timetable_isDue 1 := by unfold ob_yd; decide +kernel
theorem cw_Timetable_remove : ob_cw k_Timetable_remove := w_584
theorem yd_Timetable_remove : ob_yd k_Timetable_remove 1 := by unfold ob_yd; decide +kernel
theorem cw_Timetable_takeFirst : ob_cw k_Timetable_takeFirst := w_579
theorem yd_Timetable_takeFirst : ob_yd k_Timetable_takeFirst 1 := by unfold ob_yd; decide +kernel
theorem cw_Handler_isRightLength : ob_cw k_Handler_isRightLength := w_601
theorem yd_Handler_isRightLength : ob_yd k_Handler_isRightLength 3 := by unfold ob_yd; decide +kernel
theorem cw_Handler_kindFaultOf : ob_cw k_Handler_kindFaultOf := w_596
theorem yd_Handler_kindFaultOf : ob_yd k_Handler_kindFaultOf 3 := by unfold ob_yd; decide +kernel
theorem cw_Handler_faultOf : ob_cw k_Handler_faultOf := w_591
theorem yd_Handler_faultOf : ob_yd k_Handler_faultOf 3 := by unfold ob_yd; decide +kernel
theorem cw_Reports_begin : ob_cw k_Reports_begin := w_609
theorem yd_Reports_begin : ob_yd k_Reports_begin 3 := by unfold ob_yd; decide +kernel
theorem cw_Row_replace : ob_cw k_Row_replace := w_620
theorem yd_Row_replace : ob_yd k_Row_replace 3 := by unfold ob_yd; decide +kernel
theorem cw_Ring_hasRoom : ob_cw k_Ring_hasRoom := w_629
theorem yd_Ring_hasRoom : ob_yd k_Ring_hasRoom 1 := by unfold ob_yd; decide +kernel
theorem cw_Ring_put : ob_cw k_Ring_put := w_633
theorem yd_Ring_put : ob_yd k_Ring_put 1 := by unfold ob_yd; decide +kernel
theorem cw_Ring_putPacket : ob_cw k_Ring_putPacket := w_625
theorem yd_Ring_putPacket : ob_yd k_Ring_putPacket 1 := by unfold ob_yd; decide +kernel
theorem cw_Reports_isService : ob_cw k_Reports_isService := w_637
theorem yd_Reports_isService : ob_yd k_Reports_isService 1 := by unfold ob_yd; decide +kernel
theorem cw_Ring_number : ob_cw k_Ring_number := w_646
theorem yd_Ring_number : ob_yd k_Ring_number 2 := by unfold ob_yd; decide +kernel
theorem cw_Ring_drop : ob_cw k_Ring_drop := w_650
theorem yd_Ring_drop : ob_yd k_Ring_drop 1 := by unfold ob_yd; decide +kernel
theorem cw_Reports_dropOldest : ob_cw k_Reports_dropOldest := w_642
theorem yd_Reports_dropOldest : ob_yd k_Reports_dropOldest 0 := by unfold ob_yd; decide +kernel
theorem cw_Reports_send : ob_cw k_Reports_send := w_616
theorem yd_Reports_send : ob_yd k_Reports_send 0 := by unfold ob_yd; decide +kernel
theorem cw_Handler_refuse : ob_cw k_Handler_refuse := w_605
theorem yd_Handler_refuse : ob_yd k_Handler_refuse 2 := by unfold ob_yd; decide +kernel
theorem cw_Handler_answer : ob_cw k_Handler_answer := w_654
theorem yd_Handler_answer : ob_yd k_Handler_answer 1 := by unfold ob_yd; decide +kernel
theorem cw_Handler_data : ob_cw k_Handler_data := w_666
theorem yd_Handler_data : ob_yd k_Handler_data 2 := by unfold ob_yd; decide +kernel
theorem cw_Table_find : ob_cw k_Table_find := w_674
theorem yd_Table_find : ob_yd k_Table_find 1 := by unfold ob_yd; decide +kernel
theorem cw_Table_isFull : ob_cw k_Table_isFull := w_678
theorem yd_Table_isFull : ob_yd k_Table_isFull 0 := by unfold ob_yd; decide +kernel
theorem cw_Handler_placeInTable : ob_cw k_Handler_placeInTable := w_670
theorem yd_Handler_placeInTable : ob_yd k_Handler_placeInTable 3 := by unfold ob_yd; decide +kernel
theorem cw_Handler_newFormFailure : ob_cw k_Handler_newFormFailure := w_662
theorem yd_Handler_newFormFailure : ob_yd k_Handler_newFormFailure 0 := by unfold ob_yd; decide +kernel
theorem cw_Table_get : ob_cw k_Table_get := w_686
theorem yd_Table_get : ob_yd k_Table_get 2 := by unfold ob_yd; decide +kernel
theorem cw_Handler_lineFailure : ob_cw k_Handler_lineFailure := w_682
theorem yd_Handler_lineFailure : ob_yd k_Handler_lineFailure 3 := by unfold ob_yd; decide +kernel
theorem cw_Events_isThere : ob_cw k_Events_isThere := w_689
theorem yd_Events_isThere : ob_yd k_Events_isThere 1 := by unfold ob_yd; decide +kernel
theorem cw_Handler_placeFailure : ob_cw k_Handler_placeFailure := w_693
theorem yd_Handler_placeFailure : ob_yd k_Handler_placeFailure 1 := by unfold ob_yd; decide +kernel
theorem cw_Handler_functionFailure : ob_cw k_Handler_functionFailure := w_697
theorem yd_Handler_functionFailure : ob_yd k_Handler_functionFailure 2 := by unfold ob_yd; decide +kernel
theorem cw_Handler_dataLength : ob_cw k_Handler_dataLength := w_705
theorem yd_Handler_dataLength : ob_yd k_Handler_dataLength 0 := by unfold ob_yd; decide +kernel
theorem cw_Timetable_isFull : ob_cw k_Timetable_isFull := w_709
theorem yd_Timetable_isFull : ob_yd k_Timetable_isFull 0 := by unfold ob_yd; decide +kernel
theorem cw_Handler_newEntryFailure : ob_cw k_Handler_newEntryFailure := w_701
theorem yd_Handler_newEntryFailure : ob_yd k_Handler_newEntryFailure 0 := by unfold ob_yd; decide +kernel
theorem cw_Timetable_numberOf : ob_cw k_Timetable_numberOf := w_717
theorem yd_Timetable_numberOf : ob_yd k_Timetable_numberOf 1 := by unfold ob_yd; decide +kernel
theorem cw_Timetable_has : ob_cw k_Timetable_has := w_713
theorem yd_Timetable_has : ob_yd k_Timetable_has 1 := by unfold ob_yd; decide +kernel
theorem cw_Timetable_canShift : ob_cw k_Timetable_canShift := w_722
theorem yd_Timetable_canShift : ob_yd k_Timetable_canShift 2 := by unfold ob_yd; decide +kernel
theorem cw_Handler_newLimitFailure : ob_cw k_Handler_newLimitFailure := w_726
theorem yd_Handler_newLimitFailure : ob_yd k_Handler_newLimitFailure 0 := by unfold ob_yd; decide +kernel
theorem cw_Handler_newActionFailure : ob_cw k_Handler_newActionFailure := w_731
theorem yd_Handler_newActionFailure : ob_yd k_Handler_newActionFailure 1 := by unfold ob_yd; decide +kernel
theorem cw_Handler_actionFailure : ob_cw k_Handler_actionFailure := w_735
theorem yd_Handler_actionFailure : ob_yd k_Handler_actionFailure 2 := by unfold ob_yd; decide +kernel
theorem cw_Handler_failureOf : ob_cw k_Handler_failureOf := w_658
theorem yd_Handler_failureOf : ob_yd k_Handler_failureOf 1 := by unfold ob_yd; decide +kernel
theorem cw_Table_add : ob_cw k_Table_add := w_747
theorem yd_Table_add : ob_yd k_Table_add 1 := by unfold ob_yd; decide +kernel
theorem cw_Table_set : ob_cw k_Table_set := w_752
theorem yd_Table_set : ob_yd k_Table_set 3 := by unfold ob_yd; decide +kernel
theorem cw_Handler_addForm : ob_cw k_Handler_addForm := w_743
theorem yd_Handler_addForm : ob_yd k_Handler_addForm 0 := by unfold ob_yd; decide +kernel
theorem cw_Table_remove : ob_cw k_Table_remove := w_757
theorem yd_Table_remove : ob_yd k_Table_remove 1 := by unfold ob_yd; decide +kernel
theorem cw_Craft_read : ob_cw k_Craft_read := w_765
theorem yd_Craft_read : ob_yd k_Craft_read 1 := by unfold ob_yd; decide +kernel
theorem cw_Handler_sendForm : ob_cw k_Handler_sendForm := w_761
theorem yd_Handler_sendForm : ob_yd k_Handler_sendForm 1 := by unfold ob_yd; decide +kernel
theorem cw_Handler_setSilent : ob_cw k_Handler_setSilent := w_769
theorem yd_Handler_setSilent : ob_yd k_Handler_setSilent 2 := by unfold ob_yd; decide +kernel
theorem cw_Handler_load : ob_cw k_Handler_load := w_773
theorem yd_Handler_load : ob_yd k_Handler_load 0 := by unfold ob_yd; decide +kernel
theorem cw_Handler_dump : ob_cw k_Handler_dump := w_778
theorem yd_Handler_dump : ob_yd k_Handler_dump 0 := by unfold ob_yd; decide +kernel
theorem cw_Handler_sendMemoryCheck : ob_cw k_Handler_sendMemoryCheck := w_783
theorem yd_Handler_sendMemoryCheck : ob_yd k_Handler_sendMemoryCheck 0 := by unfold ob_yd; decide +kernel
theorem cw_Craft_actuate : ob_cw k_Craft_actuate := w_791
theorem yd_Craft_actuate : ob_yd k_Craft_actuate 2 := by unfold ob_yd; decide +kernel
theorem cw_Events_raise : ob_cw k_Events_raise := w_799
theorem yd_Events_raise : ob_yd k_Events_raise 2 := by unfold ob_yd; decide +kernel
theorem cw_Craft_changeMode : ob_cw k_Craft_changeMode := w_795
theorem yd_Craft_changeMode : ob_yd k_Craft_changeMode 1 := by unfold ob_yd; decide +kernel
theorem cw_Handler_performFunction : ob_cw k_Handler_performFunction := w_787
theorem yd_Handler_performFunction : ob_yd k_Handler_performFunction 3 := by unfold ob_yd; decide +kernel
theorem cw_Timetable_add : ob_cw k_Timetable_add := w_808
theorem yd_Timetable_add : ob_yd k_Timetable_add 4 := by unfold ob_yd; decide +kernel
theorem cw_Timetable_removeAll : ob_cw k_Timetable_removeAll := w_813
theorem yd_Timetable_removeAll : ob_yd k_Timetable_removeAll 1 := by unfold ob_yd; decide +kernel
theorem cw_Timetable_shift : ob_cw k_Timetable_shift := w_817
theorem yd_Timetable_shift : ob_yd k_Timetable_shift 1 := by unfold ob_yd; decide +kernel
theorem cw_Timetable_tell : ob_cw k_Timetable_tell := w_825
theorem yd_Timetable_tell : ob_yd k_Timetable_tell 1 := by unfold ob_yd; decide +kernel
theorem cw_Handler_tellEntries : ob_cw k_Handler_tellEntries := w_821
theorem yd_Handler_tellEntries : ob_yd k_Handler_tellEntries 0 := by unfold ob_yd; decide +kernel
theorem cw_Handler_switchLimit : ob_cw k_Handler_switchLimit := w_831
theorem yd_Handler_switchLimit : ob_yd k_Handler_switchLimit 2 := by unfold ob_yd; decide +kernel
theorem cw_Handler_addLimit : ob_cw k_Handler_addLimit := w_835
theorem yd_Handler_addLimit : ob_yd k_Handler_addLimit 0 := by unfold ob_yd; decide +kernel
theorem cw_Handler_setStored : ob_cw k_Handler_setStored := w_839
theorem yd_Handler_setStored : ob_yd k_Handler_setStored 2 := by unfold ob_yd; decide +kernel
theorem cw_Reports_beginRetrieval : ob_cw k_Reports_beginRetrieval := w_843
theorem yd_Reports_beginRetrieval : ob_yd k_Reports_beginRetrieval 2 := by unfold ob_yd; decide +kernel
theorem cw_Reports_dropUpTo : ob_cw k_Reports_dropUpTo := w_847
theorem yd_Reports_dropUpTo : ob_yd k_Reports_dropUpTo 1 := by unfold ob_yd; decide +kernel
theorem cw_Handler_addAction : ob_cw k_Handler_addAction := w_851
theorem yd_Handler_addAction : ob_yd k_Handler_addAction 1 := by unfold ob_yd; decide +kernel
theorem cw_Handler_dropAction : ob_cw k_Handler_dropAction := w_856
theorem yd_Handler_dropAction : ob_yd k_Handler_dropAction 1 := by unfold ob_yd; decide +kernel
theorem cw_Handler_switchAction : ob_cw k_Handler_switchAction := w_860
theorem yd_Handler_switchAction : ob_yd k_Handler_switchAction 2 := by unfold ob_yd; decide +kernel
theorem cw_Handler_perform : ob_cw k_Handler_perform := w_739
theorem yd_Handler_perform : ob_yd k_Handler_perform 1 := by unfold ob_yd; decide +kernel
theorem cw_Handler_handle : ob_cw k_Handler_handle := w_588
theorem yd_Handler_handle : ob_yd k_Handler_handle 0 := by unfold ob_yd; decide +kernel
theorem cw_Handler_handleDueEntries : ob_cw k_Handler_handleDueEntries := w_571
theorem yd_Handler_handleDueEntries : ob_yd k_Handler_handleDueEntries 0 := by unfold ob_yd; decide +kernel
theorem cw_Gate_takeOut : ob_cw k_Gate_takeOut := w_868
theorem yd_Gate_takeOut : ob_yd k_Gate_takeOut 1 := by unfold ob_yd; decide +kernel
theorem cw_Gate_stopWaiting : ob_cw k_Gate_stopWaiting := w_872
theorem yd_Gate_stopWaiting : ob_yd k_Gate_stopWaiting 0 := by unfold ob_yd; decide +kernel
theorem cw_Handler_handleQueue : ob_cw k_Handler_handleQueue := w_864
theorem yd_Handler_handleQueue : ob_yd k_Handler_handleQueue 0 := by unfold ob_yd; decide +kernel
theorem cw_Craft_watchOne : ob_cw k_Craft_watchOne := w_881
theorem yd_Craft_watchOne : ob_yd k_Craft_watchOne 2 := by unfold ob_yd; decide +kernel
theorem cw_Craft_watch : ob_cw k_Craft_watch := w_876
theorem yd_Craft_watch : ob_yd k_Craft_watch 1 := by unfold ob_yd; decide +kernel
theorem cw_Ring_get : ob_cw k_Ring_get := w_895
theorem yd_Ring_get : ob_yd k_Ring_get 1 := by unfold ob_yd; decide +kernel
theorem cw_Ring_take : ob_cw k_Ring_take := w_891
theorem yd_Ring_take : ob_yd k_Ring_take 0 := by unfold ob_yd; decide +kernel
theorem cw_Events_isTold : ob_cw k_Events_isTold := w_900
theorem yd_Events_isTold : ob_yd k_Events_isTold 1 := by unfold ob_yd; decide +kernel
theorem cw_Handler_sendEvent : ob_cw k_Handler_sendEvent := w_905
theorem yd_Handler_sendEvent : ob_yd k_Handler_sendEvent 2 := by unfold ob_yd; decide +kernel
theorem cw_Events_takeAction : ob_cw k_Events_takeAction := w_909
theorem yd_Events_takeAction : ob_yd k_Events_takeAction 2 := by unfold ob_yd; decide +kernel
theorem cw_Events_raisedCount : ob_cw k_Events_raisedCount := w_918
theorem yd_Events_raisedCount : ob_yd k_Events_raisedCount 0 := by unfold ob_yd; decide +kernel
theorem cw_Events_loseRest : ob_cw k_Events_loseRest := w_914
theorem yd_Events_loseRest : ob_yd k_Events_loseRest 0 := by unfold ob_yd; decide +kernel
theorem cw_Handler_workEvents : ob_cw k_Handler_workEvents := w_887
theorem yd_Handler_workEvents : ob_yd k_Handler_workEvents 0 := by unfold ob_yd; decide +kernel
theorem cw_Craft_heedAlarm : ob_cw k_Craft_heedAlarm := w_923
theorem yd_Craft_heedAlarm : ob_yd k_Craft_heedAlarm 0 := by unfold ob_yd; decide +kernel
theorem cw_Handler_sendDueForms : ob_cw k_Handler_sendDueForms := w_928
theorem yd_Handler_sendDueForms : ob_yd k_Handler_sendDueForms 0 := by unfold ob_yd; decide +kernel
theorem cw_Reports_copyStored : ob_cw k_Reports_copyStored := w_936
theorem yd_Reports_copyStored : ob_yd k_Reports_copyStored 2 := by unfold ob_yd; decide +kernel
theorem cw_Reports_retrieve : ob_cw k_Reports_retrieve := w_932
theorem yd_Reports_retrieve : ob_yd k_Reports_retrieve 1 := by unfold ob_yd; decide +kernel
theorem cw_Gate_asWord : ob_cw k_Gate_asWord := w_942
theorem yd_Gate_asWord : ob_yd k_Gate_asWord 0 := by unfold ob_yd; decide +kernel
theorem cw_Downlink_fillIdle : ob_cw k_Downlink_fillIdle := w_956
theorem yd_Downlink_fillIdle : ob_yd k_Downlink_fillIdle 1 := by unfold ob_yd; decide +kernel
theorem cw_Downlink_putEmptyPacket : ob_cw k_Downlink_putEmptyPacket := w_964
theorem yd_Downlink_putEmptyPacket : ob_yd k_Downlink_putEmptyPacket 2 := by unfold ob_yd; decide +kernel
theorem cw_Downlink_fill : ob_cw k_Downlink_fill := w_960
theorem yd_Downlink_fill : ob_yd k_Downlink_fill 2 := by unfold ob_yd; decide +kernel
theorem cw_Downlink_writeFrame : ob_cw k_Downlink_writeFrame := w_951
theorem yd_Downlink_writeFrame : ob_yd k_Downlink_writeFrame 3 := by unfold ob_yd; decide +kernel
theorem cw_Downlink_sendFrames : ob_cw k_Downlink_sendFrames := w_947
theorem yd_Downlink_sendFrames : ob_yd k_Downlink_sendFrames 1 := by unfold ob_yd; decide +kernel
theorem cw_Box_tick : ob_cw k_Box_tick := w_567
theorem yd_Box_tick : ob_yd k_Box_tick 0 := by unfold ob_yd; decide +kernel
theorem cw_Box_word : ob_cw k_Box_word := w_972
theorem yd_Box_word : ob_yd k_Box_word 0 := by unfold ob_yd; decide +kernel
theorem cw_Box_memory : ob_cw k_Box_memory := w_976
theorem yd_Box_memory : ob_yd k_Box_memory 1 := by unfold ob_yd; decide +kernel
theorem cw_Box_limit : ob_cw k_Box_limit := w_980
theorem yd_Box_limit : ob_yd k_Box_limit 2 := by unfold ob_yd; decide +kernel
theorem cw_Box_state : ob_cw k_Box_state := w_986
theorem yd_Box_state : ob_yd k_Box_state 1 := by unfold ob_yd; decide +kernel
theorem cw_Law_cell : ob_cw k_Law_cell := w_990
theorem yd_Law_cell : ob_yd k_Law_cell 2 := by unfold ob_yd; decide +kernel
theorem cw_Box_down : ob_cw k_Box_down := w_998
theorem yd_Box_down : ob_yd k_Box_down 2 := by unfold ob_yd; decide +kernel
theorem yd_Law_down : ob_yd k_Law_down 4 := by unfold ob_yd; decide +kernel
theorem cw_Box_value : ob_cw k_Box_value := w_1066
theorem yd_Box_value : ob_yd k_Box_value 1 := by unfold ob_yd; decide +kernel
theorem yd_Law_value : ob_yd k_Law_value 3 := by unfold ob_yd; decide +kernel
theorem cw_Box_entry : ob_cw k_Box_entry := w_1074
theorem yd_Box_entry : ob_yd k_Box_entry 2 := by unfold ob_yd; decide +kernel
theorem yd_Law_entry : ob_yd k_Law_entry 4 := by unfold ob_yd; decide +kernel
theorem cw_Model_within : ob_cw k_Model_within := w_1088
theorem yd_Model_within : ob_yd k_Model_within 3 := by unfold ob_yd; decide +kernel
theorem cw_Model_init : ob_cw k_Model_init := w_1080
theorem yd_Model_init : ob_yd k_Model_init 5 := by unfold ob_yd; decide +kernel
theorem cw_Model_thrown : ob_cw k_Model_thrown := w_1367
theorem yd_Model_thrown : ob_yd k_Model_thrown 0 := by unfold ob_yd; decide +kernel
theorem cw_Model_feed : ob_cw k_Model_feed := w_1371
theorem yd_Model_feed : ob_yd k_Model_feed 5 := by unfold ob_yd; decide +kernel
theorem cw_Model_end : ob_cw k_Model_end := w_1375
theorem yd_Model_end : ob_yd k_Model_end 1 := by unfold ob_yd; decide +kernel
theorem cw_Model_divides : ob_cw k_Model_divides := w_1391
theorem yd_Model_divides : ob_yd k_Model_divides 1 := by unfold ob_yd; decide +kernel
theorem cw_Model_two : ob_cw k_Model_two := w_1402
theorem yd_Model_two : ob_yd k_Model_two 2 := by unfold ob_yd; decide +kernel
theorem cw_Model_check : ob_cw k_Model_check := w_1405
theorem yd_Model_check : ob_yd k_Model_check 3 := by unfold ob_yd; decide +kernel
theorem cw_Model_valid : ob_cw k_Model_valid := w_1399
theorem yd_Model_valid : ob_yd k_Model_valid 0 := by unfold ob_yd; decide +kernel
theorem cw_Model_controlCame : ob_cw k_Model_controlCame := w_1412
theorem yd_Model_controlCame : ob_yd k_Model_controlCame 1 := by unfold ob_yd; decide +kernel
theorem cw_Model_queueBody : ob_cw k_Model_queueBody := w_1416
theorem yd_Model_queueBody : ob_yd k_Model_queueBody 1 := by unfold ob_yd; decide +kernel
theorem cw_Model_numberedCame : ob_cw k_Model_numberedCame := w_1420
theorem yd_Model_numberedCame : ob_yd k_Model_numberedCame 2 := by unfold ob_yd; decide +kernel
theorem cw_Model_frameCame : ob_cw k_Model_frameCame := w_1395
theorem yd_Model_frameCame : ob_yd k_Model_frameCame 0 := by unfold ob_yd; decide +kernel
theorem cw_Model_blockCame : ob_cw k_Model_blockCame := w_1387
theorem yd_Model_blockCame : ob_yd k_Model_blockCame 0 := by unfold ob_yd; decide +kernel
theorem cw_Model_bit : ob_cw k_Model_bit := w_1383
theorem yd_Model_bit : ob_yd k_Model_bit 1 := by unfold ob_yd; decide +kernel
theorem cw_Model_uplink : ob_cw k_Model_uplink := w_1379
theorem yd_Model_uplink : ob_yd k_Model_uplink 0 := by unfold ob_yd; decide +kernel
theorem cw_Model_sense : ob_cw k_Model_sense := w_1425
theorem yd_Model_sense : ob_yd k_Model_sense 2 := by unfold ob_yd; decide +kernel
theorem cw_Model_due : ob_cw k_Model_due := w_1433
theorem yd_Model_due : ob_yd k_Model_due 1 := by unfold ob_yd; decide +kernel
theorem cw_Model_take : ob_cw k_Model_take := w_1437
theorem yd_Model_take : ob_yd k_Model_take 3 := by unfold ob_yd; decide +kernel
theorem cw_Model_dropEntry : ob_cw k_Model_dropEntry := w_1441
theorem yd_Model_dropEntry : ob_yd k_Model_dropEntry 1 := by unfold ob_yd; decide +kernel
theorem cw_Model_lengthFault : ob_cw k_Model_lengthFault := w_1451
theorem yd_Model_lengthFault : ob_yd k_Model_lengthFault 4 := by unfold ob_yd; decide +kernel
theorem cw_Model_faultOf : ob_cw k_Model_faultOf := w_1448
theorem yd_Model_faultOf : ob_yd k_Model_faultOf 3 := by unfold ob_yd; decide +kernel
theorem cw_Model_say : ob_cw k_Model_say := w_1467
theorem yd_Model_say : ob_yd k_Model_say 1 := by unfold ob_yd; decide +kernel
theorem cw_Model_sayTwo : ob_cw k_Model_sayTwo := w_1463
theorem yd_Model_sayTwo : ob_yd k_Model_sayTwo 1 := by unfold ob_yd; decide +kernel
theorem cw_Model_sayFour : ob_cw k_Model_sayFour := w_1472
theorem yd_Model_sayFour : ob_yd k_Model_sayFour 1 := by unfold ob_yd; decide +kernel
theorem cw_Model_report : ob_cw k_Model_report := w_1459
theorem yd_Model_report : ob_yd k_Model_report 2 := by unfold ob_yd; decide +kernel
theorem cw_Model_firstFour : ob_cw k_Model_firstFour := w_1476
theorem yd_Model_firstFour : ob_yd k_Model_firstFour 0 := by unfold ob_yd; decide +kernel
theorem cw_Model_joins : ob_cw k_Model_joins := w_1484
theorem yd_Model_joins : ob_yd k_Model_joins 4 := by unfold ob_yd; decide +kernel
theorem cw_Model_dropOldest : ob_cw k_Model_dropOldest := w_1495
theorem yd_Model_dropOldest : ob_yd k_Model_dropOldest 0 := by unfold ob_yd; decide +kernel
theorem cw_Model_keep : ob_cw k_Model_keep := w_1491
theorem yd_Model_keep : ob_yd k_Model_keep 0 := by unfold ob_yd; decide +kernel
theorem cw_Model_made : ob_cw k_Model_made := w_1480
theorem yd_Model_made : ob_yd k_Model_made 0 := by unfold ob_yd; decide +kernel
theorem cw_Model_verified : ob_cw k_Model_verified := w_1455
theorem yd_Model_verified : ob_yd k_Model_verified 2 := by unfold ob_yd; decide +kernel
theorem cw_Model_data : ob_cw k_Model_data := w_1507
theorem yd_Model_data : ob_yd k_Model_data 1 := by unfold ob_yd; decide +kernel
theorem cw_Model_formFailure : ob_cw k_Model_formFailure := w_1503
theorem yd_Model_formFailure : ob_yd k_Model_formFailure 1 := by unfold ob_yd; decide +kernel
theorem cw_Model_dataTwo : ob_cw k_Model_dataTwo := w_1515
theorem yd_Model_dataTwo : ob_yd k_Model_dataTwo 1 := by unfold ob_yd; decide +kernel
theorem cw_Model_memoryFailure : ob_cw k_Model_memoryFailure := w_1511
theorem yd_Model_memoryFailure : ob_yd k_Model_memoryFailure 1 := by unfold ob_yd; decide +kernel
theorem cw_Model_functionFailure : ob_cw k_Model_functionFailure := w_1519
theorem yd_Model_functionFailure : ob_yd k_Model_functionFailure 0 := by unfold ob_yd; decide +kernel
theorem cw_Model_four : ob_cw k_Model_four := w_1530
theorem yd_Model_four : ob_yd k_Model_four 2 := by unfold ob_yd; decide +kernel
theorem cw_Model_dataFour : ob_cw k_Model_dataFour := w_1527
theorem yd_Model_dataFour : ob_yd k_Model_dataFour 1 := by unfold ob_yd; decide +kernel
theorem cw_Model_entryNumber : ob_cw k_Model_entryNumber := w_1534
theorem yd_Model_entryNumber : ob_yd k_Model_entryNumber 1 := by unfold ob_yd; decide +kernel
theorem cw_Model_tableFailure : ob_cw k_Model_tableFailure := w_1523
theorem yd_Model_tableFailure : ob_yd k_Model_tableFailure 1 := by unfold ob_yd; decide +kernel
theorem cw_Model_limitFailure : ob_cw k_Model_limitFailure := w_1539
theorem yd_Model_limitFailure : ob_yd k_Model_limitFailure 1 := by unfold ob_yd; decide +kernel
theorem cw_Model_storeFailure : ob_cw k_Model_storeFailure := w_1543
theorem yd_Model_storeFailure : ob_yd k_Model_storeFailure 1 := by unfold ob_yd; decide +kernel
theorem cw_Model_actionFailure : ob_cw k_Model_actionFailure := w_1547
theorem yd_Model_actionFailure : ob_yd k_Model_actionFailure 1 := by unfold ob_yd; decide +kernel
theorem cw_Model_failure : ob_cw k_Model_failure := w_1499
theorem yd_Model_failure : ob_yd k_Model_failure 2 := by unfold ob_yd; decide +kernel
theorem cw_Model_parameter : ob_cw k_Model_parameter := w_1563
theorem yd_Model_parameter : ob_yd k_Model_parameter 1 := by unfold ob_yd; decide +kernel
theorem cw_Model_formReport : ob_cw k_Model_formReport := w_1559
theorem yd_Model_formReport : ob_yd k_Model_formReport 1 := by unfold ob_yd; decide +kernel
theorem cw_Model_actForm : ob_cw k_Model_actForm := w_1555
theorem yd_Model_actForm : ob_yd k_Model_actForm 1 := by unfold ob_yd; decide +kernel
theorem cw_Model_actMemory : ob_cw k_Model_actMemory := w_1567
theorem yd_Model_actMemory : ob_yd k_Model_actMemory 1 := by unfold ob_yd; decide +kernel
theorem cw_Model_raise : ob_cw k_Model_raise := w_1579
theorem yd_Model_raise : ob_yd k_Model_raise 2 := by unfold ob_yd; decide +kernel
theorem cw_Model_becomes : ob_cw k_Model_becomes := w_1575
theorem yd_Model_becomes : ob_yd k_Model_becomes 1 := by unfold ob_yd; decide +kernel
theorem cw_Model_actFunction : ob_cw k_Model_actFunction := w_1571
theorem yd_Model_actFunction : ob_yd k_Model_actFunction 0 := by unfold ob_yd; decide +kernel
theorem cw_Model_actTable : ob_cw k_Model_actTable := w_1583
theorem yd_Model_actTable : ob_yd k_Model_actTable 1 := by unfold ob_yd; decide +kernel
theorem cw_Model_actLimit : ob_cw k_Model_actLimit := w_1587
theorem yd_Model_actLimit : ob_yd k_Model_actLimit 1 := by unfold ob_yd; decide +kernel
theorem cw_Model_actStore : ob_cw k_Model_actStore := w_1591
theorem yd_Model_actStore : ob_yd k_Model_actStore 1 := by unfold ob_yd; decide +kernel
theorem cw_Model_actAction : ob_cw k_Model_actAction := w_1595
theorem yd_Model_actAction : ob_yd k_Model_actAction 1 := by unfold ob_yd; decide +kernel
theorem cw_Model_act : ob_cw k_Model_act := w_1551
theorem yd_Model_act : ob_yd k_Model_act 2 := by unfold ob_yd; decide +kernel
theorem cw_Model_handle : ob_cw k_Model_handle := w_1445
theorem yd_Model_handle : ob_yd k_Model_handle 0 := by unfold ob_yd; decide +kernel
theorem cw_Model_watch : ob_cw k_Model_watch := w_1599
theorem yd_Model_watch : ob_yd k_Model_watch 1 := by unfold ob_yd; decide +kernel
theorem cw_Model_workEvents : ob_cw k_Model_workEvents := w_1603
theorem yd_Model_workEvents : ob_yd k_Model_workEvents 0 := by unfold ob_yd; decide +kernel
theorem cw_Model_retrieve : ob_cw k_Model_retrieve := w_1607
theorem yd_Model_retrieve : ob_yd k_Model_retrieve 0 := by unfold ob_yd; decide +kernel
theorem cw_Model_empty : ob_cw k_Model_empty := w_1615
theorem yd_Model_empty : ob_yd k_Model_empty 2 := by unfold ob_yd; decide +kernel
theorem cw_Model_theWord : ob_cw k_Model_theWord := w_1619
theorem yd_Model_theWord : ob_yd k_Model_theWord 0 := by unfold ob_yd; decide +kernel
theorem cw_Model_frame : ob_cw k_Model_frame := w_1611
theorem yd_Model_frame : ob_yd k_Model_frame 1 := by unfold ob_yd; decide +kernel
theorem cw_Model_tick : ob_cw k_Model_tick := w_1429
theorem yd_Model_tick : ob_yd k_Model_tick 0 := by unfold ob_yd; decide +kernel
theorem cw_Model_down : ob_cw k_Model_down := w_1624
theorem yd_Model_down : ob_yd k_Model_down 2 := by unfold ob_yd; decide +kernel
theorem cw_Model_value : ob_cw k_Model_value := w_1628
theorem yd_Model_value : ob_yd k_Model_value 1 := by unfold ob_yd; decide +kernel
theorem cw_Model_word : ob_cw k_Model_word := w_1632
theorem yd_Model_word : ob_yd k_Model_word 0 := by unfold ob_yd; decide +kernel
theorem cw_Model_memory : ob_cw k_Model_memory := w_1636
theorem yd_Model_memory : ob_yd k_Model_memory 1 := by unfold ob_yd; decide +kernel
theorem cw_Model_entry : ob_cw k_Model_entry := w_1640
theorem yd_Model_entry : ob_yd k_Model_entry 2 := by unfold ob_yd; decide +kernel
theorem cw_Model_limit : ob_cw k_Model_limit := w_1644
theorem yd_Model_limit : ob_yd k_Model_limit 2 := by unfold ob_yd; decide +kernel
theorem cw_Model_state : ob_cw k_Model_state := w_1648
theorem yd_Model_state : ob_yd k_Model_state 1 := by unfold ob_yd; decide +kernel
