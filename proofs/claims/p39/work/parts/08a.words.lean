/-! words of the tables by place, rows of the fields, kinds of the objects: printed by a program -/
theorem wd_318 : (Jvm.Cond.methodLinkNest "FoxBurrows$Field" (37 : Nat) ({ cls := "FoxBurrows", name := "copy", desc := "([I[I)V" } : Jvm.MethodName) "FoxBurrows") ∈ TN := zTN 318 (by decide +kernel) (by decide +kernel)
theorem wd_331 : (Jvm.Cond.methodLinkNest "FoxBurrows$Game" (26 : Nat) ({ cls := "FoxBurrows", name := "copy", desc := "([I[I)V" } : Jvm.MethodName) "FoxBurrows") ∈ TN := zTN 331 (by decide +kernel) (by decide +kernel)
theorem wd_472 : (Jvm.Cond.methodLinkNest "FoxBurrows$Field" (45 : Nat) ({ cls := "FoxBurrows", name := "at", desc := "([II)I" } : Jvm.MethodName) "FoxBurrows") ∈ TN := zTN 472 (by decide +kernel) (by decide +kernel)
theorem wd_479 : (Jvm.Cond.methodLinkNest "FoxBurrows$Field" (49 : Nat) ({ cls := "FoxBurrows", name := "put", desc := "([III)V" } : Jvm.MethodName) "FoxBurrows") ∈ TN := zTN 479 (by decide +kernel) (by decide +kernel)
theorem wd_486 : (Jvm.Cond.methodLinkNest "FoxBurrows$Field" (41 : Nat) ({ cls := "FoxBurrows", name := "bitOf", desc := "(I)I" } : Jvm.MethodName) "FoxBurrows") ∈ TN := zTN 486 (by decide +kernel) (by decide +kernel)
theorem wd_607 : (Jvm.Cond.methodLinkNest "FoxBurrows$Field" (74 : Nat) ({ cls := "FoxBurrows", name := "numberOf", desc := "(IIII)I" } : Jvm.MethodName) "FoxBurrows") ∈ TN := zTN 607 (by decide +kernel) (by decide +kernel)
theorem wd_610 : (Jvm.Cond.methodLinkNest "FoxBurrows$Table" (40 : Nat) ({ cls := "FoxBurrows", name := "at", desc := "([II)I" } : Jvm.MethodName) "FoxBurrows") ∈ TN := zTN 610 (by decide +kernel) (by decide +kernel)
theorem wd_615 : (Jvm.Cond.methodLinkNest "FoxBurrows$Field" (64 : Nat) ({ cls := "FoxBurrows", name := "firstOf", desc := "(I)I" } : Jvm.MethodName) "FoxBurrows") ∈ TN := zTN 615 (by decide +kernel) (by decide +kernel)
theorem wd_618 : (Jvm.Cond.methodLinkNest "FoxBurrows$Field" (67 : Nat) ({ cls := "FoxBurrows", name := "secondOf", desc := "(I)I" } : Jvm.MethodName) "FoxBurrows") ∈ TN := zTN 618 (by decide +kernel) (by decide +kernel)
theorem wd_625 : (Jvm.Cond.methodLinkNest "FoxBurrows$Field" (61 : Nat) ({ cls := "FoxBurrows", name := "foxOf", desc := "(I)I" } : Jvm.MethodName) "FoxBurrows") ∈ TN := zTN 625 (by decide +kernel) (by decide +kernel)
theorem wd_628 : (Jvm.Cond.methodLinkNest "FoxBurrows$Field" (81 : Nat) ({ cls := "FoxBurrows", name := "turnOf", desc := "(I)I" } : Jvm.MethodName) "FoxBurrows") ∈ TN := zTN 628 (by decide +kernel) (by decide +kernel)
theorem wd_635 : (Jvm.Cond.methodLinkNest "FoxBurrows$Field" (88 : Nat) ({ cls := "FoxBurrows", name := "above", desc := "(I)I" } : Jvm.MethodName) "FoxBurrows") ∈ TN := zTN 635 (by decide +kernel) (by decide +kernel)
theorem wd_642 : (Jvm.Cond.methodLinkNest "FoxBurrows$Table" (54 : Nat) ({ cls := "FoxBurrows", name := "put", desc := "([III)V" } : Jvm.MethodName) "FoxBurrows") ∈ TN := zTN 642 (by decide +kernel) (by decide +kernel)
theorem wd_648 : (Jvm.Cond.methodLinkNest "FoxBurrows$Field" (94 : Nat) ({ cls := "FoxBurrows", name := "below", desc := "(I)I" } : Jvm.MethodName) "FoxBurrows") ∈ TN := zTN 648 (by decide +kernel) (by decide +kernel)
theorem wd_655 : (Jvm.Cond.methodLinkNest "FoxBurrows$Table" (65 : Nat) ({ cls := "FoxBurrows", name := "firstMove", desc := "(J)I" } : Jvm.MethodName) "FoxBurrows") ∈ TN := zTN 655 (by decide +kernel) (by decide +kernel)
theorem wd_659 : (Jvm.Cond.methodLinkNest "FoxBurrows$Table" (68 : Nat) ({ cls := "FoxBurrows", name := "withoutFirst", desc := "(J)J" } : Jvm.MethodName) "FoxBurrows") ∈ TN := zTN 659 (by decide +kernel) (by decide +kernel)
theorem wd_662 : (Jvm.Cond.methodLinkNest "FoxBurrows$Table" (72 : Nat) ({ cls := "FoxBurrows", name := "fromOf", desc := "(I)I" } : Jvm.MethodName) "FoxBurrows") ∈ TN := zTN 662 (by decide +kernel) (by decide +kernel)
theorem wd_665 : (Jvm.Cond.methodLinkNest "FoxBurrows$Table" (76 : Nat) ({ cls := "FoxBurrows", name := "toOf", desc := "(I)I" } : Jvm.MethodName) "FoxBurrows") ∈ TN := zTN 665 (by decide +kernel) (by decide +kernel)
theorem wd_668 : (Jvm.Cond.methodLinkNest "FoxBurrows$Table" (79 : Nat) ({ cls := "FoxBurrows", name := "shifted", desc := "(III)I" } : Jvm.MethodName) "FoxBurrows") ∈ TN := zTN 668 (by decide +kernel) (by decide +kernel)
theorem wd_695 : (Jvm.Cond.methodLinkNest "FoxBurrows$Table" (90 : Nat) ({ cls := "FoxBurrows", name := "turnOf", desc := "(I)I" } : Jvm.MethodName) "FoxBurrows") ∈ TN := zTN 695 (by decide +kernel) (by decide +kernel)
theorem wd_762 : (Jvm.Cond.methodLinkNest "FoxBurrows$Reader" (53 : Nat) ({ cls := "FoxBurrows", name := "put", desc := "([III)V" } : Jvm.MethodName) "FoxBurrows") ∈ TN := zTN 762 (by decide +kernel) (by decide +kernel)
theorem wd_784 : (Jvm.Cond.methodLinkNest "FoxBurrows$Game" (30 : Nat) ({ cls := "FoxBurrows", name := "put", desc := "([III)V" } : Jvm.MethodName) "FoxBurrows") ∈ TN := zTN 784 (by decide +kernel) (by decide +kernel)
theorem wd_794 : (Jvm.Cond.methodLinkNest "FoxBurrows$Game" (34 : Nat) ({ cls := "FoxBurrows", name := "at", desc := "([II)I" } : Jvm.MethodName) "FoxBurrows") ∈ TN := zTN 794 (by decide +kernel) (by decide +kernel)
theorem wd_800 : (Jvm.Cond.methodLinkNest "FoxBurrows$Field" (101 : Nat) ({ cls := "FoxBurrows", name := "moveNumber", desc := "(II)I" } : Jvm.MethodName) "FoxBurrows") ∈ TN := zTN 800 (by decide +kernel) (by decide +kernel)
theorem wd_996 : (Jvm.Cond.methodLinkNest "FoxBurrows$SecondWay" (31 : Nat) ({ cls := "FoxBurrows", name := "at", desc := "([II)I" } : Jvm.MethodName) "FoxBurrows") ∈ TN := zTN 996 (by decide +kernel) (by decide +kernel)
theorem wd_997 : (Jvm.Cond.methodLinkNest "FoxBurrows$SecondWay" (35 : Nat) ({ cls := "FoxBurrows", name := "put", desc := "([III)V" } : Jvm.MethodName) "FoxBurrows") ∈ TN := zTN 997 (by decide +kernel) (by decide +kernel)
theorem wd_1004 : (Jvm.Cond.methodLinkNest "FoxBurrows$SecondWay" (53 : Nat) ({ cls := "FoxBurrows", name := "firstMove", desc := "(J)I" } : Jvm.MethodName) "FoxBurrows") ∈ TN := zTN 1004 (by decide +kernel) (by decide +kernel)
theorem wd_1005 : (Jvm.Cond.methodLinkNest "FoxBurrows$SecondWay" (56 : Nat) ({ cls := "FoxBurrows", name := "withoutFirst", desc := "(J)J" } : Jvm.MethodName) "FoxBurrows") ∈ TN := zTN 1005 (by decide +kernel) (by decide +kernel)
theorem wd_1006 : (Jvm.Cond.methodLinkNest "FoxBurrows$SecondWay" (60 : Nat) ({ cls := "FoxBurrows", name := "fromOf", desc := "(I)I" } : Jvm.MethodName) "FoxBurrows") ∈ TN := zTN 1006 (by decide +kernel) (by decide +kernel)
theorem wd_1007 : (Jvm.Cond.methodLinkNest "FoxBurrows$SecondWay" (64 : Nat) ({ cls := "FoxBurrows", name := "toOf", desc := "(I)I" } : Jvm.MethodName) "FoxBurrows") ∈ TN := zTN 1007 (by decide +kernel) (by decide +kernel)
theorem wd_1008 : (Jvm.Cond.methodLinkNest "FoxBurrows$SecondWay" (67 : Nat) ({ cls := "FoxBurrows", name := "shifted", desc := "(III)I" } : Jvm.MethodName) "FoxBurrows") ∈ TN := zTN 1008 (by decide +kernel) (by decide +kernel)
theorem wp_0 : Cond.selects "FoxBurrows" (⟨"FoxBurrows", "setAside", "()V"⟩ : MethodName) (⟨"FoxBurrows", "setAside", "()V"⟩ : MethodName) ∈ TB := zTBp 0 (by decide +kernel) (by decide +kernel)
theorem wp_1 : Cond.selects "FoxBurrows" (⟨"FoxBurrows", "addBurrow", "()I"⟩ : MethodName) (⟨"FoxBurrows", "addBurrow", "()I"⟩ : MethodName) ∈ TB := zTBp 1 (by decide +kernel) (by decide +kernel)
theorem wp_2 : Cond.selects "FoxBurrows" (⟨"FoxBurrows", "refused", "(II)I"⟩ : MethodName) (⟨"FoxBurrows", "refused", "(II)I"⟩ : MethodName) ∈ TB := zTBp 2 (by decide +kernel) (by decide +kernel)
theorem wp_3 : Cond.selects "FoxBurrows" (⟨"FoxBurrows", "markChanged", "()V"⟩ : MethodName) (⟨"FoxBurrows", "markChanged", "()V"⟩ : MethodName) ∈ TB := zTBp 3 (by decide +kernel) (by decide +kernel)
theorem wp_4 : Cond.selects "FoxBurrows" (⟨"FoxBurrows", "newVersion", "()I"⟩ : MethodName) (⟨"FoxBurrows", "newVersion", "()I"⟩ : MethodName) ∈ TB := zTBp 4 (by decide +kernel) (by decide +kernel)
theorem wp_5 : Cond.selects "FoxBurrows" (⟨"FoxBurrows", "settled", "(I)I"⟩ : MethodName) (⟨"FoxBurrows", "settled", "(I)I"⟩ : MethodName) ∈ TB := zTBp 5 (by decide +kernel) (by decide +kernel)
theorem wp_7 : Cond.selects "FoxBurrows$Changes" (⟨"FoxBurrows$Changes", "placeAt", "(I)LFoxBurrows$State;"⟩ : MethodName) (⟨"FoxBurrows$Changes", "placeAt", "(I)LFoxBurrows$State;"⟩ : MethodName) ∈ TB := zTBp 7 (by decide +kernel) (by decide +kernel)
theorem wp_8 : Cond.selects "FoxBurrows" (⟨"FoxBurrows", "addPath", "(II)I"⟩ : MethodName) (⟨"FoxBurrows", "addPath", "(II)I"⟩ : MethodName) ∈ TB := zTBp 8 (by decide +kernel) (by decide +kernel)
theorem wp_9 : Cond.selects "FoxBurrows" (⟨"FoxBurrows", "isRefusedFor", "(I)Z"⟩ : MethodName) (⟨"FoxBurrows", "isRefusedFor", "(I)Z"⟩ : MethodName) ∈ TB := zTBp 9 (by decide +kernel) (by decide +kernel)
theorem wp_10 : Cond.selects "FoxBurrows" (⟨"FoxBurrows", "dropPath", "(II)I"⟩ : MethodName) (⟨"FoxBurrows", "dropPath", "(II)I"⟩ : MethodName) ∈ TB := zTBp 10 (by decide +kernel) (by decide +kernel)
theorem wp_11 : Cond.selects "FoxBurrows" (⟨"FoxBurrows", "setGeese", "(I)I"⟩ : MethodName) (⟨"FoxBurrows", "setGeese", "(I)I"⟩ : MethodName) ∈ TB := zTBp 11 (by decide +kernel) (by decide +kernel)
theorem wp_12 : Cond.selects "FoxBurrows" (⟨"FoxBurrows", "winsOfFoxOn", "(I)I"⟩ : MethodName) (⟨"FoxBurrows", "winsOfFoxOn", "(I)I"⟩ : MethodName) ∈ TB := zTBp 12 (by decide +kernel) (by decide +kernel)
theorem wp_13 : Cond.selects "FoxBurrows$Field" (⟨"FoxBurrows$Field", "taken", "(I)I"⟩ : MethodName) (⟨"FoxBurrows$Field", "taken", "(I)I"⟩ : MethodName) ∈ TB := zTBp 13 (by decide +kernel) (by decide +kernel)
theorem wp_14 : Cond.selects "FoxBurrows$Field" (⟨"FoxBurrows$Field", "moves", "(II)J"⟩ : MethodName) (⟨"FoxBurrows$Field", "moves", "(II)J"⟩ : MethodName) ∈ TB := zTBp 14 (by decide +kernel) (by decide +kernel)
theorem wp_15 : Cond.selects "FoxBurrows$Table" (⟨"FoxBurrows$Table", "tellBefore", "(IJI)I"⟩ : MethodName) (⟨"FoxBurrows$Table", "tellBefore", "(IJI)I"⟩ : MethodName) ∈ TB := zTBp 15 (by decide +kernel) (by decide +kernel)
theorem wp_16 : Cond.selects "FoxBurrows$Table" (⟨"FoxBurrows$Table", "isDecided", "(II)Z"⟩ : MethodName) (⟨"FoxBurrows$Table", "isDecided", "(II)Z"⟩ : MethodName) ∈ TB := zTBp 16 (by decide +kernel) (by decide +kernel)
theorem wp_17 : Cond.selects "FoxBurrows$Reader" (⟨"FoxBurrows$Reader", "isCommand", "(LFoxBurrows$Text;)Z"⟩ : MethodName) (⟨"FoxBurrows$Reader", "isCommand", "(LFoxBurrows$Text;)Z"⟩ : MethodName) ∈ TB := zTBp 17 (by decide +kernel) (by decide +kernel)
theorem wp_18 : Cond.selects "FoxBurrows$Reader" (⟨"FoxBurrows$Reader", "numberIn", "(LFoxBurrows$Text;I)I"⟩ : MethodName) (⟨"FoxBurrows$Reader", "numberIn", "(LFoxBurrows$Text;I)I"⟩ : MethodName) ∈ TB := zTBp 18 (by decide +kernel) (by decide +kernel)
theorem wp_19 : Cond.selects "FoxBurrows" (⟨"FoxBurrows", "carriedOut", "(I)I"⟩ : MethodName) (⟨"FoxBurrows", "carriedOut", "(I)I"⟩ : MethodName) ∈ TB := zTBp 19 (by decide +kernel) (by decide +kernel)
theorem wp_20 : Cond.selects "FoxBurrows" (⟨"FoxBurrows", "turnTrap", "(IZ)I"⟩ : MethodName) (⟨"FoxBurrows", "turnTrap", "(IZ)I"⟩ : MethodName) ∈ TB := zTBp 20 (by decide +kernel) (by decide +kernel)
theorem wp_21 : Cond.selects "FoxBurrows" (⟨"FoxBurrows", "startGame", "(I)I"⟩ : MethodName) (⟨"FoxBurrows", "startGame", "(I)I"⟩ : MethodName) ∈ TB := zTBp 21 (by decide +kernel) (by decide +kernel)
theorem wp_22 : Cond.selects "FoxBurrows" (⟨"FoxBurrows", "makeMove", "(II)I"⟩ : MethodName) (⟨"FoxBurrows", "makeMove", "(II)I"⟩ : MethodName) ∈ TB := zTBp 22 (by decide +kernel) (by decide +kernel)
theorem wp_23 : Cond.selects "FoxBurrows" (⟨"FoxBurrows", "letPlay", "(I)I"⟩ : MethodName) (⟨"FoxBurrows", "letPlay", "(I)I"⟩ : MethodName) ∈ TB := zTBp 23 (by decide +kernel) (by decide +kernel)
theorem wp_24 : Cond.selects "FoxBurrows" (⟨"FoxBurrows", "takeBack", "()I"⟩ : MethodName) (⟨"FoxBurrows", "takeBack", "()I"⟩ : MethodName) ∈ TB := zTBp 24 (by decide +kernel) (by decide +kernel)
theorem wp_25 : Cond.selects "FoxBurrows" (⟨"FoxBurrows", "accountOfPositions", "(I)I"⟩ : MethodName) (⟨"FoxBurrows", "accountOfPositions", "(I)I"⟩ : MethodName) ∈ TB := zTBp 25 (by decide +kernel) (by decide +kernel)
theorem wp_26 : Cond.selects "FoxBurrows" (⟨"FoxBurrows", "positionsIn", "(I)I"⟩ : MethodName) (⟨"FoxBurrows", "positionsIn", "(I)I"⟩ : MethodName) ∈ TB := zTBp 26 (by decide +kernel) (by decide +kernel)
theorem wp_27 : Cond.selects "FoxBurrows" (⟨"FoxBurrows", "needPosition", "(I)V"⟩ : MethodName) (⟨"FoxBurrows", "needPosition", "(I)V"⟩ : MethodName) ∈ TB := zTBp 27 (by decide +kernel) (by decide +kernel)
theorem wp_28 : Cond.selects "FoxBurrows$SecondWay" (⟨"FoxBurrows$SecondWay", "seen", "(LFoxBurrows$Field;I)I"⟩ : MethodName) (⟨"FoxBurrows$SecondWay", "seen", "(LFoxBurrows$Field;I)I"⟩ : MethodName) ∈ TB := zTBp 28 (by decide +kernel) (by decide +kernel)
theorem wd_1 : (Jvm.Cond.initialized "FoxBurrows") ∈ TB := zTB 1 (by decide +kernel) (by decide +kernel)
theorem wd_2 : (Jvm.Cond.initialized "FoxBurrows$State") ∈ TB := zTB 2 (by decide +kernel) (by decide +kernel)
theorem wd_3 : (Jvm.Cond.initialized "FoxBurrows$Field") ∈ TB := zTB 3 (by decide +kernel) (by decide +kernel)
theorem wd_4 : (Jvm.Cond.initialized "FoxBurrows$Game") ∈ TB := zTB 4 (by decide +kernel) (by decide +kernel)
theorem wd_5 : (Jvm.Cond.initialized "FoxBurrows$Changes") ∈ TB := zTB 5 (by decide +kernel) (by decide +kernel)
theorem wd_6 : (Jvm.Cond.initialized "FoxBurrows$Table") ∈ TB := zTB 6 (by decide +kernel) (by decide +kernel)
theorem wd_7 : (Jvm.Cond.initialized "FoxBurrows$SecondWay") ∈ TB := zTB 7 (by decide +kernel) (by decide +kernel)
theorem wd_8 : (Jvm.Cond.initialized "FoxBurrows$Text") ∈ TB := zTB 8 (by decide +kernel) (by decide +kernel)
theorem wd_9 : (Jvm.Cond.initialized "FoxBurrows$Reader") ∈ TB := zTB 9 (by decide +kernel) (by decide +kernel)
theorem wd_14 : (Jvm.Cond.initialized "java/lang/IllegalStateException") ∈ TB := zTB 14 (by decide +kernel) (by decide +kernel)
theorem wd_15 : (Jvm.Cond.initialized "java/lang/Math") ∈ TB := zTB 15 (by decide +kernel) (by decide +kernel)
theorem wd_16 : (Jvm.Cond.initialized "java/lang/System") ∈ TB := zTB 16 (by decide +kernel) (by decide +kernel)
theorem wd_17 : (Jvm.Cond.initialized "java/lang/UnsupportedOperationException") ∈ TB := zTB 17 (by decide +kernel) (by decide +kernel)
theorem wd_18 : (Jvm.Cond.initialized "java/lang/IllegalArgumentException") ∈ TB := zTB 18 (by decide +kernel) (by decide +kernel)
theorem wd_20 : (Jvm.Cond.initialized "java/lang/Integer") ∈ TB := zTB 20 (by decide +kernel) (by decide +kernel)
theorem wd_21 : (Jvm.Cond.initialized "java/lang/Long") ∈ TB := zTB 21 (by decide +kernel) (by decide +kernel)
theorem wd_22 : (Jvm.Cond.initialized "java/util/NoSuchElementException") ∈ TB := zTB 22 (by decide +kernel) (by decide +kernel)
theorem wd_23 : (Jvm.Cond.initialized "java/lang/IndexOutOfBoundsException") ∈ TB := zTB 23 (by decide +kernel) (by decide +kernel)
theorem wd_26 : (Jvm.Cond.initialized "java/lang/ArithmeticException") ∈ TB := zTB 26 (by decide +kernel) (by decide +kernel)
theorem wd_56 : (Jvm.Cond.fieldLink "FoxBurrows$Field" (25 : Nat) "FoxBurrows$Field" "burrows" "I") ∈ TB := zTB 56 (by decide +kernel) (by decide +kernel)
theorem wd_57 : (Jvm.Cond.fieldLink "FoxBurrows" (265 : Nat) "FoxBurrows$Field" "burrows" "I") ∈ TB := zTB 57 (by decide +kernel) (by decide +kernel)
theorem wd_58 : (Jvm.Cond.fieldLink "FoxBurrows$Field" (28 : Nat) "FoxBurrows$Field" "paths" "I") ∈ TB := zTB 58 (by decide +kernel) (by decide +kernel)
theorem wd_59 : (Jvm.Cond.fieldLink "FoxBurrows" (299 : Nat) "FoxBurrows$Field" "paths" "I") ∈ TB := zTB 59 (by decide +kernel) (by decide +kernel)
theorem wd_60 : (Jvm.Cond.fieldLink "FoxBurrows$Field" (31 : Nat) "FoxBurrows$Field" "traps" "I") ∈ TB := zTB 60 (by decide +kernel) (by decide +kernel)
theorem wd_61 : (Jvm.Cond.fieldLink "FoxBurrows" (319 : Nat) "FoxBurrows$Field" "traps" "I") ∈ TB := zTB 61 (by decide +kernel) (by decide +kernel)
theorem wd_62 : (Jvm.Cond.fieldLink "FoxBurrows$Field" (9 : Nat) "FoxBurrows$Field" "geese" "I") ∈ TB := zTB 62 (by decide +kernel) (by decide +kernel)
theorem wd_63 : (Jvm.Cond.fieldLink "FoxBurrows" (322 : Nat) "FoxBurrows$Field" "geese" "I") ∈ TB := zTB 63 (by decide +kernel) (by decide +kernel)
theorem wd_64 : (Jvm.Cond.fieldLink "FoxBurrows$Table" (28 : Nat) "FoxBurrows$Field" "version" "I") ∈ TB := zTB 64 (by decide +kernel) (by decide +kernel)
theorem wd_65 : (Jvm.Cond.fieldLink "FoxBurrows$SecondWay" (22 : Nat) "FoxBurrows$Field" "version" "I") ∈ TB := zTB 65 (by decide +kernel) (by decide +kernel)
theorem wd_66 : (Jvm.Cond.fieldLink "FoxBurrows$Field" (34 : Nat) "FoxBurrows$Field" "version" "I") ∈ TB := zTB 66 (by decide +kernel) (by decide +kernel)
theorem wd_67 : (Jvm.Cond.fieldLink "FoxBurrows" (262 : Nat) "FoxBurrows$Field" "version" "I") ∈ TB := zTB 67 (by decide +kernel) (by decide +kernel)
theorem wd_68 : (Jvm.Cond.fieldLink "FoxBurrows$Field" (15 : Nat) "FoxBurrows$Field" "ones" "[I") ∈ TB := zTB 68 (by decide +kernel) (by decide +kernel)
theorem wd_69 : (Jvm.Cond.fieldLink "FoxBurrows" (307 : Nat) "FoxBurrows$Field" "ones" "[I") ∈ TB := zTB 69 (by decide +kernel) (by decide +kernel)
theorem wd_70 : (Jvm.Cond.fieldLink "FoxBurrows$Field" (19 : Nat) "FoxBurrows$Field" "others" "[I") ∈ TB := zTB 70 (by decide +kernel) (by decide +kernel)
theorem wd_71 : (Jvm.Cond.fieldLink "FoxBurrows" (304 : Nat) "FoxBurrows$Field" "others" "[I") ∈ TB := zTB 71 (by decide +kernel) (by decide +kernel)
theorem wd_72 : (Jvm.Cond.fieldLink "FoxBurrows$Field" (22 : Nat) "FoxBurrows$Field" "near" "[I") ∈ TB := zTB 72 (by decide +kernel) (by decide +kernel)
theorem wd_73 : (Jvm.Cond.fieldLink "FoxBurrows" (278 : Nat) "FoxBurrows$Field" "near" "[I") ∈ TB := zTB 73 (by decide +kernel) (by decide +kernel)
theorem wd_98 : (Jvm.Cond.fieldLink "FoxBurrows$Game" (18 : Nat) "FoxBurrows$Game" "isOn" "Z") ∈ TB := zTB 98 (by decide +kernel) (by decide +kernel)
theorem wd_99 : (Jvm.Cond.fieldLink "FoxBurrows" (122 : Nat) "FoxBurrows$Game" "isOn" "Z") ∈ TB := zTB 99 (by decide +kernel) (by decide +kernel)
theorem wd_100 : (Jvm.Cond.fieldLink "FoxBurrows$Game" (22 : Nat) "FoxBurrows$Game" "moves" "I") ∈ TB := zTB 100 (by decide +kernel) (by decide +kernel)
theorem wd_101 : (Jvm.Cond.fieldLink "FoxBurrows" (325 : Nat) "FoxBurrows$Game" "moves" "I") ∈ TB := zTB 101 (by decide +kernel) (by decide +kernel)
theorem wd_102 : (Jvm.Cond.fieldLink "FoxBurrows$Game" (9 : Nat) "FoxBurrows$Game" "positions" "[I") ∈ TB := zTB 102 (by decide +kernel) (by decide +kernel)
theorem wd_103 : (Jvm.Cond.fieldLink "FoxBurrows" (380 : Nat) "FoxBurrows$Game" "positions" "[I") ∈ TB := zTB 103 (by decide +kernel) (by decide +kernel)
theorem wd_104 : (Jvm.Cond.fieldLink "FoxBurrows$Game" (15 : Nat) "FoxBurrows$Game" "made" "[I") ∈ TB := zTB 104 (by decide +kernel) (by decide +kernel)
theorem wd_105 : (Jvm.Cond.fieldLink "FoxBurrows" (377 : Nat) "FoxBurrows$Game" "made" "[I") ∈ TB := zTB 105 (by decide +kernel) (by decide +kernel)
theorem wd_115 : (Jvm.Cond.fieldLink "FoxBurrows$State" (10 : Nat) "FoxBurrows$State" "field" "LFoxBurrows$Field;") ∈ TB := zTB 115 (by decide +kernel) (by decide +kernel)
theorem wd_116 : (Jvm.Cond.fieldLink "FoxBurrows" (138 : Nat) "FoxBurrows$State" "field" "LFoxBurrows$Field;") ∈ TB := zTB 116 (by decide +kernel) (by decide +kernel)
theorem wd_117 : (Jvm.Cond.fieldLink "FoxBurrows$State" (19 : Nat) "FoxBurrows$State" "game" "LFoxBurrows$Game;") ∈ TB := zTB 117 (by decide +kernel) (by decide +kernel)
theorem wd_118 : (Jvm.Cond.fieldLink "FoxBurrows" (118 : Nat) "FoxBurrows$State" "game" "LFoxBurrows$Game;") ∈ TB := zTB 118 (by decide +kernel) (by decide +kernel)
theorem wd_119 : (Jvm.Cond.fieldLink "FoxBurrows$State" (30 : Nat) "FoxBurrows$State" "begun" "I") ∈ TB := zTB 119 (by decide +kernel) (by decide +kernel)
theorem wd_120 : (Jvm.Cond.fieldLink "FoxBurrows" (328 : Nat) "FoxBurrows$State" "begun" "I") ∈ TB := zTB 120 (by decide +kernel) (by decide +kernel)
theorem wd_137 : (Jvm.Cond.fieldLink "FoxBurrows$Changes" (11 : Nat) "FoxBurrows$Changes" "earlier" "[LFoxBurrows$State;") ∈ TB := zTB 137 (by decide +kernel) (by decide +kernel)
theorem wd_138 : (Jvm.Cond.fieldLink "FoxBurrows$Changes" (30 : Nat) "FoxBurrows$Changes" "kept" "I") ∈ TB := zTB 138 (by decide +kernel) (by decide +kernel)
theorem wd_139 : (Jvm.Cond.fieldLink "FoxBurrows" (331 : Nat) "FoxBurrows$Changes" "kept" "I") ∈ TB := zTB 139 (by decide +kernel) (by decide +kernel)
theorem wd_140 : (Jvm.Cond.fieldLink "FoxBurrows$Changes" (18 : Nat) "FoxBurrows$Changes" "next" "I") ∈ TB := zTB 140 (by decide +kernel) (by decide +kernel)
theorem wd_156 : (Jvm.Cond.fieldLink "FoxBurrows$Table" (37 : Nat) "FoxBurrows$Table" "size" "I") ∈ TB := zTB 156 (by decide +kernel) (by decide +kernel)
theorem wd_157 : (Jvm.Cond.fieldLink "FoxBurrows" (228 : Nat) "FoxBurrows$Table" "size" "I") ∈ TB := zTB 157 (by decide +kernel) (by decide +kernel)
theorem wd_158 : (Jvm.Cond.fieldLink "FoxBurrows$Table" (9 : Nat) "FoxBurrows$Table" "solved" "I") ∈ TB := zTB 158 (by decide +kernel) (by decide +kernel)
theorem wd_159 : (Jvm.Cond.fieldLink "FoxBurrows$Table" (15 : Nat) "FoxBurrows$Table" "all" "[I") ∈ TB := zTB 159 (by decide +kernel) (by decide +kernel)
theorem wd_160 : (Jvm.Cond.fieldLink "FoxBurrows$Table" (19 : Nat) "FoxBurrows$Table" "told" "[I") ∈ TB := zTB 160 (by decide +kernel) (by decide +kernel)
theorem wd_161 : (Jvm.Cond.fieldLink "FoxBurrows$Table" (22 : Nat) "FoxBurrows$Table" "numbers" "[I") ∈ TB := zTB 161 (by decide +kernel) (by decide +kernel)
theorem wd_162 : (Jvm.Cond.fieldLink "FoxBurrows$Table" (25 : Nat) "FoxBurrows$Table" "open" "[I") ∈ TB := zTB 162 (by decide +kernel) (by decide +kernel)
theorem wd_182 : (Jvm.Cond.fieldLink "FoxBurrows$SecondWay" (9 : Nat) "FoxBurrows$SecondWay" "solved" "I") ∈ TB := zTB 182 (by decide +kernel) (by decide +kernel)
theorem wd_183 : (Jvm.Cond.fieldLink "FoxBurrows$SecondWay" (15 : Nat) "FoxBurrows$SecondWay" "all" "[I") ∈ TB := zTB 183 (by decide +kernel) (by decide +kernel)
theorem wd_184 : (Jvm.Cond.fieldLink "FoxBurrows$SecondWay" (19 : Nat) "FoxBurrows$SecondWay" "outcomes" "[I") ∈ TB := zTB 184 (by decide +kernel) (by decide +kernel)
theorem wd_198 : (Jvm.Cond.fieldLink "FoxBurrows$Text" (15 : Nat) "FoxBurrows$Text" "length" "I") ∈ TB := zTB 198 (by decide +kernel) (by decide +kernel)
theorem wd_199 : (Jvm.Cond.fieldLink "FoxBurrows$Reader" (32 : Nat) "FoxBurrows$Text" "length" "I") ∈ TB := zTB 199 (by decide +kernel) (by decide +kernel)
theorem wd_200 : (Jvm.Cond.fieldLink "FoxBurrows" (333 : Nat) "FoxBurrows$Text" "length" "I") ∈ TB := zTB 200 (by decide +kernel) (by decide +kernel)
theorem wd_201 : (Jvm.Cond.fieldLink "FoxBurrows$Text" (9 : Nat) "FoxBurrows$Text" "signs" "[C") ∈ TB := zTB 201 (by decide +kernel) (by decide +kernel)
theorem wd_214 : (Jvm.Cond.fieldLink "FoxBurrows$Reader" (25 : Nat) "FoxBurrows$Reader" "count" "I") ∈ TB := zTB 214 (by decide +kernel) (by decide +kernel)
theorem wd_215 : (Jvm.Cond.fieldLink "FoxBurrows" (354 : Nat) "FoxBurrows$Reader" "count" "I") ∈ TB := zTB 215 (by decide +kernel) (by decide +kernel)
theorem wd_216 : (Jvm.Cond.fieldLink "FoxBurrows$Reader" (9 : Nat) "FoxBurrows$Reader" "kinds" "[I") ∈ TB := zTB 216 (by decide +kernel) (by decide +kernel)
theorem wd_217 : (Jvm.Cond.fieldLink "FoxBurrows" (430 : Nat) "FoxBurrows$Reader" "kinds" "[I") ∈ TB := zTB 217 (by decide +kernel) (by decide +kernel)
theorem wd_218 : (Jvm.Cond.fieldLink "FoxBurrows$Reader" (15 : Nat) "FoxBurrows$Reader" "ones" "[I") ∈ TB := zTB 218 (by decide +kernel) (by decide +kernel)
theorem wd_219 : (Jvm.Cond.fieldLink "FoxBurrows" (428 : Nat) "FoxBurrows$Reader" "ones" "[I") ∈ TB := zTB 219 (by decide +kernel) (by decide +kernel)
theorem wd_220 : (Jvm.Cond.fieldLink "FoxBurrows$Reader" (18 : Nat) "FoxBurrows$Reader" "others" "[I") ∈ TB := zTB 220 (by decide +kernel) (by decide +kernel)
theorem wd_221 : (Jvm.Cond.fieldLink "FoxBurrows" (429 : Nat) "FoxBurrows$Reader" "others" "[I") ∈ TB := zTB 221 (by decide +kernel) (by decide +kernel)
theorem wd_222 : (Jvm.Cond.fieldLink "FoxBurrows$Reader" (21 : Nat) "FoxBurrows$Reader" "place" "I") ∈ TB := zTB 222 (by decide +kernel) (by decide +kernel)
theorem wd_240 : (Jvm.Cond.fieldLink "FoxBurrows" (365 : Nat) "FoxBurrows$Reason" "isThere" "Z") ∈ TB := zTB 240 (by decide +kernel) (by decide +kernel)
theorem wd_241 : (Jvm.Cond.fieldLink "FoxBurrows" (370 : Nat) "FoxBurrows$Reason" "why" "I") ∈ TB := zTB 241 (by decide +kernel) (by decide +kernel)
theorem wd_242 : (Jvm.Cond.fieldLink "FoxBurrows" (373 : Nat) "FoxBurrows$Reason" "detail" "I") ∈ TB := zTB 242 (by decide +kernel) (by decide +kernel)
theorem wd_243 : (Jvm.Cond.fieldLink "FoxBurrows" (376 : Nat) "FoxBurrows$Reason" "command" "I") ∈ TB := zTB 243 (by decide +kernel) (by decide +kernel)
theorem wd_253 : (Jvm.Cond.fieldLink "FoxBurrows" (10 : Nat) "FoxBurrows" "state" "LFoxBurrows$State;") ∈ TB := zTB 253 (by decide +kernel) (by decide +kernel)
theorem wd_254 : (Jvm.Cond.fieldLink "FoxBurrows" (16 : Nat) "FoxBurrows" "before" "LFoxBurrows$State;") ∈ TB := zTB 254 (by decide +kernel) (by decide +kernel)
theorem wd_255 : (Jvm.Cond.fieldLink "FoxBurrows" (19 : Nat) "FoxBurrows" "saved" "LFoxBurrows$State;") ∈ TB := zTB 255 (by decide +kernel) (by decide +kernel)
theorem wd_256 : (Jvm.Cond.fieldLink "FoxBurrows" (397 : Nat) "FoxBurrows" "hasSaved" "Z") ∈ TB := zTB 256 (by decide +kernel) (by decide +kernel)
theorem wd_257 : (Jvm.Cond.fieldLink "FoxBurrows" (25 : Nat) "FoxBurrows" "changes" "LFoxBurrows$Changes;") ∈ TB := zTB 257 (by decide +kernel) (by decide +kernel)
theorem wd_258 : (Jvm.Cond.fieldLink "FoxBurrows" (32 : Nat) "FoxBurrows" "trialField" "LFoxBurrows$Field;") ∈ TB := zTB 258 (by decide +kernel) (by decide +kernel)
theorem wd_259 : (Jvm.Cond.fieldLink "FoxBurrows" (39 : Nat) "FoxBurrows" "table" "LFoxBurrows$Table;") ∈ TB := zTB 259 (by decide +kernel) (by decide +kernel)
theorem wd_260 : (Jvm.Cond.fieldLink "FoxBurrows" (43 : Nat) "FoxBurrows" "trialTable" "LFoxBurrows$Table;") ∈ TB := zTB 260 (by decide +kernel) (by decide +kernel)
theorem wd_261 : (Jvm.Cond.fieldLink "FoxBurrows" (49 : Nat) "FoxBurrows" "secondWay" "LFoxBurrows$SecondWay;") ∈ TB := zTB 261 (by decide +kernel) (by decide +kernel)
theorem wd_262 : (Jvm.Cond.fieldLink "FoxBurrows" (56 : Nat) "FoxBurrows" "buffer" "LFoxBurrows$Text;") ∈ TB := zTB 262 (by decide +kernel) (by decide +kernel)
theorem wd_263 : (Jvm.Cond.fieldLink "FoxBurrows" (60 : Nat) "FoxBurrows" "written" "LFoxBurrows$Text;") ∈ TB := zTB 263 (by decide +kernel) (by decide +kernel)
theorem wd_264 : (Jvm.Cond.fieldLink "FoxBurrows" (66 : Nat) "FoxBurrows" "reader" "LFoxBurrows$Reader;") ∈ TB := zTB 264 (by decide +kernel) (by decide +kernel)
theorem wd_265 : (Jvm.Cond.fieldLink "FoxBurrows" (73 : Nat) "FoxBurrows" "kept" "LFoxBurrows$Reason;") ∈ TB := zTB 265 (by decide +kernel) (by decide +kernel)
theorem wd_266 : (Jvm.Cond.fieldLink "FoxBurrows" (77 : Nat) "FoxBurrows" "fault" "I") ∈ TB := zTB 266 (by decide +kernel) (by decide +kernel)
theorem wd_267 : (Jvm.Cond.fieldLink "FoxBurrows" (357 : Nat) "FoxBurrows" "command" "I") ∈ TB := zTB 267 (by decide +kernel) (by decide +kernel)
theorem wd_268 : (Jvm.Cond.fieldLink "FoxBurrows" (441 : Nat) "FoxBurrows" "versions" "I") ∈ TB := zTB 268 (by decide +kernel) (by decide +kernel)
theorem wd_310 : (Jvm.Cond.methodLink "FoxBurrows" (395 : Nat) ({ cls := "FoxBurrows$State", name := "become", desc := "(LFoxBurrows$State;)V" } : Jvm.MethodName)) ∈ TB := zTB 310 (by decide +kernel) (by decide +kernel)
theorem wd_311 : (Jvm.Cond.instanceMethod ({ cls := "FoxBurrows$State", name := "become", desc := "(LFoxBurrows$State;)V" } : Jvm.MethodName)) ∈ TB := zTB 311 (by decide +kernel) (by decide +kernel)
theorem wd_312 : (Jvm.Cond.selects "FoxBurrows$State" ({ cls := "FoxBurrows$State", name := "become", desc := "(LFoxBurrows$State;)V" } : Jvm.MethodName) ({ cls := "FoxBurrows$State", name := "become", desc := "(LFoxBurrows$State;)V" } : Jvm.MethodName)) ∈ TB := zTB 312 (by decide +kernel) (by decide +kernel)
theorem wd_313 : (Jvm.Cond.code ({ cls := "FoxBurrows$State", name := "become", desc := "(LFoxBurrows$State;)V" } : Jvm.MethodName) prog_8_method_2_code (2 : Nat) (Option.none : Option Jvm.ClassFile.FieldType)) ∈ TB := zTB 313 (by decide +kernel) (by decide +kernel)
theorem wd_314 : (Jvm.Cond.methodLink "FoxBurrows$State" (23 : Nat) ({ cls := "FoxBurrows$Field", name := "become", desc := "(LFoxBurrows$Field;)V" } : Jvm.MethodName)) ∈ TB := zTB 314 (by decide +kernel) (by decide +kernel)
theorem wd_315 : (Jvm.Cond.instanceMethod ({ cls := "FoxBurrows$Field", name := "become", desc := "(LFoxBurrows$Field;)V" } : Jvm.MethodName)) ∈ TB := zTB 315 (by decide +kernel) (by decide +kernel)
theorem wd_316 : (Jvm.Cond.selects "FoxBurrows$Field" ({ cls := "FoxBurrows$Field", name := "become", desc := "(LFoxBurrows$Field;)V" } : Jvm.MethodName) ({ cls := "FoxBurrows$Field", name := "become", desc := "(LFoxBurrows$Field;)V" } : Jvm.MethodName)) ∈ TB := zTB 316 (by decide +kernel) (by decide +kernel)
theorem wd_317 : (Jvm.Cond.code ({ cls := "FoxBurrows$Field", name := "become", desc := "(LFoxBurrows$Field;)V" } : Jvm.MethodName) prog_3_method_2_code (2 : Nat) (Option.none : Option Jvm.ClassFile.FieldType)) ∈ TB := zTB 317 (by decide +kernel) (by decide +kernel)
theorem wd_319 : (Jvm.Cond.static ({ cls := "FoxBurrows", name := "copy", desc := "([I[I)V" } : Jvm.MethodName)) ∈ TB := zTB 319 (by decide +kernel) (by decide +kernel)
theorem wd_320 : (Jvm.Cond.code ({ cls := "FoxBurrows", name := "copy", desc := "([I[I)V" } : Jvm.MethodName) prog_1_method_60_code (2 : Nat) (Option.none : Option Jvm.ClassFile.FieldType)) ∈ TB := zTB 320 (by decide +kernel) (by decide +kernel)
theorem wd_321 : (Jvm.Cond.methodLink "FoxBurrows" (449 : Nat) ({ cls := "java/lang/Math", name := "min", desc := "(II)I" } : Jvm.MethodName)) ∈ TB := zTB 321 (by decide +kernel) (by decide +kernel)
theorem wd_322 : (Jvm.Cond.static ({ cls := "java/lang/Math", name := "min", desc := "(II)I" } : Jvm.MethodName)) ∈ TB := zTB 322 (by decide +kernel) (by decide +kernel)
theorem wd_323 : (Jvm.Cond.code ({ cls := "java/lang/Math", name := "min", desc := "(II)I" } : Jvm.MethodName) prog_29_method_69_code (2 : Nat) (Option.some Jvm.ClassFile.FieldType.int)) ∈ TB := zTB 323 (by decide +kernel) (by decide +kernel)
theorem wd_324 : (Jvm.Cond.methodLink "FoxBurrows" (452 : Nat) ({ cls := "java/lang/System", name := "arraycopy", desc := "(Ljava/lang/Object;ILjava/lang/Object;II)V" } : Jvm.MethodName)) ∈ TB := zTB 324 (by decide +kernel) (by decide +kernel)
theorem wd_325 : (Jvm.Cond.static ({ cls := "java/lang/System", name := "arraycopy", desc := "(Ljava/lang/Object;ILjava/lang/Object;II)V" } : Jvm.MethodName)) ∈ TB := zTB 325 (by decide +kernel) (by decide +kernel)
theorem wd_326 : (Jvm.Cond.native ({ cls := "java/lang/System", name := "arraycopy", desc := "(Ljava/lang/Object;ILjava/lang/Object;II)V" } : Jvm.MethodName)) ∈ TB := zTB 326 (by decide +kernel) (by decide +kernel)
theorem wd_327 : (Jvm.Cond.methodLink "FoxBurrows$State" (27 : Nat) ({ cls := "FoxBurrows$Game", name := "become", desc := "(LFoxBurrows$Game;)V" } : Jvm.MethodName)) ∈ TB := zTB 327 (by decide +kernel) (by decide +kernel)
theorem wd_328 : (Jvm.Cond.instanceMethod ({ cls := "FoxBurrows$Game", name := "become", desc := "(LFoxBurrows$Game;)V" } : Jvm.MethodName)) ∈ TB := zTB 328 (by decide +kernel) (by decide +kernel)
theorem wd_329 : (Jvm.Cond.selects "FoxBurrows$Game" ({ cls := "FoxBurrows$Game", name := "become", desc := "(LFoxBurrows$Game;)V" } : Jvm.MethodName) ({ cls := "FoxBurrows$Game", name := "become", desc := "(LFoxBurrows$Game;)V" } : Jvm.MethodName)) ∈ TB := zTB 329 (by decide +kernel) (by decide +kernel)
theorem wd_330 : (Jvm.Cond.code ({ cls := "FoxBurrows$Game", name := "become", desc := "(LFoxBurrows$Game;)V" } : Jvm.MethodName) prog_4_method_2_code (2 : Nat) (Option.none : Option Jvm.ClassFile.FieldType)) ∈ TB := zTB 330 (by decide +kernel) (by decide +kernel)
theorem wd_343 : (Jvm.Cond.methodLink "FoxBurrows" (81 : Nat) ({ cls := "FoxBurrows", name := "setAside", desc := "()V" } : Jvm.MethodName)) ∈ TB := zTB 343 (by decide +kernel) (by decide +kernel)
theorem wd_345 : (Jvm.Cond.instanceMethod ({ cls := "FoxBurrows", name := "setAside", desc := "()V" } : Jvm.MethodName)) ∈ TB := zTB 345 (by decide +kernel) (by decide +kernel)
theorem wd_346 : (Jvm.Cond.code ({ cls := "FoxBurrows", name := "setAside", desc := "()V" } : Jvm.MethodName) prog_1_method_50_code (1 : Nat) (Option.none : Option Jvm.ClassFile.FieldType)) ∈ TB := zTB 346 (by decide +kernel) (by decide +kernel)
theorem wd_347 : (Jvm.Cond.methodLink "FoxBurrows" (84 : Nat) ({ cls := "FoxBurrows", name := "addBurrow", desc := "()I" } : Jvm.MethodName)) ∈ TB := zTB 347 (by decide +kernel) (by decide +kernel)
theorem wd_349 : (Jvm.Cond.instanceMethod ({ cls := "FoxBurrows", name := "addBurrow", desc := "()I" } : Jvm.MethodName)) ∈ TB := zTB 349 (by decide +kernel) (by decide +kernel)
theorem wd_350 : (Jvm.Cond.code ({ cls := "FoxBurrows", name := "addBurrow", desc := "()I" } : Jvm.MethodName) prog_1_method_38_code (2 : Nat) (Option.some Jvm.ClassFile.FieldType.int)) ∈ TB := zTB 350 (by decide +kernel) (by decide +kernel)
theorem wd_351 : (Jvm.Cond.methodLink "FoxBurrows" (402 : Nat) ({ cls := "FoxBurrows", name := "refused", desc := "(II)I" } : Jvm.MethodName)) ∈ TB := zTB 351 (by decide +kernel) (by decide +kernel)
theorem wd_353 : (Jvm.Cond.instanceMethod ({ cls := "FoxBurrows", name := "refused", desc := "(II)I" } : Jvm.MethodName)) ∈ TB := zTB 353 (by decide +kernel) (by decide +kernel)
theorem wd_354 : (Jvm.Cond.code ({ cls := "FoxBurrows", name := "refused", desc := "(II)I" } : Jvm.MethodName) prog_1_method_49_code (3 : Nat) (Option.some Jvm.ClassFile.FieldType.int)) ∈ TB := zTB 354 (by decide +kernel) (by decide +kernel)
theorem wd_355 : (Jvm.Cond.methodLink "FoxBurrows" (405 : Nat) ({ cls := "FoxBurrows", name := "markChanged", desc := "()V" } : Jvm.MethodName)) ∈ TB := zTB 355 (by decide +kernel) (by decide +kernel)
theorem wd_357 : (Jvm.Cond.instanceMethod ({ cls := "FoxBurrows", name := "markChanged", desc := "()V" } : Jvm.MethodName)) ∈ TB := zTB 357 (by decide +kernel) (by decide +kernel)
theorem wd_358 : (Jvm.Cond.code ({ cls := "FoxBurrows", name := "markChanged", desc := "()V" } : Jvm.MethodName) prog_1_method_52_code (1 : Nat) (Option.none : Option Jvm.ClassFile.FieldType)) ∈ TB := zTB 358 (by decide +kernel) (by decide +kernel)
theorem wd_359 : (Jvm.Cond.methodLink "FoxBurrows" (259 : Nat) ({ cls := "FoxBurrows", name := "newVersion", desc := "()I" } : Jvm.MethodName)) ∈ TB := zTB 359 (by decide +kernel) (by decide +kernel)
theorem wd_361 : (Jvm.Cond.instanceMethod ({ cls := "FoxBurrows", name := "newVersion", desc := "()I" } : Jvm.MethodName)) ∈ TB := zTB 361 (by decide +kernel) (by decide +kernel)
theorem wd_362 : (Jvm.Cond.code ({ cls := "FoxBurrows", name := "newVersion", desc := "()I" } : Jvm.MethodName) prog_1_method_53_code (1 : Nat) (Option.some Jvm.ClassFile.FieldType.int)) ∈ TB := zTB 362 (by decide +kernel) (by decide +kernel)
theorem wd_363 : (Jvm.Cond.methodLink "FoxBurrows" (88 : Nat) ({ cls := "FoxBurrows", name := "settled", desc := "(I)I" } : Jvm.MethodName)) ∈ TB := zTB 363 (by decide +kernel) (by decide +kernel)
theorem wd_365 : (Jvm.Cond.instanceMethod ({ cls := "FoxBurrows", name := "settled", desc := "(I)I" } : Jvm.MethodName)) ∈ TB := zTB 365 (by decide +kernel) (by decide +kernel)
theorem wd_366 : (Jvm.Cond.code ({ cls := "FoxBurrows", name := "settled", desc := "(I)I" } : Jvm.MethodName) prog_1_method_51_code (2 : Nat) (Option.some Jvm.ClassFile.FieldType.int)) ∈ TB := zTB 366 (by decide +kernel) (by decide +kernel)
theorem wd_367 : (Jvm.Cond.classLink "FoxBurrows" (433 : Nat) "java/lang/UnsupportedOperationException") ∈ TB := zTB 367 (by decide +kernel) (by decide +kernel)
theorem wd_439 : (Jvm.Cond.methodLink "FoxBurrows" (438 : Nat) ({ cls := "FoxBurrows$Changes", name := "keep", desc := "(LFoxBurrows$State;)V" } : Jvm.MethodName)) ∈ TB := zTB 439 (by decide +kernel) (by decide +kernel)
theorem wd_440 : (Jvm.Cond.instanceMethod ({ cls := "FoxBurrows$Changes", name := "keep", desc := "(LFoxBurrows$State;)V" } : Jvm.MethodName)) ∈ TB := zTB 440 (by decide +kernel) (by decide +kernel)
theorem wd_441 : (Jvm.Cond.selects "FoxBurrows$Changes" ({ cls := "FoxBurrows$Changes", name := "keep", desc := "(LFoxBurrows$State;)V" } : Jvm.MethodName) ({ cls := "FoxBurrows$Changes", name := "keep", desc := "(LFoxBurrows$State;)V" } : Jvm.MethodName)) ∈ TB := zTB 441 (by decide +kernel) (by decide +kernel)
theorem wd_442 : (Jvm.Cond.code ({ cls := "FoxBurrows$Changes", name := "keep", desc := "(LFoxBurrows$State;)V" } : Jvm.MethodName) prog_2_method_2_code (3 : Nat) (Option.none : Option Jvm.ClassFile.FieldType)) ∈ TB := zTB 442 (by decide +kernel) (by decide +kernel)
theorem wd_443 : (Jvm.Cond.methodLink "FoxBurrows$Changes" (22 : Nat) ({ cls := "FoxBurrows$Changes", name := "placeAt", desc := "(I)LFoxBurrows$State;" } : Jvm.MethodName)) ∈ TB := zTB 443 (by decide +kernel) (by decide +kernel)
theorem wd_445 : (Jvm.Cond.instanceMethod ({ cls := "FoxBurrows$Changes", name := "placeAt", desc := "(I)LFoxBurrows$State;" } : Jvm.MethodName)) ∈ TB := zTB 445 (by decide +kernel) (by decide +kernel)
theorem wd_446 : (Jvm.Cond.code ({ cls := "FoxBurrows$Changes", name := "placeAt", desc := "(I)LFoxBurrows$State;" } : Jvm.MethodName) prog_2_method_4_code (2 : Nat) (Option.some (Jvm.ClassFile.FieldType.object "FoxBurrows$State"))) ∈ TB := zTB 446 (by decide +kernel) (by decide +kernel)
theorem wd_447 : (Jvm.Cond.methodLink "FoxBurrows$Changes" (26 : Nat) ({ cls := "FoxBurrows$State", name := "become", desc := "(LFoxBurrows$State;)V" } : Jvm.MethodName)) ∈ TB := zTB 447 (by decide +kernel) (by decide +kernel)
theorem wd_448 : (Jvm.Cond.methodLink "FoxBurrows$Changes" (33 : Nat) ({ cls := "java/lang/Math", name := "min", desc := "(II)I" } : Jvm.MethodName)) ∈ TB := zTB 448 (by decide +kernel) (by decide +kernel)
theorem wd_456 : (Jvm.Cond.methodLink "FoxBurrows" (92 : Nat) ({ cls := "FoxBurrows", name := "addPath", desc := "(II)I" } : Jvm.MethodName)) ∈ TB := zTB 456 (by decide +kernel) (by decide +kernel)
theorem wd_458 : (Jvm.Cond.instanceMethod ({ cls := "FoxBurrows", name := "addPath", desc := "(II)I" } : Jvm.MethodName)) ∈ TB := zTB 458 (by decide +kernel) (by decide +kernel)
theorem wd_459 : (Jvm.Cond.code ({ cls := "FoxBurrows", name := "addPath", desc := "(II)I" } : Jvm.MethodName) prog_1_method_39_code (4 : Nat) (Option.some Jvm.ClassFile.FieldType.int)) ∈ TB := zTB 459 (by decide +kernel) (by decide +kernel)
theorem wd_460 : (Jvm.Cond.methodLink "FoxBurrows" (408 : Nat) ({ cls := "FoxBurrows", name := "isRefusedFor", desc := "(I)Z" } : Jvm.MethodName)) ∈ TB := zTB 460 (by decide +kernel) (by decide +kernel)
theorem wd_462 : (Jvm.Cond.instanceMethod ({ cls := "FoxBurrows", name := "isRefusedFor", desc := "(I)Z" } : Jvm.MethodName)) ∈ TB := zTB 462 (by decide +kernel) (by decide +kernel)
theorem wd_463 : (Jvm.Cond.code ({ cls := "FoxBurrows", name := "isRefusedFor", desc := "(I)Z" } : Jvm.MethodName) prog_1_method_48_code (2 : Nat) (Option.some Jvm.ClassFile.FieldType.boolean)) ∈ TB := zTB 463 (by decide +kernel) (by decide +kernel)
theorem wd_464 : (Jvm.Cond.methodLink "FoxBurrows" (241 : Nat) ({ cls := "FoxBurrows$Field", name := "has", desc := "(I)Z" } : Jvm.MethodName)) ∈ TB := zTB 464 (by decide +kernel) (by decide +kernel)
theorem wd_465 : (Jvm.Cond.instanceMethod ({ cls := "FoxBurrows$Field", name := "has", desc := "(I)Z" } : Jvm.MethodName)) ∈ TB := zTB 465 (by decide +kernel) (by decide +kernel)
theorem wd_466 : (Jvm.Cond.selects "FoxBurrows$Field" ({ cls := "FoxBurrows$Field", name := "has", desc := "(I)Z" } : Jvm.MethodName) ({ cls := "FoxBurrows$Field", name := "has", desc := "(I)Z" } : Jvm.MethodName)) ∈ TB := zTB 466 (by decide +kernel) (by decide +kernel)
theorem wd_467 : (Jvm.Cond.code ({ cls := "FoxBurrows$Field", name := "has", desc := "(I)Z" } : Jvm.MethodName) prog_3_method_3_code (2 : Nat) (Option.some Jvm.ClassFile.FieldType.boolean)) ∈ TB := zTB 467 (by decide +kernel) (by decide +kernel)
theorem wd_468 : (Jvm.Cond.methodLink "FoxBurrows" (411 : Nat) ({ cls := "FoxBurrows$Field", name := "pathBetween", desc := "(II)I" } : Jvm.MethodName)) ∈ TB := zTB 468 (by decide +kernel) (by decide +kernel)
theorem wd_469 : (Jvm.Cond.instanceMethod ({ cls := "FoxBurrows$Field", name := "pathBetween", desc := "(II)I" } : Jvm.MethodName)) ∈ TB := zTB 469 (by decide +kernel) (by decide +kernel)
theorem wd_470 : (Jvm.Cond.selects "FoxBurrows$Field" ({ cls := "FoxBurrows$Field", name := "pathBetween", desc := "(II)I" } : Jvm.MethodName) ({ cls := "FoxBurrows$Field", name := "pathBetween", desc := "(II)I" } : Jvm.MethodName)) ∈ TB := zTB 470 (by decide +kernel) (by decide +kernel)
theorem wd_471 : (Jvm.Cond.code ({ cls := "FoxBurrows$Field", name := "pathBetween", desc := "(II)I" } : Jvm.MethodName) prog_3_method_5_code (6 : Nat) (Option.some Jvm.ClassFile.FieldType.int)) ∈ TB := zTB 471 (by decide +kernel) (by decide +kernel)
theorem wd_473 : (Jvm.Cond.static ({ cls := "FoxBurrows", name := "at", desc := "([II)I" } : Jvm.MethodName)) ∈ TB := zTB 473 (by decide +kernel) (by decide +kernel)
theorem wd_474 : (Jvm.Cond.code ({ cls := "FoxBurrows", name := "at", desc := "([II)I" } : Jvm.MethodName) prog_1_method_58_code (2 : Nat) (Option.some Jvm.ClassFile.FieldType.int)) ∈ TB := zTB 474 (by decide +kernel) (by decide +kernel)
theorem wd_475 : (Jvm.Cond.methodLink "FoxBurrows" (414 : Nat) ({ cls := "FoxBurrows$Field", name := "join", desc := "(II)V" } : Jvm.MethodName)) ∈ TB := zTB 475 (by decide +kernel) (by decide +kernel)
theorem wd_476 : (Jvm.Cond.instanceMethod ({ cls := "FoxBurrows$Field", name := "join", desc := "(II)V" } : Jvm.MethodName)) ∈ TB := zTB 476 (by decide +kernel) (by decide +kernel)
theorem wd_477 : (Jvm.Cond.selects "FoxBurrows$Field" ({ cls := "FoxBurrows$Field", name := "join", desc := "(II)V" } : Jvm.MethodName) ({ cls := "FoxBurrows$Field", name := "join", desc := "(II)V" } : Jvm.MethodName)) ∈ TB := zTB 477 (by decide +kernel) (by decide +kernel)
theorem wd_478 : (Jvm.Cond.code ({ cls := "FoxBurrows$Field", name := "join", desc := "(II)V" } : Jvm.MethodName) prog_3_method_6_code (3 : Nat) (Option.none : Option Jvm.ClassFile.FieldType)) ∈ TB := zTB 478 (by decide +kernel) (by decide +kernel)
theorem wd_480 : (Jvm.Cond.static ({ cls := "FoxBurrows", name := "put", desc := "([III)V" } : Jvm.MethodName)) ∈ TB := zTB 480 (by decide +kernel) (by decide +kernel)
theorem wd_481 : (Jvm.Cond.code ({ cls := "FoxBurrows", name := "put", desc := "([III)V" } : Jvm.MethodName) prog_1_method_59_code (3 : Nat) (Option.none : Option Jvm.ClassFile.FieldType)) ∈ TB := zTB 481 (by decide +kernel) (by decide +kernel)
theorem wd_482 : (Jvm.Cond.methodLink "FoxBurrows$Field" (53 : Nat) ({ cls := "FoxBurrows$Field", name := "turnNear", desc := "(II)V" } : Jvm.MethodName)) ∈ TB := zTB 482 (by decide +kernel) (by decide +kernel)
theorem wd_483 : (Jvm.Cond.instanceMethod ({ cls := "FoxBurrows$Field", name := "turnNear", desc := "(II)V" } : Jvm.MethodName)) ∈ TB := zTB 483 (by decide +kernel) (by decide +kernel)
theorem wd_484 : (Jvm.Cond.selects "FoxBurrows$Field" ({ cls := "FoxBurrows$Field", name := "turnNear", desc := "(II)V" } : Jvm.MethodName) ({ cls := "FoxBurrows$Field", name := "turnNear", desc := "(II)V" } : Jvm.MethodName)) ∈ TB := zTB 484 (by decide +kernel) (by decide +kernel)
theorem wd_485 : (Jvm.Cond.code ({ cls := "FoxBurrows$Field", name := "turnNear", desc := "(II)V" } : Jvm.MethodName) prog_3_method_8_code (3 : Nat) (Option.none : Option Jvm.ClassFile.FieldType)) ∈ TB := zTB 485 (by decide +kernel) (by decide +kernel)
theorem wd_487 : (Jvm.Cond.static ({ cls := "FoxBurrows", name := "bitOf", desc := "(I)I" } : Jvm.MethodName)) ∈ TB := zTB 487 (by decide +kernel) (by decide +kernel)
theorem wd_488 : (Jvm.Cond.code ({ cls := "FoxBurrows", name := "bitOf", desc := "(I)I" } : Jvm.MethodName) prog_1_method_74_code (1 : Nat) (Option.some Jvm.ClassFile.FieldType.int)) ∈ TB := zTB 488 (by decide +kernel) (by decide +kernel)
theorem wd_496 : (Jvm.Cond.methodLink "FoxBurrows" (96 : Nat) ({ cls := "FoxBurrows", name := "dropPath", desc := "(II)I" } : Jvm.MethodName)) ∈ TB := zTB 496 (by decide +kernel) (by decide +kernel)
theorem wd_498 : (Jvm.Cond.instanceMethod ({ cls := "FoxBurrows", name := "dropPath", desc := "(II)I" } : Jvm.MethodName)) ∈ TB := zTB 498 (by decide +kernel) (by decide +kernel)
theorem wd_499 : (Jvm.Cond.code ({ cls := "FoxBurrows", name := "dropPath", desc := "(II)I" } : Jvm.MethodName) prog_1_method_40_code (5 : Nat) (Option.some Jvm.ClassFile.FieldType.int)) ∈ TB := zTB 499 (by decide +kernel) (by decide +kernel)
theorem wd_500 : (Jvm.Cond.methodLink "FoxBurrows" (417 : Nat) ({ cls := "FoxBurrows$Field", name := "part", desc := "(I)V" } : Jvm.MethodName)) ∈ TB := zTB 500 (by decide +kernel) (by decide +kernel)
theorem wd_501 : (Jvm.Cond.instanceMethod ({ cls := "FoxBurrows$Field", name := "part", desc := "(I)V" } : Jvm.MethodName)) ∈ TB := zTB 501 (by decide +kernel) (by decide +kernel)
theorem wd_502 : (Jvm.Cond.selects "FoxBurrows$Field" ({ cls := "FoxBurrows$Field", name := "part", desc := "(I)V" } : Jvm.MethodName) ({ cls := "FoxBurrows$Field", name := "part", desc := "(I)V" } : Jvm.MethodName)) ∈ TB := zTB 502 (by decide +kernel) (by decide +kernel)
theorem wd_503 : (Jvm.Cond.code ({ cls := "FoxBurrows$Field", name := "part", desc := "(I)V" } : Jvm.MethodName) prog_3_method_7_code (3 : Nat) (Option.none : Option Jvm.ClassFile.FieldType)) ∈ TB := zTB 503 (by decide +kernel) (by decide +kernel)
theorem wd_511 : (Jvm.Cond.methodLink "FoxBurrows" (103 : Nat) ({ cls := "FoxBurrows", name := "setGeese", desc := "(I)I" } : Jvm.MethodName)) ∈ TB := zTB 511 (by decide +kernel) (by decide +kernel)
theorem wd_513 : (Jvm.Cond.instanceMethod ({ cls := "FoxBurrows", name := "setGeese", desc := "(I)I" } : Jvm.MethodName)) ∈ TB := zTB 513 (by decide +kernel) (by decide +kernel)
theorem wd_514 : (Jvm.Cond.code ({ cls := "FoxBurrows", name := "setGeese", desc := "(I)I" } : Jvm.MethodName) prog_1_method_42_code (3 : Nat) (Option.some Jvm.ClassFile.FieldType.int)) ∈ TB := zTB 514 (by decide +kernel) (by decide +kernel)
theorem wd_547 : (Jvm.Cond.classLink "FoxBurrows" (245 : Nat) "java/lang/IndexOutOfBoundsException") ∈ TB := zTB 547 (by decide +kernel) (by decide +kernel)
theorem wd_560 : (Jvm.Cond.classLink "FoxBurrows" (151 : Nat) "java/lang/IllegalArgumentException") ∈ TB := zTB 560 (by decide +kernel) (by decide +kernel)
theorem wd_576 : (Jvm.Cond.methodLink "FoxBurrows" (282 : Nat) ({ cls := "FoxBurrows", name := "at", desc := "([II)I" } : Jvm.MethodName)) ∈ TB := zTB 576 (by decide +kernel) (by decide +kernel)
theorem wd_577 : (Jvm.Cond.methodLink "FoxBurrows" (286 : Nat) ({ cls := "java/lang/Integer", name := "bitCount", desc := "(I)I" } : Jvm.MethodName)) ∈ TB := zTB 577 (by decide +kernel) (by decide +kernel)
theorem wd_578 : (Jvm.Cond.static ({ cls := "java/lang/Integer", name := "bitCount", desc := "(I)I" } : Jvm.MethodName)) ∈ TB := zTB 578 (by decide +kernel) (by decide +kernel)
theorem wd_579 : (Jvm.Cond.code ({ cls := "java/lang/Integer", name := "bitCount", desc := "(I)I" } : Jvm.MethodName) prog_27_method_49_code (1 : Nat) (Option.some Jvm.ClassFile.FieldType.int)) ∈ TB := zTB 579 (by decide +kernel) (by decide +kernel)
theorem wd_580 : (Jvm.Cond.constant "java/lang/Integer" (265 : Nat) (1431655765 : Int32)) ∈ TB := zTB 580 (by decide +kernel) (by decide +kernel)
theorem wd_581 : (Jvm.Cond.constant "java/lang/Integer" (266 : Nat) (858993459 : Int32)) ∈ TB := zTB 581 (by decide +kernel) (by decide +kernel)
theorem wd_582 : (Jvm.Cond.constant "java/lang/Integer" (267 : Nat) (252645135 : Int32)) ∈ TB := zTB 582 (by decide +kernel) (by decide +kernel)
theorem wd_583 : (Jvm.Cond.methodLink "FoxBurrows" (290 : Nat) ({ cls := "FoxBurrows", name := "above", desc := "(I)I" } : Jvm.MethodName)) ∈ TB := zTB 583 (by decide +kernel) (by decide +kernel)
theorem wd_584 : (Jvm.Cond.static ({ cls := "FoxBurrows", name := "above", desc := "(I)I" } : Jvm.MethodName)) ∈ TB := zTB 584 (by decide +kernel) (by decide +kernel)
theorem wd_585 : (Jvm.Cond.code ({ cls := "FoxBurrows", name := "above", desc := "(I)I" } : Jvm.MethodName) prog_1_method_72_code (1 : Nat) (Option.some Jvm.ClassFile.FieldType.int)) ∈ TB := zTB 585 (by decide +kernel) (by decide +kernel)
theorem wd_586 : (Jvm.Cond.methodLink "FoxBurrows" (293 : Nat) ({ cls := "FoxBurrows$Field", name := "isTrap", desc := "(I)Z" } : Jvm.MethodName)) ∈ TB := zTB 586 (by decide +kernel) (by decide +kernel)
theorem wd_587 : (Jvm.Cond.instanceMethod ({ cls := "FoxBurrows$Field", name := "isTrap", desc := "(I)Z" } : Jvm.MethodName)) ∈ TB := zTB 587 (by decide +kernel) (by decide +kernel)
theorem wd_588 : (Jvm.Cond.selects "FoxBurrows$Field" ({ cls := "FoxBurrows$Field", name := "isTrap", desc := "(I)Z" } : Jvm.MethodName) ({ cls := "FoxBurrows$Field", name := "isTrap", desc := "(I)Z" } : Jvm.MethodName)) ∈ TB := zTB 588 (by decide +kernel) (by decide +kernel)
theorem wd_589 : (Jvm.Cond.code ({ cls := "FoxBurrows$Field", name := "isTrap", desc := "(I)Z" } : Jvm.MethodName) prog_3_method_4_code (2 : Nat) (Option.some Jvm.ClassFile.FieldType.boolean)) ∈ TB := zTB 589 (by decide +kernel) (by decide +kernel)
theorem wd_590 : (Jvm.Cond.methodLink "FoxBurrows" (296 : Nat) ({ cls := "FoxBurrows", name := "winsOfFoxOn", desc := "(I)I" } : Jvm.MethodName)) ∈ TB := zTB 590 (by decide +kernel) (by decide +kernel)
theorem wd_592 : (Jvm.Cond.instanceMethod ({ cls := "FoxBurrows", name := "winsOfFoxOn", desc := "(I)I" } : Jvm.MethodName)) ∈ TB := zTB 592 (by decide +kernel) (by decide +kernel)
theorem wd_593 : (Jvm.Cond.code ({ cls := "FoxBurrows", name := "winsOfFoxOn", desc := "(I)I" } : Jvm.MethodName) prog_1_method_56_code (5 : Nat) (Option.some Jvm.ClassFile.FieldType.int)) ∈ TB := zTB 593 (by decide +kernel) (by decide +kernel)
theorem wd_594 : (Jvm.Cond.methodLink "FoxBurrows" (182 : Nat) ({ cls := "FoxBurrows$Table", name := "solve", desc := "(LFoxBurrows$Field;)V" } : Jvm.MethodName)) ∈ TB := zTB 594 (by decide +kernel) (by decide +kernel)
theorem wd_595 : (Jvm.Cond.instanceMethod ({ cls := "FoxBurrows$Table", name := "solve", desc := "(LFoxBurrows$Field;)V" } : Jvm.MethodName)) ∈ TB := zTB 595 (by decide +kernel) (by decide +kernel)
theorem wd_596 : (Jvm.Cond.selects "FoxBurrows$Table" ({ cls := "FoxBurrows$Table", name := "solve", desc := "(LFoxBurrows$Field;)V" } : Jvm.MethodName) ({ cls := "FoxBurrows$Table", name := "solve", desc := "(LFoxBurrows$Field;)V" } : Jvm.MethodName)) ∈ TB := zTB 596 (by decide +kernel) (by decide +kernel)
theorem wd_597 : (Jvm.Cond.code ({ cls := "FoxBurrows$Table", name := "solve", desc := "(LFoxBurrows$Field;)V" } : Jvm.MethodName) prog_9_method_2_code (6 : Nat) (Option.none : Option Jvm.ClassFile.FieldType)) ∈ TB := zTB 597 (by decide +kernel) (by decide +kernel)
theorem wd_598 : (Jvm.Cond.methodLink "FoxBurrows$Table" (33 : Nat) ({ cls := "FoxBurrows$Field", name := "listPositions", desc := "([I)I" } : Jvm.MethodName)) ∈ TB := zTB 598 (by decide +kernel) (by decide +kernel)
theorem wd_599 : (Jvm.Cond.instanceMethod ({ cls := "FoxBurrows$Field", name := "listPositions", desc := "([I)I" } : Jvm.MethodName)) ∈ TB := zTB 599 (by decide +kernel) (by decide +kernel)
theorem wd_600 : (Jvm.Cond.selects "FoxBurrows$Field" ({ cls := "FoxBurrows$Field", name := "listPositions", desc := "([I)I" } : Jvm.MethodName) ({ cls := "FoxBurrows$Field", name := "listPositions", desc := "([I)I" } : Jvm.MethodName)) ∈ TB := zTB 600 (by decide +kernel) (by decide +kernel)
theorem wd_601 : (Jvm.Cond.code ({ cls := "FoxBurrows$Field", name := "listPositions", desc := "([I)I" } : Jvm.MethodName) prog_3_method_11_code (6 : Nat) (Option.some Jvm.ClassFile.FieldType.int)) ∈ TB := zTB 601 (by decide +kernel) (by decide +kernel)
theorem wd_602 : (Jvm.Cond.methodLink "FoxBurrows$Field" (70 : Nat) ({ cls := "FoxBurrows$Field", name := "fits", desc := "(III)Z" } : Jvm.MethodName)) ∈ TB := zTB 602 (by decide +kernel) (by decide +kernel)
theorem wd_603 : (Jvm.Cond.instanceMethod ({ cls := "FoxBurrows$Field", name := "fits", desc := "(III)Z" } : Jvm.MethodName)) ∈ TB := zTB 603 (by decide +kernel) (by decide +kernel)
theorem wd_604 : (Jvm.Cond.selects "FoxBurrows$Field" ({ cls := "FoxBurrows$Field", name := "fits", desc := "(III)Z" } : Jvm.MethodName) ({ cls := "FoxBurrows$Field", name := "fits", desc := "(III)Z" } : Jvm.MethodName)) ∈ TB := zTB 604 (by decide +kernel) (by decide +kernel)
theorem wd_605 : (Jvm.Cond.code ({ cls := "FoxBurrows$Field", name := "fits", desc := "(III)Z" } : Jvm.MethodName) prog_3_method_9_code (4 : Nat) (Option.some Jvm.ClassFile.FieldType.boolean)) ∈ TB := zTB 605 (by decide +kernel) (by decide +kernel)
theorem wd_606 : (Jvm.Cond.methodLink "FoxBurrows$Field" (57 : Nat) ({ cls := "FoxBurrows$Field", name := "has", desc := "(I)Z" } : Jvm.MethodName)) ∈ TB := zTB 606 (by decide +kernel) (by decide +kernel)
theorem wd_608 : (Jvm.Cond.static ({ cls := "FoxBurrows", name := "numberOf", desc := "(IIII)I" } : Jvm.MethodName)) ∈ TB := zTB 608 (by decide +kernel) (by decide +kernel)
theorem wd_609 : (Jvm.Cond.code ({ cls := "FoxBurrows", name := "numberOf", desc := "(IIII)I" } : Jvm.MethodName) prog_1_method_61_code (4 : Nat) (Option.some Jvm.ClassFile.FieldType.int)) ∈ TB := zTB 609 (by decide +kernel) (by decide +kernel)
theorem wd_611 : (Jvm.Cond.methodLink "FoxBurrows$Table" (44 : Nat) ({ cls := "FoxBurrows$Field", name := "movesOf", desc := "(I)J" } : Jvm.MethodName)) ∈ TB := zTB 611 (by decide +kernel) (by decide +kernel)
theorem wd_612 : (Jvm.Cond.instanceMethod ({ cls := "FoxBurrows$Field", name := "movesOf", desc := "(I)J" } : Jvm.MethodName)) ∈ TB := zTB 612 (by decide +kernel) (by decide +kernel)
theorem wd_613 : (Jvm.Cond.selects "FoxBurrows$Field" ({ cls := "FoxBurrows$Field", name := "movesOf", desc := "(I)J" } : Jvm.MethodName) ({ cls := "FoxBurrows$Field", name := "movesOf", desc := "(I)J" } : Jvm.MethodName)) ∈ TB := zTB 613 (by decide +kernel) (by decide +kernel)
theorem wd_614 : (Jvm.Cond.code ({ cls := "FoxBurrows$Field", name := "movesOf", desc := "(I)J" } : Jvm.MethodName) prog_3_method_12_code (5 : Nat) (Option.some Jvm.ClassFile.FieldType.long)) ∈ TB := zTB 614 (by decide +kernel) (by decide +kernel)
theorem wd_616 : (Jvm.Cond.static ({ cls := "FoxBurrows", name := "firstOf", desc := "(I)I" } : Jvm.MethodName)) ∈ TB := zTB 616 (by decide +kernel) (by decide +kernel)
theorem wd_617 : (Jvm.Cond.code ({ cls := "FoxBurrows", name := "firstOf", desc := "(I)I" } : Jvm.MethodName) prog_1_method_63_code (1 : Nat) (Option.some Jvm.ClassFile.FieldType.int)) ∈ TB := zTB 617 (by decide +kernel) (by decide +kernel)
theorem wd_619 : (Jvm.Cond.static ({ cls := "FoxBurrows", name := "secondOf", desc := "(I)I" } : Jvm.MethodName)) ∈ TB := zTB 619 (by decide +kernel) (by decide +kernel)
theorem wd_620 : (Jvm.Cond.code ({ cls := "FoxBurrows", name := "secondOf", desc := "(I)I" } : Jvm.MethodName) prog_1_method_64_code (1 : Nat) (Option.some Jvm.ClassFile.FieldType.int)) ∈ TB := zTB 620 (by decide +kernel) (by decide +kernel)
theorem wd_621 : (Jvm.Cond.methodLink "FoxBurrows$Field" (78 : Nat) ({ cls := "FoxBurrows$Field", name := "taken", desc := "(I)I" } : Jvm.MethodName)) ∈ TB := zTB 621 (by decide +kernel) (by decide +kernel)
theorem wd_623 : (Jvm.Cond.instanceMethod ({ cls := "FoxBurrows$Field", name := "taken", desc := "(I)I" } : Jvm.MethodName)) ∈ TB := zTB 623 (by decide +kernel) (by decide +kernel)
theorem wd_624 : (Jvm.Cond.code ({ cls := "FoxBurrows$Field", name := "taken", desc := "(I)I" } : Jvm.MethodName) prog_3_method_15_code (2 : Nat) (Option.some Jvm.ClassFile.FieldType.int)) ∈ TB := zTB 624 (by decide +kernel) (by decide +kernel)
theorem wd_626 : (Jvm.Cond.static ({ cls := "FoxBurrows", name := "foxOf", desc := "(I)I" } : Jvm.MethodName)) ∈ TB := zTB 626 (by decide +kernel) (by decide +kernel)
theorem wd_627 : (Jvm.Cond.code ({ cls := "FoxBurrows", name := "foxOf", desc := "(I)I" } : Jvm.MethodName) prog_1_method_62_code (1 : Nat) (Option.some Jvm.ClassFile.FieldType.int)) ∈ TB := zTB 627 (by decide +kernel) (by decide +kernel)
theorem wd_629 : (Jvm.Cond.static ({ cls := "FoxBurrows", name := "turnOf", desc := "(I)I" } : Jvm.MethodName)) ∈ TB := zTB 629 (by decide +kernel) (by decide +kernel)
theorem wd_630 : (Jvm.Cond.code ({ cls := "FoxBurrows", name := "turnOf", desc := "(I)I" } : Jvm.MethodName) prog_1_method_65_code (1 : Nat) (Option.some Jvm.ClassFile.FieldType.int)) ∈ TB := zTB 630 (by decide +kernel) (by decide +kernel)
theorem wd_631 : (Jvm.Cond.methodLink "FoxBurrows$Field" (84 : Nat) ({ cls := "FoxBurrows$Field", name := "moves", desc := "(II)J" } : Jvm.MethodName)) ∈ TB := zTB 631 (by decide +kernel) (by decide +kernel)
theorem wd_633 : (Jvm.Cond.instanceMethod ({ cls := "FoxBurrows$Field", name := "moves", desc := "(II)J" } : Jvm.MethodName)) ∈ TB := zTB 633 (by decide +kernel) (by decide +kernel)
theorem wd_634 : (Jvm.Cond.code ({ cls := "FoxBurrows$Field", name := "moves", desc := "(II)J" } : Jvm.MethodName) prog_3_method_16_code (3 : Nat) (Option.some Jvm.ClassFile.FieldType.long)) ∈ TB := zTB 634 (by decide +kernel) (by decide +kernel)
theorem wd_636 : (Jvm.Cond.methodLink "FoxBurrows$Table" (48 : Nat) ({ cls := "java/lang/Long", name := "bitCount", desc := "(J)I" } : Jvm.MethodName)) ∈ TB := zTB 636 (by decide +kernel) (by decide +kernel)
theorem wd_637 : (Jvm.Cond.static ({ cls := "java/lang/Long", name := "bitCount", desc := "(J)I" } : Jvm.MethodName)) ∈ TB := zTB 637 (by decide +kernel) (by decide +kernel)
theorem wd_638 : (Jvm.Cond.code ({ cls := "java/lang/Long", name := "bitCount", desc := "(J)I" } : Jvm.MethodName) prog_28_method_50_code (2 : Nat) (Option.some Jvm.ClassFile.FieldType.int)) ∈ TB := zTB 638 (by decide +kernel) (by decide +kernel)
theorem wd_639 : (Jvm.Cond.constantLong "java/lang/Long" (314 : Nat) (6148914691236517205 : Int64)) ∈ TB := zTB 639 (by decide +kernel) (by decide +kernel)
theorem wd_640 : (Jvm.Cond.constantLong "java/lang/Long" (316 : Nat) (3689348814741910323 : Int64)) ∈ TB := zTB 640 (by decide +kernel) (by decide +kernel)
theorem wd_641 : (Jvm.Cond.constantLong "java/lang/Long" (318 : Nat) (1085102592571150095 : Int64)) ∈ TB := zTB 641 (by decide +kernel) (by decide +kernel)
theorem wd_643 : (Jvm.Cond.methodLink "FoxBurrows$Table" (58 : Nat) ({ cls := "FoxBurrows$Field", name := "waysBack", desc := "(I)J" } : Jvm.MethodName)) ∈ TB := zTB 643 (by decide +kernel) (by decide +kernel)
theorem wd_644 : (Jvm.Cond.instanceMethod ({ cls := "FoxBurrows$Field", name := "waysBack", desc := "(I)J" } : Jvm.MethodName)) ∈ TB := zTB 644 (by decide +kernel) (by decide +kernel)
theorem wd_645 : (Jvm.Cond.selects "FoxBurrows$Field" ({ cls := "FoxBurrows$Field", name := "waysBack", desc := "(I)J" } : Jvm.MethodName) ({ cls := "FoxBurrows$Field", name := "waysBack", desc := "(I)J" } : Jvm.MethodName)) ∈ TB := zTB 645 (by decide +kernel) (by decide +kernel)
theorem wd_646 : (Jvm.Cond.code ({ cls := "FoxBurrows$Field", name := "waysBack", desc := "(I)J" } : Jvm.MethodName) prog_3_method_13_code (8 : Nat) (Option.some Jvm.ClassFile.FieldType.long)) ∈ TB := zTB 646 (by decide +kernel) (by decide +kernel)
theorem wd_647 : (Jvm.Cond.methodLink "FoxBurrows$Field" (91 : Nat) ({ cls := "FoxBurrows$Field", name := "isTrap", desc := "(I)Z" } : Jvm.MethodName)) ∈ TB := zTB 647 (by decide +kernel) (by decide +kernel)
theorem wd_649 : (Jvm.Cond.static ({ cls := "FoxBurrows", name := "below", desc := "(I)I" } : Jvm.MethodName)) ∈ TB := zTB 649 (by decide +kernel) (by decide +kernel)
theorem wd_650 : (Jvm.Cond.code ({ cls := "FoxBurrows", name := "below", desc := "(I)I" } : Jvm.MethodName) prog_1_method_73_code (1 : Nat) (Option.some Jvm.ClassFile.FieldType.int)) ∈ TB := zTB 650 (by decide +kernel) (by decide +kernel)
theorem wd_651 : (Jvm.Cond.methodLink "FoxBurrows$Table" (61 : Nat) ({ cls := "FoxBurrows$Table", name := "tellBefore", desc := "(IJI)I" } : Jvm.MethodName)) ∈ TB := zTB 651 (by decide +kernel) (by decide +kernel)
theorem wd_653 : (Jvm.Cond.instanceMethod ({ cls := "FoxBurrows$Table", name := "tellBefore", desc := "(IJI)I" } : Jvm.MethodName)) ∈ TB := zTB 653 (by decide +kernel) (by decide +kernel)
theorem wd_654 : (Jvm.Cond.code ({ cls := "FoxBurrows$Table", name := "tellBefore", desc := "(IJI)I" } : Jvm.MethodName) prog_9_method_3_code (13 : Nat) (Option.some Jvm.ClassFile.FieldType.int)) ∈ TB := zTB 654 (by decide +kernel) (by decide +kernel)
theorem wd_656 : (Jvm.Cond.static ({ cls := "FoxBurrows", name := "firstMove", desc := "(J)I" } : Jvm.MethodName)) ∈ TB := zTB 656 (by decide +kernel) (by decide +kernel)
theorem wd_657 : (Jvm.Cond.code ({ cls := "FoxBurrows", name := "firstMove", desc := "(J)I" } : Jvm.MethodName) prog_1_method_70_code (2 : Nat) (Option.some Jvm.ClassFile.FieldType.int)) ∈ TB := zTB 657 (by decide +kernel) (by decide +kernel)
theorem wd_658 : (Jvm.Cond.methodLink "FoxBurrows" (176 : Nat) ({ cls := "java/lang/Long", name := "bitCount", desc := "(J)I" } : Jvm.MethodName)) ∈ TB := zTB 658 (by decide +kernel) (by decide +kernel)
theorem wd_660 : (Jvm.Cond.static ({ cls := "FoxBurrows", name := "withoutFirst", desc := "(J)J" } : Jvm.MethodName)) ∈ TB := zTB 660 (by decide +kernel) (by decide +kernel)
theorem wd_661 : (Jvm.Cond.code ({ cls := "FoxBurrows", name := "withoutFirst", desc := "(J)J" } : Jvm.MethodName) prog_1_method_71_code (2 : Nat) (Option.some Jvm.ClassFile.FieldType.long)) ∈ TB := zTB 661 (by decide +kernel) (by decide +kernel)
theorem wd_663 : (Jvm.Cond.static ({ cls := "FoxBurrows", name := "fromOf", desc := "(I)I" } : Jvm.MethodName)) ∈ TB := zTB 663 (by decide +kernel) (by decide +kernel)
theorem wd_664 : (Jvm.Cond.code ({ cls := "FoxBurrows", name := "fromOf", desc := "(I)I" } : Jvm.MethodName) prog_1_method_68_code (1 : Nat) (Option.some Jvm.ClassFile.FieldType.int)) ∈ TB := zTB 664 (by decide +kernel) (by decide +kernel)
theorem wd_666 : (Jvm.Cond.static ({ cls := "FoxBurrows", name := "toOf", desc := "(I)I" } : Jvm.MethodName)) ∈ TB := zTB 666 (by decide +kernel) (by decide +kernel)
theorem wd_667 : (Jvm.Cond.code ({ cls := "FoxBurrows", name := "toOf", desc := "(I)I" } : Jvm.MethodName) prog_1_method_69_code (1 : Nat) (Option.some Jvm.ClassFile.FieldType.int)) ∈ TB := zTB 667 (by decide +kernel) (by decide +kernel)
theorem wd_669 : (Jvm.Cond.static ({ cls := "FoxBurrows", name := "shifted", desc := "(III)I" } : Jvm.MethodName)) ∈ TB := zTB 669 (by decide +kernel) (by decide +kernel)
theorem wd_670 : (Jvm.Cond.code ({ cls := "FoxBurrows", name := "shifted", desc := "(III)I" } : Jvm.MethodName) prog_1_method_66_code (8 : Nat) (Option.some Jvm.ClassFile.FieldType.int)) ∈ TB := zTB 670 (by decide +kernel) (by decide +kernel)
theorem wd_671 : (Jvm.Cond.methodLink "FoxBurrows" (160 : Nat) ({ cls := "FoxBurrows", name := "foxOf", desc := "(I)I" } : Jvm.MethodName)) ∈ TB := zTB 671 (by decide +kernel) (by decide +kernel)
theorem wd_672 : (Jvm.Cond.methodLink "FoxBurrows" (163 : Nat) ({ cls := "FoxBurrows", name := "firstOf", desc := "(I)I" } : Jvm.MethodName)) ∈ TB := zTB 672 (by decide +kernel) (by decide +kernel)
theorem wd_673 : (Jvm.Cond.methodLink "FoxBurrows" (166 : Nat) ({ cls := "FoxBurrows", name := "secondOf", desc := "(I)I" } : Jvm.MethodName)) ∈ TB := zTB 673 (by decide +kernel) (by decide +kernel)
theorem wd_674 : (Jvm.Cond.methodLink "FoxBurrows" (169 : Nat) ({ cls := "FoxBurrows", name := "turnOf", desc := "(I)I" } : Jvm.MethodName)) ∈ TB := zTB 674 (by decide +kernel) (by decide +kernel)
theorem wd_675 : (Jvm.Cond.methodLink "FoxBurrows" (147 : Nat) ({ cls := "FoxBurrows", name := "numberOf", desc := "(IIII)I" } : Jvm.MethodName)) ∈ TB := zTB 675 (by decide +kernel) (by decide +kernel)
theorem wd_676 : (Jvm.Cond.methodLink "FoxBurrows" (444 : Nat) ({ cls := "java/lang/Math", name := "max", desc := "(II)I" } : Jvm.MethodName)) ∈ TB := zTB 676 (by decide +kernel) (by decide +kernel)
theorem wd_677 : (Jvm.Cond.static ({ cls := "java/lang/Math", name := "max", desc := "(II)I" } : Jvm.MethodName)) ∈ TB := zTB 677 (by decide +kernel) (by decide +kernel)
theorem wd_678 : (Jvm.Cond.code ({ cls := "java/lang/Math", name := "max", desc := "(II)I" } : Jvm.MethodName) prog_29_method_65_code (2 : Nat) (Option.some Jvm.ClassFile.FieldType.int)) ∈ TB := zTB 678 (by decide +kernel) (by decide +kernel)
theorem wd_679 : (Jvm.Cond.methodLink "FoxBurrows$Table" (83 : Nat) ({ cls := "FoxBurrows$Table", name := "isDecided", desc := "(II)Z" } : Jvm.MethodName)) ∈ TB := zTB 679 (by decide +kernel) (by decide +kernel)
theorem wd_681 : (Jvm.Cond.instanceMethod ({ cls := "FoxBurrows$Table", name := "isDecided", desc := "(II)Z" } : Jvm.MethodName)) ∈ TB := zTB 681 (by decide +kernel) (by decide +kernel)
theorem wd_682 : (Jvm.Cond.code ({ cls := "FoxBurrows$Table", name := "isDecided", desc := "(II)Z" } : Jvm.MethodName) prog_9_method_4_code (4 : Nat) (Option.some Jvm.ClassFile.FieldType.boolean)) ∈ TB := zTB 682 (by decide +kernel) (by decide +kernel)
theorem wd_683 : (Jvm.Cond.methodLink "FoxBurrows" (231 : Nat) ({ cls := "FoxBurrows$Table", name := "positionAt", desc := "(I)I" } : Jvm.MethodName)) ∈ TB := zTB 683 (by decide +kernel) (by decide +kernel)
theorem wd_684 : (Jvm.Cond.instanceMethod ({ cls := "FoxBurrows$Table", name := "positionAt", desc := "(I)I" } : Jvm.MethodName)) ∈ TB := zTB 684 (by decide +kernel) (by decide +kernel)
theorem wd_685 : (Jvm.Cond.selects "FoxBurrows$Table" ({ cls := "FoxBurrows$Table", name := "positionAt", desc := "(I)I" } : Jvm.MethodName) ({ cls := "FoxBurrows$Table", name := "positionAt", desc := "(I)I" } : Jvm.MethodName)) ∈ TB := zTB 685 (by decide +kernel) (by decide +kernel)
theorem wd_686 : (Jvm.Cond.code ({ cls := "FoxBurrows$Table", name := "positionAt", desc := "(I)I" } : Jvm.MethodName) prog_9_method_5_code (2 : Nat) (Option.some Jvm.ClassFile.FieldType.int)) ∈ TB := zTB 686 (by decide +kernel) (by decide +kernel)
theorem wd_687 : (Jvm.Cond.methodLink "FoxBurrows" (271 : Nat) ({ cls := "FoxBurrows$Table", name := "isFoxWinning", desc := "(I)Z" } : Jvm.MethodName)) ∈ TB := zTB 687 (by decide +kernel) (by decide +kernel)
theorem wd_688 : (Jvm.Cond.instanceMethod ({ cls := "FoxBurrows$Table", name := "isFoxWinning", desc := "(I)Z" } : Jvm.MethodName)) ∈ TB := zTB 688 (by decide +kernel) (by decide +kernel)
theorem wd_689 : (Jvm.Cond.selects "FoxBurrows$Table" ({ cls := "FoxBurrows$Table", name := "isFoxWinning", desc := "(I)Z" } : Jvm.MethodName) ({ cls := "FoxBurrows$Table", name := "isFoxWinning", desc := "(I)Z" } : Jvm.MethodName)) ∈ TB := zTB 689 (by decide +kernel) (by decide +kernel)
theorem wd_690 : (Jvm.Cond.code ({ cls := "FoxBurrows$Table", name := "isFoxWinning", desc := "(I)Z" } : Jvm.MethodName) prog_9_method_8_code (2 : Nat) (Option.some Jvm.ClassFile.FieldType.boolean)) ∈ TB := zTB 690 (by decide +kernel) (by decide +kernel)
theorem wd_691 : (Jvm.Cond.methodLink "FoxBurrows$Table" (87 : Nat) ({ cls := "FoxBurrows$Table", name := "outcomeOf", desc := "(I)I" } : Jvm.MethodName)) ∈ TB := zTB 691 (by decide +kernel) (by decide +kernel)
theorem wd_692 : (Jvm.Cond.instanceMethod ({ cls := "FoxBurrows$Table", name := "outcomeOf", desc := "(I)I" } : Jvm.MethodName)) ∈ TB := zTB 692 (by decide +kernel) (by decide +kernel)
theorem wd_693 : (Jvm.Cond.selects "FoxBurrows$Table" ({ cls := "FoxBurrows$Table", name := "outcomeOf", desc := "(I)I" } : Jvm.MethodName) ({ cls := "FoxBurrows$Table", name := "outcomeOf", desc := "(I)I" } : Jvm.MethodName)) ∈ TB := zTB 693 (by decide +kernel) (by decide +kernel)
theorem wd_694 : (Jvm.Cond.code ({ cls := "FoxBurrows$Table", name := "outcomeOf", desc := "(I)I" } : Jvm.MethodName) prog_9_method_7_code (3 : Nat) (Option.some Jvm.ClassFile.FieldType.int)) ∈ TB := zTB 694 (by decide +kernel) (by decide +kernel)
theorem wd_712 : (Jvm.Cond.classLink "FoxBurrows" (339 : Nat) "java/lang/IllegalStateException") ∈ TB := zTB 712 (by decide +kernel) (by decide +kernel)
theorem wd_728 : (Jvm.Cond.methodLink "FoxBurrows" (344 : Nat) ({ cls := "FoxBurrows$Text", name := "add", desc := "(C)V" } : Jvm.MethodName)) ∈ TB := zTB 728 (by decide +kernel) (by decide +kernel)
theorem wd_729 : (Jvm.Cond.instanceMethod ({ cls := "FoxBurrows$Text", name := "add", desc := "(C)V" } : Jvm.MethodName)) ∈ TB := zTB 729 (by decide +kernel) (by decide +kernel)
theorem wd_730 : (Jvm.Cond.selects "FoxBurrows$Text" ({ cls := "FoxBurrows$Text", name := "add", desc := "(C)V" } : Jvm.MethodName) ({ cls := "FoxBurrows$Text", name := "add", desc := "(C)V" } : Jvm.MethodName)) ∈ TB := zTB 730 (by decide +kernel) (by decide +kernel)
theorem wd_731 : (Jvm.Cond.code ({ cls := "FoxBurrows$Text", name := "add", desc := "(C)V" } : Jvm.MethodName) prog_10_method_2_code (2 : Nat) (Option.none : Option Jvm.ClassFile.FieldType)) ∈ TB := zTB 731 (by decide +kernel) (by decide +kernel)
theorem wd_739 : (Jvm.Cond.methodLink "FoxBurrows" (348 : Nat) ({ cls := "FoxBurrows$Reader", name := "read", desc := "(LFoxBurrows$Text;)I" } : Jvm.MethodName)) ∈ TB := zTB 739 (by decide +kernel) (by decide +kernel)
theorem wd_740 : (Jvm.Cond.instanceMethod ({ cls := "FoxBurrows$Reader", name := "read", desc := "(LFoxBurrows$Text;)I" } : Jvm.MethodName)) ∈ TB := zTB 740 (by decide +kernel) (by decide +kernel)
theorem wd_741 : (Jvm.Cond.selects "FoxBurrows$Reader" ({ cls := "FoxBurrows$Reader", name := "read", desc := "(LFoxBurrows$Text;)I" } : Jvm.MethodName) ({ cls := "FoxBurrows$Reader", name := "read", desc := "(LFoxBurrows$Text;)I" } : Jvm.MethodName)) ∈ TB := zTB 741 (by decide +kernel) (by decide +kernel)
theorem wd_742 : (Jvm.Cond.code ({ cls := "FoxBurrows$Reader", name := "read", desc := "(LFoxBurrows$Text;)I" } : Jvm.MethodName) prog_5_method_2_code (3 : Nat) (Option.some Jvm.ClassFile.FieldType.int)) ∈ TB := zTB 742 (by decide +kernel) (by decide +kernel)
theorem wd_743 : (Jvm.Cond.methodLink "FoxBurrows$Reader" (28 : Nat) ({ cls := "FoxBurrows$Reader", name := "isCommand", desc := "(LFoxBurrows$Text;)Z" } : Jvm.MethodName)) ∈ TB := zTB 743 (by decide +kernel) (by decide +kernel)
theorem wd_745 : (Jvm.Cond.instanceMethod ({ cls := "FoxBurrows$Reader", name := "isCommand", desc := "(LFoxBurrows$Text;)Z" } : Jvm.MethodName)) ∈ TB := zTB 745 (by decide +kernel) (by decide +kernel)
theorem wd_746 : (Jvm.Cond.code ({ cls := "FoxBurrows$Reader", name := "isCommand", desc := "(LFoxBurrows$Text;)Z" } : Jvm.MethodName) prog_5_method_3_code (7 : Nat) (Option.some Jvm.ClassFile.FieldType.boolean)) ∈ TB := zTB 746 (by decide +kernel) (by decide +kernel)
theorem wd_747 : (Jvm.Cond.methodLink "FoxBurrows$Reader" (37 : Nat) ({ cls := "FoxBurrows$Text", name := "sign", desc := "(I)C" } : Jvm.MethodName)) ∈ TB := zTB 747 (by decide +kernel) (by decide +kernel)
theorem wd_748 : (Jvm.Cond.instanceMethod ({ cls := "FoxBurrows$Text", name := "sign", desc := "(I)C" } : Jvm.MethodName)) ∈ TB := zTB 748 (by decide +kernel) (by decide +kernel)
theorem wd_749 : (Jvm.Cond.selects "FoxBurrows$Text" ({ cls := "FoxBurrows$Text", name := "sign", desc := "(I)C" } : Jvm.MethodName) ({ cls := "FoxBurrows$Text", name := "sign", desc := "(I)C" } : Jvm.MethodName)) ∈ TB := zTB 749 (by decide +kernel) (by decide +kernel)
theorem wd_750 : (Jvm.Cond.code ({ cls := "FoxBurrows$Text", name := "sign", desc := "(I)C" } : Jvm.MethodName) prog_10_method_3_code (2 : Nat) (Option.some Jvm.ClassFile.FieldType.char)) ∈ TB := zTB 750 (by decide +kernel) (by decide +kernel)
theorem wd_751 : (Jvm.Cond.methodLink "FoxBurrows$Reader" (41 : Nat) ({ cls := "FoxBurrows$Reader", name := "digitsOf", desc := "(C)I" } : Jvm.MethodName)) ∈ TB := zTB 751 (by decide +kernel) (by decide +kernel)
theorem wd_752 : (Jvm.Cond.static ({ cls := "FoxBurrows$Reader", name := "digitsOf", desc := "(C)I" } : Jvm.MethodName)) ∈ TB := zTB 752 (by decide +kernel) (by decide +kernel)
theorem wd_753 : (Jvm.Cond.code ({ cls := "FoxBurrows$Reader", name := "digitsOf", desc := "(C)I" } : Jvm.MethodName) prog_5_method_4_code (1 : Nat) (Option.some Jvm.ClassFile.FieldType.int)) ∈ TB := zTB 753 (by decide +kernel) (by decide +kernel)
theorem wd_754 : (Jvm.Cond.methodLink "FoxBurrows$Reader" (45 : Nat) ({ cls := "FoxBurrows$Reader", name := "numberIn", desc := "(LFoxBurrows$Text;I)I" } : Jvm.MethodName)) ∈ TB := zTB 754 (by decide +kernel) (by decide +kernel)
theorem wd_756 : (Jvm.Cond.instanceMethod ({ cls := "FoxBurrows$Reader", name := "numberIn", desc := "(LFoxBurrows$Text;I)I" } : Jvm.MethodName)) ∈ TB := zTB 756 (by decide +kernel) (by decide +kernel)
theorem wd_757 : (Jvm.Cond.code ({ cls := "FoxBurrows$Reader", name := "numberIn", desc := "(LFoxBurrows$Text;I)I" } : Jvm.MethodName) prog_5_method_6_code (6 : Nat) (Option.some Jvm.ClassFile.FieldType.int)) ∈ TB := zTB 757 (by decide +kernel) (by decide +kernel)
theorem wd_758 : (Jvm.Cond.methodLink "FoxBurrows$Reader" (57 : Nat) ({ cls := "java/lang/Math", name := "max", desc := "(II)I" } : Jvm.MethodName)) ∈ TB := zTB 758 (by decide +kernel) (by decide +kernel)
theorem wd_759 : (Jvm.Cond.methodLink "FoxBurrows$Reader" (49 : Nat) ({ cls := "FoxBurrows$Reader", name := "markOf", desc := "(C)C" } : Jvm.MethodName)) ∈ TB := zTB 759 (by decide +kernel) (by decide +kernel)
theorem wd_760 : (Jvm.Cond.static ({ cls := "FoxBurrows$Reader", name := "markOf", desc := "(C)C" } : Jvm.MethodName)) ∈ TB := zTB 760 (by decide +kernel) (by decide +kernel)
theorem wd_761 : (Jvm.Cond.code ({ cls := "FoxBurrows$Reader", name := "markOf", desc := "(C)C" } : Jvm.MethodName) prog_5_method_5_code (1 : Nat) (Option.some Jvm.ClassFile.FieldType.char)) ∈ TB := zTB 761 (by decide +kernel) (by decide +kernel)
theorem wd_764 : (Jvm.Cond.methodLink "FoxBurrows" (360 : Nat) ({ cls := "FoxBurrows", name := "carriedOut", desc := "(I)I" } : Jvm.MethodName)) ∈ TB := zTB 764 (by decide +kernel) (by decide +kernel)
theorem wd_766 : (Jvm.Cond.instanceMethod ({ cls := "FoxBurrows", name := "carriedOut", desc := "(I)I" } : Jvm.MethodName)) ∈ TB := zTB 766 (by decide +kernel) (by decide +kernel)
theorem wd_767 : (Jvm.Cond.code ({ cls := "FoxBurrows", name := "carriedOut", desc := "(I)I" } : Jvm.MethodName) prog_1_method_47_code (4 : Nat) (Option.some Jvm.ClassFile.FieldType.int)) ∈ TB := zTB 767 (by decide +kernel) (by decide +kernel)
theorem wd_768 : (Jvm.Cond.methodLink "FoxBurrows" (99 : Nat) ({ cls := "FoxBurrows", name := "turnTrap", desc := "(IZ)I" } : Jvm.MethodName)) ∈ TB := zTB 768 (by decide +kernel) (by decide +kernel)
theorem wd_770 : (Jvm.Cond.instanceMethod ({ cls := "FoxBurrows", name := "turnTrap", desc := "(IZ)I" } : Jvm.MethodName)) ∈ TB := zTB 770 (by decide +kernel) (by decide +kernel)
theorem wd_771 : (Jvm.Cond.code ({ cls := "FoxBurrows", name := "turnTrap", desc := "(IZ)I" } : Jvm.MethodName) prog_1_method_41_code (4 : Nat) (Option.some Jvm.ClassFile.FieldType.int)) ∈ TB := zTB 771 (by decide +kernel) (by decide +kernel)
theorem wd_772 : (Jvm.Cond.methodLink "FoxBurrows" (106 : Nat) ({ cls := "FoxBurrows", name := "startGame", desc := "(I)I" } : Jvm.MethodName)) ∈ TB := zTB 772 (by decide +kernel) (by decide +kernel)
theorem wd_774 : (Jvm.Cond.instanceMethod ({ cls := "FoxBurrows", name := "startGame", desc := "(I)I" } : Jvm.MethodName)) ∈ TB := zTB 774 (by decide +kernel) (by decide +kernel)
theorem wd_775 : (Jvm.Cond.code ({ cls := "FoxBurrows", name := "startGame", desc := "(I)I" } : Jvm.MethodName) prog_1_method_43_code (2 : Nat) (Option.some Jvm.ClassFile.FieldType.int)) ∈ TB := zTB 775 (by decide +kernel) (by decide +kernel)
theorem wd_776 : (Jvm.Cond.methodLink "FoxBurrows" (268 : Nat) ({ cls := "FoxBurrows$Field", name := "holds", desc := "(I)Z" } : Jvm.MethodName)) ∈ TB := zTB 776 (by decide +kernel) (by decide +kernel)
theorem wd_777 : (Jvm.Cond.instanceMethod ({ cls := "FoxBurrows$Field", name := "holds", desc := "(I)Z" } : Jvm.MethodName)) ∈ TB := zTB 777 (by decide +kernel) (by decide +kernel)
theorem wd_778 : (Jvm.Cond.selects "FoxBurrows$Field" ({ cls := "FoxBurrows$Field", name := "holds", desc := "(I)Z" } : Jvm.MethodName) ({ cls := "FoxBurrows$Field", name := "holds", desc := "(I)Z" } : Jvm.MethodName)) ∈ TB := zTB 778 (by decide +kernel) (by decide +kernel)
theorem wd_779 : (Jvm.Cond.code ({ cls := "FoxBurrows$Field", name := "holds", desc := "(I)Z" } : Jvm.MethodName) prog_3_method_10_code (2 : Nat) (Option.some Jvm.ClassFile.FieldType.boolean)) ∈ TB := zTB 779 (by decide +kernel) (by decide +kernel)
theorem wd_780 : (Jvm.Cond.methodLink "FoxBurrows" (420 : Nat) ({ cls := "FoxBurrows$Game", name := "start", desc := "(I)V" } : Jvm.MethodName)) ∈ TB := zTB 780 (by decide +kernel) (by decide +kernel)
theorem wd_781 : (Jvm.Cond.instanceMethod ({ cls := "FoxBurrows$Game", name := "start", desc := "(I)V" } : Jvm.MethodName)) ∈ TB := zTB 781 (by decide +kernel) (by decide +kernel)
theorem wd_782 : (Jvm.Cond.selects "FoxBurrows$Game" ({ cls := "FoxBurrows$Game", name := "start", desc := "(I)V" } : Jvm.MethodName) ({ cls := "FoxBurrows$Game", name := "start", desc := "(I)V" } : Jvm.MethodName)) ∈ TB := zTB 782 (by decide +kernel) (by decide +kernel)
theorem wd_783 : (Jvm.Cond.code ({ cls := "FoxBurrows$Game", name := "start", desc := "(I)V" } : Jvm.MethodName) prog_4_method_3_code (2 : Nat) (Option.none : Option Jvm.ClassFile.FieldType)) ∈ TB := zTB 783 (by decide +kernel) (by decide +kernel)
theorem wd_785 : (Jvm.Cond.methodLink "FoxBurrows" (172 : Nat) ({ cls := "FoxBurrows$Field", name := "movesOf", desc := "(I)J" } : Jvm.MethodName)) ∈ TB := zTB 785 (by decide +kernel) (by decide +kernel)
theorem wd_786 : (Jvm.Cond.methodLink "FoxBurrows" (109 : Nat) ({ cls := "FoxBurrows", name := "makeMove", desc := "(II)I" } : Jvm.MethodName)) ∈ TB := zTB 786 (by decide +kernel) (by decide +kernel)
theorem wd_788 : (Jvm.Cond.instanceMethod ({ cls := "FoxBurrows", name := "makeMove", desc := "(II)I" } : Jvm.MethodName)) ∈ TB := zTB 788 (by decide +kernel) (by decide +kernel)
theorem wd_789 : (Jvm.Cond.code ({ cls := "FoxBurrows", name := "makeMove", desc := "(II)I" } : Jvm.MethodName) prog_1_method_44_code (7 : Nat) (Option.some Jvm.ClassFile.FieldType.int)) ∈ TB := zTB 789 (by decide +kernel) (by decide +kernel)
theorem wd_790 : (Jvm.Cond.methodLink "FoxBurrows" (135 : Nat) ({ cls := "FoxBurrows$Game", name := "lastPosition", desc := "()I" } : Jvm.MethodName)) ∈ TB := zTB 790 (by decide +kernel) (by decide +kernel)
theorem wd_791 : (Jvm.Cond.instanceMethod ({ cls := "FoxBurrows$Game", name := "lastPosition", desc := "()I" } : Jvm.MethodName)) ∈ TB := zTB 791 (by decide +kernel) (by decide +kernel)
theorem wd_792 : (Jvm.Cond.selects "FoxBurrows$Game" ({ cls := "FoxBurrows$Game", name := "lastPosition", desc := "()I" } : Jvm.MethodName) ({ cls := "FoxBurrows$Game", name := "lastPosition", desc := "()I" } : Jvm.MethodName)) ∈ TB := zTB 792 (by decide +kernel) (by decide +kernel)
theorem wd_793 : (Jvm.Cond.code ({ cls := "FoxBurrows$Game", name := "lastPosition", desc := "()I" } : Jvm.MethodName) prog_4_method_5_code (1 : Nat) (Option.some Jvm.ClassFile.FieldType.int)) ∈ TB := zTB 793 (by decide +kernel) (by decide +kernel)
theorem wd_795 : (Jvm.Cond.methodLink "FoxBurrows" (215 : Nat) ({ cls := "FoxBurrows$Field", name := "allows", desc := "(III)Z" } : Jvm.MethodName)) ∈ TB := zTB 795 (by decide +kernel) (by decide +kernel)
theorem wd_796 : (Jvm.Cond.instanceMethod ({ cls := "FoxBurrows$Field", name := "allows", desc := "(III)Z" } : Jvm.MethodName)) ∈ TB := zTB 796 (by decide +kernel) (by decide +kernel)
theorem wd_797 : (Jvm.Cond.selects "FoxBurrows$Field" ({ cls := "FoxBurrows$Field", name := "allows", desc := "(III)Z" } : Jvm.MethodName) ({ cls := "FoxBurrows$Field", name := "allows", desc := "(III)Z" } : Jvm.MethodName)) ∈ TB := zTB 797 (by decide +kernel) (by decide +kernel)
theorem wd_798 : (Jvm.Cond.code ({ cls := "FoxBurrows$Field", name := "allows", desc := "(III)Z" } : Jvm.MethodName) prog_3_method_14_code (4 : Nat) (Option.some Jvm.ClassFile.FieldType.boolean)) ∈ TB := zTB 798 (by decide +kernel) (by decide +kernel)
theorem wd_799 : (Jvm.Cond.methodLink "FoxBurrows$Field" (97 : Nat) ({ cls := "FoxBurrows$Field", name := "movesOf", desc := "(I)J" } : Jvm.MethodName)) ∈ TB := zTB 799 (by decide +kernel) (by decide +kernel)
theorem wd_801 : (Jvm.Cond.static ({ cls := "FoxBurrows", name := "moveNumber", desc := "(II)I" } : Jvm.MethodName)) ∈ TB := zTB 801 (by decide +kernel) (by decide +kernel)
theorem wd_802 : (Jvm.Cond.code ({ cls := "FoxBurrows", name := "moveNumber", desc := "(II)I" } : Jvm.MethodName) prog_1_method_67_code (2 : Nat) (Option.some Jvm.ClassFile.FieldType.int)) ∈ TB := zTB 802 (by decide +kernel) (by decide +kernel)
theorem wd_803 : (Jvm.Cond.methodLink "FoxBurrows" (220 : Nat) ({ cls := "FoxBurrows", name := "shifted", desc := "(III)I" } : Jvm.MethodName)) ∈ TB := zTB 803 (by decide +kernel) (by decide +kernel)
theorem wd_804 : (Jvm.Cond.methodLink "FoxBurrows" (423 : Nat) ({ cls := "FoxBurrows", name := "moveNumber", desc := "(II)I" } : Jvm.MethodName)) ∈ TB := zTB 804 (by decide +kernel) (by decide +kernel)
theorem wd_805 : (Jvm.Cond.methodLink "FoxBurrows" (426 : Nat) ({ cls := "FoxBurrows$Game", name := "add", desc := "(II)V" } : Jvm.MethodName)) ∈ TB := zTB 805 (by decide +kernel) (by decide +kernel)
theorem wd_806 : (Jvm.Cond.instanceMethod ({ cls := "FoxBurrows$Game", name := "add", desc := "(II)V" } : Jvm.MethodName)) ∈ TB := zTB 806 (by decide +kernel) (by decide +kernel)
theorem wd_807 : (Jvm.Cond.selects "FoxBurrows$Game" ({ cls := "FoxBurrows$Game", name := "add", desc := "(II)V" } : Jvm.MethodName) ({ cls := "FoxBurrows$Game", name := "add", desc := "(II)V" } : Jvm.MethodName)) ∈ TB := zTB 807 (by decide +kernel) (by decide +kernel)
theorem wd_808 : (Jvm.Cond.code ({ cls := "FoxBurrows$Game", name := "add", desc := "(II)V" } : Jvm.MethodName) prog_4_method_4_code (3 : Nat) (Option.none : Option Jvm.ClassFile.FieldType)) ∈ TB := zTB 808 (by decide +kernel) (by decide +kernel)
theorem wd_809 : (Jvm.Cond.methodLink "FoxBurrows" (112 : Nat) ({ cls := "FoxBurrows", name := "letPlay", desc := "(I)I" } : Jvm.MethodName)) ∈ TB := zTB 809 (by decide +kernel) (by decide +kernel)
theorem wd_811 : (Jvm.Cond.instanceMethod ({ cls := "FoxBurrows", name := "letPlay", desc := "(I)I" } : Jvm.MethodName)) ∈ TB := zTB 811 (by decide +kernel) (by decide +kernel)
theorem wd_812 : (Jvm.Cond.code ({ cls := "FoxBurrows", name := "letPlay", desc := "(I)I" } : Jvm.MethodName) prog_1_method_45_code (6 : Nat) (Option.some Jvm.ClassFile.FieldType.int)) ∈ TB := zTB 812 (by decide +kernel) (by decide +kernel)
theorem wd_813 : (Jvm.Cond.methodLink "FoxBurrows" (209 : Nat) ({ cls := "FoxBurrows$Table", name := "bestMove", desc := "(LFoxBurrows$Field;I)I" } : Jvm.MethodName)) ∈ TB := zTB 813 (by decide +kernel) (by decide +kernel)
theorem wd_814 : (Jvm.Cond.instanceMethod ({ cls := "FoxBurrows$Table", name := "bestMove", desc := "(LFoxBurrows$Field;I)I" } : Jvm.MethodName)) ∈ TB := zTB 814 (by decide +kernel) (by decide +kernel)
theorem wd_815 : (Jvm.Cond.selects "FoxBurrows$Table" ({ cls := "FoxBurrows$Table", name := "bestMove", desc := "(LFoxBurrows$Field;I)I" } : Jvm.MethodName) ({ cls := "FoxBurrows$Table", name := "bestMove", desc := "(LFoxBurrows$Field;I)I" } : Jvm.MethodName)) ∈ TB := zTB 815 (by decide +kernel) (by decide +kernel)
theorem wd_816 : (Jvm.Cond.code ({ cls := "FoxBurrows$Table", name := "bestMove", desc := "(LFoxBurrows$Field;I)I" } : Jvm.MethodName) prog_9_method_9_code (10 : Nat) (Option.some Jvm.ClassFile.FieldType.int)) ∈ TB := zTB 816 (by decide +kernel) (by decide +kernel)
theorem wd_817 : (Jvm.Cond.methodLink "FoxBurrows" (206 : Nat) ({ cls := "FoxBurrows", name := "fromOf", desc := "(I)I" } : Jvm.MethodName)) ∈ TB := zTB 817 (by decide +kernel) (by decide +kernel)
theorem wd_818 : (Jvm.Cond.methodLink "FoxBurrows" (203 : Nat) ({ cls := "FoxBurrows", name := "toOf", desc := "(I)I" } : Jvm.MethodName)) ∈ TB := zTB 818 (by decide +kernel) (by decide +kernel)
theorem wd_819 : (Jvm.Cond.methodLink "FoxBurrows" (115 : Nat) ({ cls := "FoxBurrows", name := "takeBack", desc := "()I" } : Jvm.MethodName)) ∈ TB := zTB 819 (by decide +kernel) (by decide +kernel)
theorem wd_821 : (Jvm.Cond.instanceMethod ({ cls := "FoxBurrows", name := "takeBack", desc := "()I" } : Jvm.MethodName)) ∈ TB := zTB 821 (by decide +kernel) (by decide +kernel)
theorem wd_822 : (Jvm.Cond.code ({ cls := "FoxBurrows", name := "takeBack", desc := "()I" } : Jvm.MethodName) prog_1_method_46_code (2 : Nat) (Option.some Jvm.ClassFile.FieldType.int)) ∈ TB := zTB 822 (by decide +kernel) (by decide +kernel)
theorem wd_831 : (Jvm.Cond.methodLink "FoxBurrows" (336 : Nat) ({ cls := "FoxBurrows", name := "accountOfPositions", desc := "(I)I" } : Jvm.MethodName)) ∈ TB := zTB 831 (by decide +kernel) (by decide +kernel)
theorem wd_833 : (Jvm.Cond.instanceMethod ({ cls := "FoxBurrows", name := "accountOfPositions", desc := "(I)I" } : Jvm.MethodName)) ∈ TB := zTB 833 (by decide +kernel) (by decide +kernel)
theorem wd_834 : (Jvm.Cond.code ({ cls := "FoxBurrows", name := "accountOfPositions", desc := "(I)I" } : Jvm.MethodName) prog_1_method_57_code (4 : Nat) (Option.some Jvm.ClassFile.FieldType.int)) ∈ TB := zTB 834 (by decide +kernel) (by decide +kernel)
theorem wd_835 : (Jvm.Cond.methodLink "FoxBurrows" (238 : Nat) ({ cls := "FoxBurrows", name := "positionsIn", desc := "(I)I" } : Jvm.MethodName)) ∈ TB := zTB 835 (by decide +kernel) (by decide +kernel)
theorem wd_837 : (Jvm.Cond.instanceMethod ({ cls := "FoxBurrows", name := "positionsIn", desc := "(I)I" } : Jvm.MethodName)) ∈ TB := zTB 837 (by decide +kernel) (by decide +kernel)
theorem wd_838 : (Jvm.Cond.code ({ cls := "FoxBurrows", name := "positionsIn", desc := "(I)I" } : Jvm.MethodName) prog_1_method_55_code (4 : Nat) (Option.some Jvm.ClassFile.FieldType.int)) ∈ TB := zTB 838 (by decide +kernel) (by decide +kernel)
theorem wd_839 : (Jvm.Cond.methodLink "FoxBurrows" (189 : Nat) ({ cls := "FoxBurrows$Table", name := "inMoves", desc := "(I)I" } : Jvm.MethodName)) ∈ TB := zTB 839 (by decide +kernel) (by decide +kernel)
theorem wd_840 : (Jvm.Cond.instanceMethod ({ cls := "FoxBurrows$Table", name := "inMoves", desc := "(I)I" } : Jvm.MethodName)) ∈ TB := zTB 840 (by decide +kernel) (by decide +kernel)
theorem wd_841 : (Jvm.Cond.selects "FoxBurrows$Table" ({ cls := "FoxBurrows$Table", name := "inMoves", desc := "(I)I" } : Jvm.MethodName) ({ cls := "FoxBurrows$Table", name := "inMoves", desc := "(I)I" } : Jvm.MethodName)) ∈ TB := zTB 841 (by decide +kernel) (by decide +kernel)
theorem wd_842 : (Jvm.Cond.code ({ cls := "FoxBurrows$Table", name := "inMoves", desc := "(I)I" } : Jvm.MethodName) prog_9_method_6_code (2 : Nat) (Option.some Jvm.ClassFile.FieldType.int)) ∈ TB := zTB 842 (by decide +kernel) (by decide +kernel)
theorem wd_851 : (Jvm.Cond.methodLink "FoxBurrows" (391 : Nat) ({ cls := "FoxBurrows$Changes", name := "takeInto", desc := "(LFoxBurrows$State;)V" } : Jvm.MethodName)) ∈ TB := zTB 851 (by decide +kernel) (by decide +kernel)
theorem wd_852 : (Jvm.Cond.instanceMethod ({ cls := "FoxBurrows$Changes", name := "takeInto", desc := "(LFoxBurrows$State;)V" } : Jvm.MethodName)) ∈ TB := zTB 852 (by decide +kernel) (by decide +kernel)
theorem wd_853 : (Jvm.Cond.selects "FoxBurrows$Changes" ({ cls := "FoxBurrows$Changes", name := "takeInto", desc := "(LFoxBurrows$State;)V" } : Jvm.MethodName) ({ cls := "FoxBurrows$Changes", name := "takeInto", desc := "(LFoxBurrows$State;)V" } : Jvm.MethodName)) ∈ TB := zTB 853 (by decide +kernel) (by decide +kernel)
theorem wd_854 : (Jvm.Cond.code ({ cls := "FoxBurrows$Changes", name := "takeInto", desc := "(LFoxBurrows$State;)V" } : Jvm.MethodName) prog_2_method_3_code (4 : Nat) (Option.none : Option Jvm.ClassFile.FieldType)) ∈ TB := zTB 854 (by decide +kernel) (by decide +kernel)
theorem wd_875 : (Jvm.Cond.classLink "FoxBurrows" (128 : Nat) "java/util/NoSuchElementException") ∈ TB := zTB 875 (by decide +kernel) (by decide +kernel)
theorem wd_929 : (Jvm.Cond.classLink "FoxBurrows" (310 : Nat) "java/lang/ArithmeticException") ∈ TB := zTB 929 (by decide +kernel) (by decide +kernel)
theorem wd_970 : (Jvm.Cond.methodLink "FoxBurrows" (186 : Nat) ({ cls := "FoxBurrows$Table", name := "outcomeOf", desc := "(I)I" } : Jvm.MethodName)) ∈ TB := zTB 970 (by decide +kernel) (by decide +kernel)
theorem wd_979 : (Jvm.Cond.methodLink "FoxBurrows" (156 : Nat) ({ cls := "FoxBurrows", name := "needPosition", desc := "(I)V" } : Jvm.MethodName)) ∈ TB := zTB 979 (by decide +kernel) (by decide +kernel)
theorem wd_981 : (Jvm.Cond.instanceMethod ({ cls := "FoxBurrows", name := "needPosition", desc := "(I)V" } : Jvm.MethodName)) ∈ TB := zTB 981 (by decide +kernel) (by decide +kernel)
theorem wd_982 : (Jvm.Cond.code ({ cls := "FoxBurrows", name := "needPosition", desc := "(I)V" } : Jvm.MethodName) prog_1_method_54_code (2 : Nat) (Option.none : Option Jvm.ClassFile.FieldType)) ∈ TB := zTB 982 (by decide +kernel) (by decide +kernel)
theorem wd_991 : (Jvm.Cond.methodLink "FoxBurrows" (192 : Nat) ({ cls := "FoxBurrows$SecondWay", name := "solve", desc := "(LFoxBurrows$Field;)V" } : Jvm.MethodName)) ∈ TB := zTB 991 (by decide +kernel) (by decide +kernel)
theorem wd_992 : (Jvm.Cond.instanceMethod ({ cls := "FoxBurrows$SecondWay", name := "solve", desc := "(LFoxBurrows$Field;)V" } : Jvm.MethodName)) ∈ TB := zTB 992 (by decide +kernel) (by decide +kernel)
theorem wd_993 : (Jvm.Cond.selects "FoxBurrows$SecondWay" ({ cls := "FoxBurrows$SecondWay", name := "solve", desc := "(LFoxBurrows$Field;)V" } : Jvm.MethodName) ({ cls := "FoxBurrows$SecondWay", name := "solve", desc := "(LFoxBurrows$Field;)V" } : Jvm.MethodName)) ∈ TB := zTB 993 (by decide +kernel) (by decide +kernel)
theorem wd_994 : (Jvm.Cond.code ({ cls := "FoxBurrows$SecondWay", name := "solve", desc := "(LFoxBurrows$Field;)V" } : Jvm.MethodName) prog_7_method_2_code (8 : Nat) (Option.none : Option Jvm.ClassFile.FieldType)) ∈ TB := zTB 994 (by decide +kernel) (by decide +kernel)
theorem wd_995 : (Jvm.Cond.methodLink "FoxBurrows$SecondWay" (27 : Nat) ({ cls := "FoxBurrows$Field", name := "listPositions", desc := "([I)I" } : Jvm.MethodName)) ∈ TB := zTB 995 (by decide +kernel) (by decide +kernel)
theorem wd_998 : (Jvm.Cond.methodLink "FoxBurrows$SecondWay" (39 : Nat) ({ cls := "FoxBurrows$SecondWay", name := "seen", desc := "(LFoxBurrows$Field;I)I" } : Jvm.MethodName)) ∈ TB := zTB 998 (by decide +kernel) (by decide +kernel)
theorem wd_1000 : (Jvm.Cond.instanceMethod ({ cls := "FoxBurrows$SecondWay", name := "seen", desc := "(LFoxBurrows$Field;I)I" } : Jvm.MethodName)) ∈ TB := zTB 1000 (by decide +kernel) (by decide +kernel)
theorem wd_1001 : (Jvm.Cond.code ({ cls := "FoxBurrows$SecondWay", name := "seen", desc := "(LFoxBurrows$Field;I)I" } : Jvm.MethodName) prog_7_method_3_code (10 : Nat) (Option.some Jvm.ClassFile.FieldType.int)) ∈ TB := zTB 1001 (by decide +kernel) (by decide +kernel)
theorem wd_1002 : (Jvm.Cond.methodLink "FoxBurrows$SecondWay" (43 : Nat) ({ cls := "FoxBurrows$Field", name := "movesOf", desc := "(I)J" } : Jvm.MethodName)) ∈ TB := zTB 1002 (by decide +kernel) (by decide +kernel)
theorem wd_1003 : (Jvm.Cond.methodLink "FoxBurrows$SecondWay" (47 : Nat) ({ cls := "java/lang/Long", name := "bitCount", desc := "(J)I" } : Jvm.MethodName)) ∈ TB := zTB 1003 (by decide +kernel) (by decide +kernel)
theorem wd_1009 : (Jvm.Cond.methodLink "FoxBurrows" (193 : Nat) ({ cls := "FoxBurrows$SecondWay", name := "outcomeOf", desc := "(I)I" } : Jvm.MethodName)) ∈ TB := zTB 1009 (by decide +kernel) (by decide +kernel)
theorem wd_1010 : (Jvm.Cond.instanceMethod ({ cls := "FoxBurrows$SecondWay", name := "outcomeOf", desc := "(I)I" } : Jvm.MethodName)) ∈ TB := zTB 1010 (by decide +kernel) (by decide +kernel)
theorem wd_1011 : (Jvm.Cond.selects "FoxBurrows$SecondWay" ({ cls := "FoxBurrows$SecondWay", name := "outcomeOf", desc := "(I)I" } : Jvm.MethodName) ({ cls := "FoxBurrows$SecondWay", name := "outcomeOf", desc := "(I)I" } : Jvm.MethodName)) ∈ TB := zTB 1011 (by decide +kernel) (by decide +kernel)
theorem wd_1012 : (Jvm.Cond.code ({ cls := "FoxBurrows$SecondWay", name := "outcomeOf", desc := "(I)I" } : Jvm.MethodName) prog_7_method_4_code (2 : Nat) (Option.some Jvm.ClassFile.FieldType.int)) ∈ TB := zTB 1012 (by decide +kernel) (by decide +kernel)
theorem wd_1045 : (Jvm.Cond.methodLink "FoxBurrows" (196 : Nat) ({ cls := "FoxBurrows", name := "withoutFirst", desc := "(J)J" } : Jvm.MethodName)) ∈ TB := zTB 1045 (by decide +kernel) (by decide +kernel)
theorem wd_1046 : (Jvm.Cond.methodLink "FoxBurrows" (200 : Nat) ({ cls := "FoxBurrows", name := "firstMove", desc := "(J)I" } : Jvm.MethodName)) ∈ TB := zTB 1046 (by decide +kernel) (by decide +kernel)
theorem wd_1067 : (Jvm.Cond.methodLink "FoxBurrows" (385 : Nat) ({ cls := "FoxBurrows$Text", name := "sign", desc := "(I)C" } : Jvm.MethodName)) ∈ TB := zTB 1067 (by decide +kernel) (by decide +kernel)
theorem wd_1084 : (Jvm.Cond.methodLink "FoxBurrows" (252 : Nat) ({ cls := "FoxBurrows$Field", name := "become", desc := "(LFoxBurrows$Field;)V" } : Jvm.MethodName)) ∈ TB := zTB 1084 (by decide +kernel) (by decide +kernel)
theorem wd_1085 : (Jvm.Cond.methodLink "FoxBurrows" (255 : Nat) ({ cls := "FoxBurrows$Field", name := "turnNear", desc := "(II)V" } : Jvm.MethodName)) ∈ TB := zTB 1085 (by decide +kernel) (by decide +kernel)
theorem wd_1400 : (Jvm.Cond.methodLink "FoxBurrows" (141 : Nat) ({ cls := "FoxBurrows$Field", name := "fits", desc := "(III)Z" } : Jvm.MethodName)) ∈ TB := zTB 1400 (by decide +kernel) (by decide +kernel)
theorem kd_0 : zkd 0 = 1 := rfl
theorem ln_0 : zln 0 = 0 := rfl
theorem kd_1 : zkd 1 = 2 := rfl
theorem ln_1 : zln 1 = 0 := rfl
theorem kd_2 : zkd 2 = 3 := rfl
theorem ln_2 : zln 2 = 0 := rfl
theorem kd_3 : zkd 3 = 5 := rfl
theorem ln_3 : zln 3 = 16 := rfl
theorem kd_4 : zkd 4 = 5 := rfl
theorem ln_4 : zln 4 = 16 := rfl
theorem kd_5 : zkd 5 = 5 := rfl
theorem ln_5 : zln 5 = 8 := rfl
theorem kd_6 : zkd 6 = 4 := rfl
theorem ln_6 : zln 6 = 0 := rfl
theorem kd_7 : zkd 7 = 5 := rfl
theorem ln_7 : zln 7 = 41 := rfl
theorem kd_8 : zkd 8 = 5 := rfl
theorem ln_8 : zln 8 = 40 := rfl
theorem kd_9 : zkd 9 = 2 := rfl
theorem ln_9 : zln 9 = 0 := rfl
theorem kd_10 : zkd 10 = 3 := rfl
theorem ln_10 : zln 10 = 0 := rfl
theorem kd_11 : zkd 11 = 5 := rfl
theorem ln_11 : zln 11 = 16 := rfl
theorem kd_12 : zkd 12 = 5 := rfl
theorem ln_12 : zln 12 = 16 := rfl
theorem kd_13 : zkd 13 = 5 := rfl
theorem ln_13 : zln 13 = 8 := rfl
theorem kd_14 : zkd 14 = 4 := rfl
theorem ln_14 : zln 14 = 0 := rfl
theorem kd_15 : zkd 15 = 5 := rfl
theorem ln_15 : zln 15 = 41 := rfl
theorem kd_16 : zkd 16 = 5 := rfl
theorem ln_16 : zln 16 = 40 := rfl
theorem kd_17 : zkd 17 = 2 := rfl
theorem ln_17 : zln 17 = 0 := rfl
theorem kd_18 : zkd 18 = 3 := rfl
theorem ln_18 : zln 18 = 0 := rfl
theorem kd_19 : zkd 19 = 5 := rfl
theorem ln_19 : zln 19 = 16 := rfl
theorem kd_20 : zkd 20 = 5 := rfl
theorem ln_20 : zln 20 = 16 := rfl
theorem kd_21 : zkd 21 = 5 := rfl
theorem ln_21 : zln 21 = 8 := rfl
theorem kd_22 : zkd 22 = 4 := rfl
theorem ln_22 : zln 22 = 0 := rfl
theorem kd_23 : zkd 23 = 5 := rfl
theorem ln_23 : zln 23 = 41 := rfl
theorem kd_24 : zkd 24 = 5 := rfl
theorem ln_24 : zln 24 = 40 := rfl
theorem kd_25 : zkd 25 = 7 := rfl
theorem ln_25 : zln 25 = 0 := rfl
theorem kd_26 : zkd 26 = 8 := rfl
theorem ln_26 : zln 26 = 8 := rfl
theorem kd_27 : zkd 27 = 2 := rfl
theorem ln_27 : zln 27 = 0 := rfl
theorem kd_28 : zkd 28 = 3 := rfl
theorem ln_28 : zln 28 = 0 := rfl
theorem kd_29 : zkd 29 = 5 := rfl
theorem ln_29 : zln 29 = 16 := rfl
theorem kd_30 : zkd 30 = 5 := rfl
theorem ln_30 : zln 30 = 16 := rfl
theorem kd_31 : zkd 31 = 5 := rfl
theorem ln_31 : zln 31 = 8 := rfl
theorem kd_32 : zkd 32 = 4 := rfl
theorem ln_32 : zln 32 = 0 := rfl
theorem kd_33 : zkd 33 = 5 := rfl
theorem ln_33 : zln 33 = 41 := rfl
theorem kd_34 : zkd 34 = 5 := rfl
theorem ln_34 : zln 34 = 40 := rfl
theorem kd_35 : zkd 35 = 2 := rfl
theorem ln_35 : zln 35 = 0 := rfl
theorem kd_36 : zkd 36 = 3 := rfl
theorem ln_36 : zln 36 = 0 := rfl
theorem kd_37 : zkd 37 = 5 := rfl
theorem ln_37 : zln 37 = 16 := rfl
theorem kd_38 : zkd 38 = 5 := rfl
theorem ln_38 : zln 38 = 16 := rfl
theorem kd_39 : zkd 39 = 5 := rfl
theorem ln_39 : zln 39 = 8 := rfl
theorem kd_40 : zkd 40 = 4 := rfl
theorem ln_40 : zln 40 = 0 := rfl
theorem kd_41 : zkd 41 = 5 := rfl
theorem ln_41 : zln 41 = 41 := rfl
theorem kd_42 : zkd 42 = 5 := rfl
theorem ln_42 : zln 42 = 40 := rfl
theorem kd_43 : zkd 43 = 2 := rfl
theorem ln_43 : zln 43 = 0 := rfl
theorem kd_44 : zkd 44 = 3 := rfl
theorem ln_44 : zln 44 = 0 := rfl
theorem kd_45 : zkd 45 = 5 := rfl
theorem ln_45 : zln 45 = 16 := rfl
theorem kd_46 : zkd 46 = 5 := rfl
theorem ln_46 : zln 46 = 16 := rfl
theorem kd_47 : zkd 47 = 5 := rfl
theorem ln_47 : zln 47 = 8 := rfl
theorem kd_48 : zkd 48 = 4 := rfl
theorem ln_48 : zln 48 = 0 := rfl
theorem kd_49 : zkd 49 = 5 := rfl
theorem ln_49 : zln 49 = 41 := rfl
theorem kd_50 : zkd 50 = 5 := rfl
theorem ln_50 : zln 50 = 40 := rfl
theorem kd_51 : zkd 51 = 2 := rfl
theorem ln_51 : zln 51 = 0 := rfl
theorem kd_52 : zkd 52 = 3 := rfl
theorem ln_52 : zln 52 = 0 := rfl
theorem kd_53 : zkd 53 = 5 := rfl
theorem ln_53 : zln 53 = 16 := rfl
theorem kd_54 : zkd 54 = 5 := rfl
theorem ln_54 : zln 54 = 16 := rfl
theorem kd_55 : zkd 55 = 5 := rfl
theorem ln_55 : zln 55 = 8 := rfl
theorem kd_56 : zkd 56 = 4 := rfl
theorem ln_56 : zln 56 = 0 := rfl
theorem kd_57 : zkd 57 = 5 := rfl
theorem ln_57 : zln 57 = 41 := rfl
theorem kd_58 : zkd 58 = 5 := rfl
theorem ln_58 : zln 58 = 40 := rfl
theorem kd_59 : zkd 59 = 2 := rfl
theorem ln_59 : zln 59 = 0 := rfl
theorem kd_60 : zkd 60 = 3 := rfl
theorem ln_60 : zln 60 = 0 := rfl
theorem kd_61 : zkd 61 = 5 := rfl
theorem ln_61 : zln 61 = 16 := rfl
theorem kd_62 : zkd 62 = 5 := rfl
theorem ln_62 : zln 62 = 16 := rfl
theorem kd_63 : zkd 63 = 5 := rfl
theorem ln_63 : zln 63 = 8 := rfl
theorem kd_64 : zkd 64 = 4 := rfl
theorem ln_64 : zln 64 = 0 := rfl
theorem kd_65 : zkd 65 = 5 := rfl
theorem ln_65 : zln 65 = 41 := rfl
theorem kd_66 : zkd 66 = 5 := rfl
theorem ln_66 : zln 66 = 40 := rfl
theorem kd_67 : zkd 67 = 2 := rfl
theorem ln_67 : zln 67 = 0 := rfl
theorem kd_68 : zkd 68 = 3 := rfl
theorem ln_68 : zln 68 = 0 := rfl
theorem kd_69 : zkd 69 = 5 := rfl
theorem ln_69 : zln 69 = 16 := rfl
theorem kd_70 : zkd 70 = 5 := rfl
theorem ln_70 : zln 70 = 16 := rfl
theorem kd_71 : zkd 71 = 5 := rfl
theorem ln_71 : zln 71 = 8 := rfl
theorem kd_72 : zkd 72 = 4 := rfl
theorem ln_72 : zln 72 = 0 := rfl
theorem kd_73 : zkd 73 = 5 := rfl
theorem ln_73 : zln 73 = 41 := rfl
theorem kd_74 : zkd 74 = 5 := rfl
theorem ln_74 : zln 74 = 40 := rfl
theorem kd_75 : zkd 75 = 2 := rfl
theorem ln_75 : zln 75 = 0 := rfl
theorem kd_76 : zkd 76 = 3 := rfl
theorem ln_76 : zln 76 = 0 := rfl
theorem kd_77 : zkd 77 = 5 := rfl
theorem ln_77 : zln 77 = 16 := rfl
theorem kd_78 : zkd 78 = 5 := rfl
theorem ln_78 : zln 78 = 16 := rfl
theorem kd_79 : zkd 79 = 5 := rfl
theorem ln_79 : zln 79 = 8 := rfl
theorem kd_80 : zkd 80 = 4 := rfl
theorem ln_80 : zln 80 = 0 := rfl
theorem kd_81 : zkd 81 = 5 := rfl
theorem ln_81 : zln 81 = 41 := rfl
theorem kd_82 : zkd 82 = 5 := rfl
theorem ln_82 : zln 82 = 40 := rfl
theorem kd_83 : zkd 83 = 2 := rfl
theorem ln_83 : zln 83 = 0 := rfl
theorem kd_84 : zkd 84 = 3 := rfl
theorem ln_84 : zln 84 = 0 := rfl
theorem kd_85 : zkd 85 = 5 := rfl
theorem ln_85 : zln 85 = 16 := rfl
theorem kd_86 : zkd 86 = 5 := rfl
theorem ln_86 : zln 86 = 16 := rfl
theorem kd_87 : zkd 87 = 5 := rfl
theorem ln_87 : zln 87 = 8 := rfl
theorem kd_88 : zkd 88 = 4 := rfl
theorem ln_88 : zln 88 = 0 := rfl
theorem kd_89 : zkd 89 = 5 := rfl
theorem ln_89 : zln 89 = 41 := rfl
theorem kd_90 : zkd 90 = 5 := rfl
theorem ln_90 : zln 90 = 40 := rfl
theorem kd_91 : zkd 91 = 3 := rfl
theorem ln_91 : zln 91 = 0 := rfl
theorem kd_92 : zkd 92 = 5 := rfl
theorem ln_92 : zln 92 = 16 := rfl
theorem kd_93 : zkd 93 = 5 := rfl
theorem ln_93 : zln 93 = 16 := rfl
theorem kd_94 : zkd 94 = 5 := rfl
theorem ln_94 : zln 94 = 8 := rfl
theorem kd_95 : zkd 95 = 9 := rfl
theorem ln_95 : zln 95 = 0 := rfl
theorem kd_96 : zkd 96 = 5 := rfl
theorem ln_96 : zln 96 = 336 := rfl
theorem kd_97 : zkd 97 = 5 := rfl
theorem ln_97 : zln 97 = 336 := rfl
theorem kd_98 : zkd 98 = 5 := rfl
theorem ln_98 : zln 98 = 1296 := rfl
theorem kd_99 : zkd 99 = 5 := rfl
theorem ln_99 : zln 99 = 1296 := rfl
theorem kd_100 : zkd 100 = 9 := rfl
theorem ln_100 : zln 100 = 0 := rfl
theorem kd_101 : zkd 101 = 5 := rfl
theorem ln_101 : zln 101 = 336 := rfl
theorem kd_102 : zkd 102 = 5 := rfl
theorem ln_102 : zln 102 = 336 := rfl
theorem kd_103 : zkd 103 = 5 := rfl
theorem ln_103 : zln 103 = 1296 := rfl
theorem kd_104 : zkd 104 = 5 := rfl
theorem ln_104 : zln 104 = 1296 := rfl
theorem kd_105 : zkd 105 = 10 := rfl
theorem ln_105 : zln 105 = 0 := rfl
theorem kd_106 : zkd 106 = 5 := rfl
theorem ln_106 : zln 106 = 336 := rfl
theorem kd_107 : zkd 107 = 5 := rfl
theorem ln_107 : zln 107 = 1296 := rfl
theorem kd_108 : zkd 108 = 11 := rfl
theorem ln_108 : zln 108 = 0 := rfl
theorem kd_109 : zkd 109 = 6 := rfl
theorem ln_109 : zln 109 = 160 := rfl
theorem kd_110 : zkd 110 = 11 := rfl
theorem ln_110 : zln 110 = 0 := rfl
theorem kd_111 : zkd 111 = 6 := rfl
theorem ln_111 : zln 111 = 160 := rfl
theorem kd_112 : zkd 112 = 12 := rfl
theorem ln_112 : zln 112 = 0 := rfl
theorem kd_113 : zkd 113 = 5 := rfl
theorem ln_113 : zln 113 = 30 := rfl
theorem kd_114 : zkd 114 = 5 := rfl
theorem ln_114 : zln 114 = 30 := rfl
theorem kd_115 : zkd 115 = 5 := rfl
theorem ln_115 : zln 115 = 30 := rfl
theorem kd_116 : zkd 116 = 13 := rfl
theorem ln_116 : zln 116 = 0 := rfl
theorem zk2_1 {k : Nat} (h : zkd k = 2) : zkd (k + 1) = 3 := zAll (P := fun k => zkd k = 2 → zkd (k + 1) = 3) (by decide +kernel) h (by decide) h
theorem zk2_5 {k : Nat} (h : zkd k = 2) : zkd (k + 5) = 4 := zAll (P := fun k => zkd k = 2 → zkd (k + 5) = 4) (by decide +kernel) h (by decide) h
theorem zk3_1 {k : Nat} (h : zkd k = 3) : zkd (k + 1) = 5 := zAll (P := fun k => zkd k = 3 → zkd (k + 1) = 5) (by decide +kernel) h (by decide) h
theorem zl3_1 {k : Nat} (h : zkd k = 3) : zln (k + 1) = 16 := zAll (P := fun k => zkd k = 3 → zln (k + 1) = 16) (by decide +kernel) h (by decide) h
theorem zk3_2 {k : Nat} (h : zkd k = 3) : zkd (k + 2) = 5 := zAll (P := fun k => zkd k = 3 → zkd (k + 2) = 5) (by decide +kernel) h (by decide) h
theorem zl3_2 {k : Nat} (h : zkd k = 3) : zln (k + 2) = 16 := zAll (P := fun k => zkd k = 3 → zln (k + 2) = 16) (by decide +kernel) h (by decide) h
theorem zk3_3 {k : Nat} (h : zkd k = 3) : zkd (k + 3) = 5 := zAll (P := fun k => zkd k = 3 → zkd (k + 3) = 5) (by decide +kernel) h (by decide) h
theorem zl3_3 {k : Nat} (h : zkd k = 3) : zln (k + 3) = 8 := zAll (P := fun k => zkd k = 3 → zln (k + 3) = 8) (by decide +kernel) h (by decide) h
theorem zk4_1 {k : Nat} (h : zkd k = 4) : zkd (k + 1) = 5 := zAll (P := fun k => zkd k = 4 → zkd (k + 1) = 5) (by decide +kernel) h (by decide) h
theorem zl4_1 {k : Nat} (h : zkd k = 4) : zln (k + 1) = 41 := zAll (P := fun k => zkd k = 4 → zln (k + 1) = 41) (by decide +kernel) h (by decide) h
theorem zk4_2 {k : Nat} (h : zkd k = 4) : zkd (k + 2) = 5 := zAll (P := fun k => zkd k = 4 → zkd (k + 2) = 5) (by decide +kernel) h (by decide) h
theorem zl4_2 {k : Nat} (h : zkd k = 4) : zln (k + 2) = 40 := zAll (P := fun k => zkd k = 4 → zln (k + 2) = 40) (by decide +kernel) h (by decide) h
theorem zk7_1 {k : Nat} (h : zkd k = 7) : zkd (k + 1) = 8 := zAll (P := fun k => zkd k = 7 → zkd (k + 1) = 8) (by decide +kernel) h (by decide) h
theorem zk9_1 {k : Nat} (h : zkd k = 9) : zkd (k + 1) = 5 := zAll (P := fun k => zkd k = 9 → zkd (k + 1) = 5) (by decide +kernel) h (by decide) h
theorem zl9_1 {k : Nat} (h : zkd k = 9) : zln (k + 1) = 336 := zAll (P := fun k => zkd k = 9 → zln (k + 1) = 336) (by decide +kernel) h (by decide) h
theorem zk9_2 {k : Nat} (h : zkd k = 9) : zkd (k + 2) = 5 := zAll (P := fun k => zkd k = 9 → zkd (k + 2) = 5) (by decide +kernel) h (by decide) h
theorem zl9_2 {k : Nat} (h : zkd k = 9) : zln (k + 2) = 336 := zAll (P := fun k => zkd k = 9 → zln (k + 2) = 336) (by decide +kernel) h (by decide) h
theorem zk9_3 {k : Nat} (h : zkd k = 9) : zkd (k + 3) = 5 := zAll (P := fun k => zkd k = 9 → zkd (k + 3) = 5) (by decide +kernel) h (by decide) h
theorem zl9_3 {k : Nat} (h : zkd k = 9) : zln (k + 3) = 1296 := zAll (P := fun k => zkd k = 9 → zln (k + 3) = 1296) (by decide +kernel) h (by decide) h
theorem zk9_4 {k : Nat} (h : zkd k = 9) : zkd (k + 4) = 5 := zAll (P := fun k => zkd k = 9 → zkd (k + 4) = 5) (by decide +kernel) h (by decide) h
theorem zl9_4 {k : Nat} (h : zkd k = 9) : zln (k + 4) = 1296 := zAll (P := fun k => zkd k = 9 → zln (k + 4) = 1296) (by decide +kernel) h (by decide) h
theorem zk10_1 {k : Nat} (h : zkd k = 10) : zkd (k + 1) = 5 := zAll (P := fun k => zkd k = 10 → zkd (k + 1) = 5) (by decide +kernel) h (by decide) h
theorem zk10_2 {k : Nat} (h : zkd k = 10) : zkd (k + 2) = 5 := zAll (P := fun k => zkd k = 10 → zkd (k + 2) = 5) (by decide +kernel) h (by decide) h
theorem zk11_1 {k : Nat} (h : zkd k = 11) : zkd (k + 1) = 6 := zAll (P := fun k => zkd k = 11 → zkd (k + 1) = 6) (by decide +kernel) h (by decide) h
theorem zl11_1 {k : Nat} (h : zkd k = 11) : zln (k + 1) = 160 := zAll (P := fun k => zkd k = 11 → zln (k + 1) = 160) (by decide +kernel) h (by decide) h
theorem zk12_1 {k : Nat} (h : zkd k = 12) : zkd (k + 1) = 5 := zAll (P := fun k => zkd k = 12 → zkd (k + 1) = 5) (by decide +kernel) h (by decide) h
theorem zk12_2 {k : Nat} (h : zkd k = 12) : zkd (k + 2) = 5 := zAll (P := fun k => zkd k = 12 → zkd (k + 2) = 5) (by decide +kernel) h (by decide) h
theorem zk12_3 {k : Nat} (h : zkd k = 12) : zkd (k + 3) = 5 := zAll (P := fun k => zkd k = 12 → zkd (k + 3) = 5) (by decide +kernel) h (by decide) h
theorem iX0 : ∀ w ∈ u_ws RX0 TX0 3, w ∈ TB := fun w hw => by
  have h := List.all_eq_true.mp (show (u_ws RX0 TX0 3).all (fun w => decide (w ∈ lw_tbl) && goodWord w) = true by decide +kernel) w hw
  simp only [Bool.and_eq_true, decide_eq_true_eq] at h
  exact List.mem_filter.mpr ⟨List.mem_append_right _ h.1, h.2⟩
theorem iX1 : ∀ w ∈ u_ws RX1 TX1 8, w ∈ TB := fun w hw => by
  have h := List.all_eq_true.mp (show (u_ws RX1 TX1 8).all (fun w => decide (w ∈ lw_tbl) && goodWord w) = true by decide +kernel) w hw
  simp only [Bool.and_eq_true, decide_eq_true_eq] at h
  exact List.mem_filter.mpr ⟨List.mem_append_right _ h.1, h.2⟩
theorem iX2 : ∀ w ∈ u_ws RX2 TX2 4, w ∈ TB := fun w hw => by
  have h := List.all_eq_true.mp (show (u_ws RX2 TX2 4).all (fun w => decide (w ∈ lw_tbl) && goodWord w) = true by decide +kernel) w hw
  simp only [Bool.and_eq_true, decide_eq_true_eq] at h
  exact List.mem_filter.mpr ⟨List.mem_append_right _ h.1, h.2⟩
theorem iX3 : ∀ w ∈ u_ws RX3 TX3 5, w ∈ TB := fun w hw => by
  have h := List.all_eq_true.mp (show (u_ws RX3 TX3 5).all (fun w => decide (w ∈ lw_tbl) && goodWord w) = true by decide +kernel) w hw
  simp only [Bool.and_eq_true, decide_eq_true_eq] at h
  exact List.mem_filter.mpr ⟨List.mem_append_right _ h.1, h.2⟩
theorem iX4 : ∀ w ∈ u_ws RX4 TX4 4, w ∈ TB := fun w hw => by
  have h := List.all_eq_true.mp (show (u_ws RX4 TX4 4).all (fun w => decide (w ∈ lw_tbl) && goodWord w) = true by decide +kernel) w hw
  simp only [Bool.and_eq_true, decide_eq_true_eq] at h
  exact List.mem_filter.mpr ⟨List.mem_append_right _ h.1, h.2⟩
theorem iX5 : ∀ w ∈ u_ws RX5 TX5 3, w ∈ TB := fun w hw => by
  have h := List.all_eq_true.mp (show (u_ws RX5 TX5 3).all (fun w => decide (w ∈ lw_tbl) && goodWord w) = true by decide +kernel) w hw
  simp only [Bool.and_eq_true, decide_eq_true_eq] at h
  exact List.mem_filter.mpr ⟨List.mem_append_right _ h.1, h.2⟩
theorem iX6 : ∀ w ∈ u_ws RX6 TX6 3, w ∈ TB := fun w hw => by
  have h := List.all_eq_true.mp (show (u_ws RX6 TX6 3).all (fun w => decide (w ∈ lw_tbl) && goodWord w) = true by decide +kernel) w hw
  simp only [Bool.and_eq_true, decide_eq_true_eq] at h
  exact List.mem_filter.mpr ⟨List.mem_append_right _ h.1, h.2⟩
theorem iX7 : ∀ w ∈ u_ws RX7 TX7 6, w ∈ TB := fun w hw => by
  have h := List.all_eq_true.mp (show (u_ws RX7 TX7 6).all (fun w => decide (w ∈ lw_tbl) && goodWord w) = true by decide +kernel) w hw
  simp only [Bool.and_eq_true, decide_eq_true_eq] at h
  exact List.mem_filter.mpr ⟨List.mem_append_right _ h.1, h.2⟩
theorem iX8 : ∀ w ∈ u_ws RX8 TX8 2, w ∈ TB := fun w hw => by
  have h := List.all_eq_true.mp (show (u_ws RX8 TX8 2).all (fun w => decide (w ∈ lw_tbl) && goodWord w) = true by decide +kernel) w hw
  simp only [Bool.and_eq_true, decide_eq_true_eq] at h
  exact List.mem_filter.mpr ⟨List.mem_append_right _ h.1, h.2⟩
theorem iX9 : ∀ w ∈ u_ws RX9 TX9 16, w ∈ TB := fun w hw => by
  have h := List.all_eq_true.mp (show (u_ws RX9 TX9 16).all (fun w => decide (w ∈ lw_tbl) && goodWord w) = true by decide +kernel) w hw
  simp only [Bool.and_eq_true, decide_eq_true_eq] at h
  exact List.mem_filter.mpr ⟨List.mem_append_right _ h.1, h.2⟩
theorem iJ4 : ∀ w ∈ u_ws RJ4 TJ4 4, w ∈ TB := fun w hw => by
  have h := List.all_eq_true.mp (show (u_ws RJ4 TJ4 4).all (fun w => decide (w ∈ lw_tbl) && goodWord w) = true by decide +kernel) w hw
  simp only [Bool.and_eq_true, decide_eq_true_eq] at h
  exact List.mem_filter.mpr ⟨List.mem_append_right _ h.1, h.2⟩
theorem iJ0 : ∀ w ∈ u_ws RJ0 TJ0 4, w ∈ TB := fun w hw => by
  have h := List.all_eq_true.mp (show (u_ws RJ0 TJ0 4).all (fun w => decide (w ∈ lw_tbl) && goodWord w) = true by decide +kernel) w hw
  simp only [Bool.and_eq_true, decide_eq_true_eq] at h
  exact List.mem_filter.mpr ⟨List.mem_append_right _ h.1, h.2⟩
theorem zHat {L : List Cond} (h : L.all (fun w => decide (w ∈ lw_tbl) && (goodWord w || zIsN w)) = true) : ∀ w ∈ L, w ∈ TB ∨ w ∈ TN := fun w hw => by
  have h1 := List.all_eq_true.mp h w hw
  simp only [Bool.and_eq_true, decide_eq_true_eq, Bool.or_eq_true] at h1
  rcases h1 with ⟨a, b | b⟩
  · exact Or.inl (List.mem_filter.mpr ⟨List.mem_append_right _ a, b⟩)
  · exact Or.inr (List.mem_filter.mpr ⟨a, b⟩)
theorem fit_UnsupportedOperationException : Bundle.fit "java/lang/UnsupportedOperationException" = true := by decide +kernel
theorem fit_IllegalArgumentException : Bundle.fit "java/lang/IllegalArgumentException" = true := by decide +kernel
theorem fit_IllegalStateException : Bundle.fit "java/lang/IllegalStateException" = true := by decide +kernel
theorem fit_IndexOutOfBoundsException : Bundle.fit "java/lang/IndexOutOfBoundsException" = true := by decide +kernel
theorem fit_ArithmeticException : Bundle.fit "java/lang/ArithmeticException" = true := by decide +kernel
theorem fit_NoSuchElementException : Bundle.fit "java/util/NoSuchElementException" = true := by decide +kernel
theorem fit_names : ∀ n ∈ ["java/lang/RuntimeException", "java/lang/Exception"], Bundle.fit n = true := by decide +kernel
theorem hat_ArithmeticException_314 : ∀ w ∈ vx_atS RX9 314 "java/lang/ArithmeticException" ["java/lang/RuntimeException", "java/lang/Exception"], w ∈ TB ∨ w ∈ TN := zHat (by decide +kernel)
theorem hgd_ArithmeticException_314_310 : ∀ w ∈ Cond.classLink RX9 310 "java/lang/ArithmeticException" :: Cond.initialized "java/lang/ArithmeticException" :: vx_atS RX9 314 "java/lang/ArithmeticException" ["java/lang/RuntimeException", "java/lang/Exception"], vx_ot w = true := fun w hw => List.all_eq_true.mp (by decide +kernel) w hw
theorem hat_IllegalArgumentException_155 : ∀ w ∈ vx_atS RX9 155 "java/lang/IllegalArgumentException" ["java/lang/RuntimeException", "java/lang/Exception"], w ∈ TB ∨ w ∈ TN := zHat (by decide +kernel)
theorem hgd_IllegalArgumentException_155_151 : ∀ w ∈ Cond.classLink RX9 151 "java/lang/IllegalArgumentException" :: Cond.initialized "java/lang/IllegalArgumentException" :: vx_atS RX9 155 "java/lang/IllegalArgumentException" ["java/lang/RuntimeException", "java/lang/Exception"], vx_ot w = true := fun w hw => List.all_eq_true.mp (by decide +kernel) w hw
theorem hat_IllegalStateException_343 : ∀ w ∈ vx_atS RX9 343 "java/lang/IllegalStateException" ["java/lang/RuntimeException", "java/lang/Exception"], w ∈ TB ∨ w ∈ TN := zHat (by decide +kernel)
theorem hgd_IllegalStateException_343_339 : ∀ w ∈ Cond.classLink RX9 339 "java/lang/IllegalStateException" :: Cond.initialized "java/lang/IllegalStateException" :: vx_atS RX9 343 "java/lang/IllegalStateException" ["java/lang/RuntimeException", "java/lang/Exception"], vx_ot w = true := fun w hw => List.all_eq_true.mp (by decide +kernel) w hw
theorem hat_IndexOutOfBoundsException_249 : ∀ w ∈ vx_atS RX9 249 "java/lang/IndexOutOfBoundsException" ["java/lang/RuntimeException", "java/lang/Exception"], w ∈ TB ∨ w ∈ TN := zHat (by decide +kernel)
theorem hgd_IndexOutOfBoundsException_249_245 : ∀ w ∈ Cond.classLink RX9 245 "java/lang/IndexOutOfBoundsException" :: Cond.initialized "java/lang/IndexOutOfBoundsException" :: vx_atS RX9 249 "java/lang/IndexOutOfBoundsException" ["java/lang/RuntimeException", "java/lang/Exception"], vx_ot w = true := fun w hw => List.all_eq_true.mp (by decide +kernel) w hw
theorem hat_NoSuchElementException_132 : ∀ w ∈ zAtN RX9 132, w ∈ TB ∨ w ∈ TN := zHat (by decide +kernel)
theorem hgd_NoSuchElementException_132_128 : ∀ w ∈ Cond.classLink RX9 128 "java/util/NoSuchElementException" :: Cond.initialized "java/util/NoSuchElementException" :: zAtN RX9 132, vx_ot w = true := fun w hw => List.all_eq_true.mp (by decide +kernel) w hw
theorem hat_UnsupportedOperationException_437 : ∀ w ∈ vx_atS RX9 437 "java/lang/UnsupportedOperationException" ["java/lang/RuntimeException", "java/lang/Exception"], w ∈ TB ∨ w ∈ TN := zHat (by decide +kernel)
theorem hgd_UnsupportedOperationException_437_433 : ∀ w ∈ Cond.classLink RX9 433 "java/lang/UnsupportedOperationException" :: Cond.initialized "java/lang/UnsupportedOperationException" :: vx_atS RX9 437 "java/lang/UnsupportedOperationException" ["java/lang/RuntimeException", "java/lang/Exception"], vx_ot w = true := fun w hw => List.all_eq_true.mp (by decide +kernel) w hw
theorem hz_J13_bitCount_95d88 : (yJ13_bitCount_95d88.cls ≠ "java/lang/invoke/MethodHandle" ∧ yJ13_bitCount_95d88.cls ≠ "java/lang/invoke/VarHandle" ∧ (parseMethodDescriptor yJ13_bitCount_95d88.desc).map (fun d => d.parameters.length) = some 1) := ⟨by decide +kernel, by decide +kernel, by decide +kernel⟩
theorem hy_J13_bitCount_95d88 : yJ13_bitCount_95d88.cls = RJ13 ∧ (yJ13_bitCount_95d88.cls ≠ "java/lang/invoke/MethodHandle" ∧ yJ13_bitCount_95d88.cls ≠ "java/lang/invoke/VarHandle" ∧ (parseMethodDescriptor yJ13_bitCount_95d88.desc).map (fun d => d.parameters.length) = some 1) := ⟨rfl, hz_J13_bitCount_95d88⟩
theorem hz_J6_bitCount_0f7a4 : (yJ6_bitCount_0f7a4.cls ≠ "java/lang/invoke/MethodHandle" ∧ yJ6_bitCount_0f7a4.cls ≠ "java/lang/invoke/VarHandle" ∧ (parseMethodDescriptor yJ6_bitCount_0f7a4.desc).map (fun d => d.parameters.length) = some 1) := ⟨by decide +kernel, by decide +kernel, by decide +kernel⟩
theorem hy_J6_bitCount_0f7a4 : yJ6_bitCount_0f7a4.cls = RJ6 ∧ (yJ6_bitCount_0f7a4.cls ≠ "java/lang/invoke/MethodHandle" ∧ yJ6_bitCount_0f7a4.cls ≠ "java/lang/invoke/VarHandle" ∧ (parseMethodDescriptor yJ6_bitCount_0f7a4.desc).map (fun d => d.parameters.length) = some 1) := ⟨rfl, hz_J6_bitCount_0f7a4⟩
theorem hz_X0_keep : (yX0_keep.cls ≠ "java/lang/invoke/MethodHandle" ∧ yX0_keep.cls ≠ "java/lang/invoke/VarHandle" ∧ (parseMethodDescriptor yX0_keep.desc).map (fun d => d.parameters.length) = some 1) := ⟨by decide +kernel, by decide +kernel, by decide +kernel⟩
theorem hy_X0_keep : yX0_keep.cls = RX0 ∧ (yX0_keep.cls ≠ "java/lang/invoke/MethodHandle" ∧ yX0_keep.cls ≠ "java/lang/invoke/VarHandle" ∧ (parseMethodDescriptor yX0_keep.desc).map (fun d => d.parameters.length) = some 1) := ⟨rfl, hz_X0_keep⟩
theorem hz_X0_placeAt : (yX0_placeAt.cls ≠ "java/lang/invoke/MethodHandle" ∧ yX0_placeAt.cls ≠ "java/lang/invoke/VarHandle" ∧ (parseMethodDescriptor yX0_placeAt.desc).map (fun d => d.parameters.length) = some 1) := ⟨by decide +kernel, by decide +kernel, by decide +kernel⟩
theorem hy_X0_placeAt : yX0_placeAt.cls = RX0 ∧ (yX0_placeAt.cls ≠ "java/lang/invoke/MethodHandle" ∧ yX0_placeAt.cls ≠ "java/lang/invoke/VarHandle" ∧ (parseMethodDescriptor yX0_placeAt.desc).map (fun d => d.parameters.length) = some 1) := ⟨rfl, hz_X0_placeAt⟩
theorem hz_X0_takeInto : (yX0_takeInto.cls ≠ "java/lang/invoke/MethodHandle" ∧ yX0_takeInto.cls ≠ "java/lang/invoke/VarHandle" ∧ (parseMethodDescriptor yX0_takeInto.desc).map (fun d => d.parameters.length) = some 1) := ⟨by decide +kernel, by decide +kernel, by decide +kernel⟩
theorem hy_X0_takeInto : yX0_takeInto.cls = RX0 ∧ (yX0_takeInto.cls ≠ "java/lang/invoke/MethodHandle" ∧ yX0_takeInto.cls ≠ "java/lang/invoke/VarHandle" ∧ (parseMethodDescriptor yX0_takeInto.desc).map (fun d => d.parameters.length) = some 1) := ⟨rfl, hz_X0_takeInto⟩
theorem hz_X1_allows : (yX1_allows.cls ≠ "java/lang/invoke/MethodHandle" ∧ yX1_allows.cls ≠ "java/lang/invoke/VarHandle" ∧ (parseMethodDescriptor yX1_allows.desc).map (fun d => d.parameters.length) = some 3) := ⟨by decide +kernel, by decide +kernel, by decide +kernel⟩
theorem hy_X1_allows : yX1_allows.cls = RX1 ∧ (yX1_allows.cls ≠ "java/lang/invoke/MethodHandle" ∧ yX1_allows.cls ≠ "java/lang/invoke/VarHandle" ∧ (parseMethodDescriptor yX1_allows.desc).map (fun d => d.parameters.length) = some 3) := ⟨rfl, hz_X1_allows⟩
theorem hz_X1_become : (yX1_become.cls ≠ "java/lang/invoke/MethodHandle" ∧ yX1_become.cls ≠ "java/lang/invoke/VarHandle" ∧ (parseMethodDescriptor yX1_become.desc).map (fun d => d.parameters.length) = some 1) := ⟨by decide +kernel, by decide +kernel, by decide +kernel⟩
theorem hy_X1_become : yX1_become.cls = RX1 ∧ (yX1_become.cls ≠ "java/lang/invoke/MethodHandle" ∧ yX1_become.cls ≠ "java/lang/invoke/VarHandle" ∧ (parseMethodDescriptor yX1_become.desc).map (fun d => d.parameters.length) = some 1) := ⟨rfl, hz_X1_become⟩
theorem hz_X1_fits : (yX1_fits.cls ≠ "java/lang/invoke/MethodHandle" ∧ yX1_fits.cls ≠ "java/lang/invoke/VarHandle" ∧ (parseMethodDescriptor yX1_fits.desc).map (fun d => d.parameters.length) = some 3) := ⟨by decide +kernel, by decide +kernel, by decide +kernel⟩
theorem hy_X1_fits : yX1_fits.cls = RX1 ∧ (yX1_fits.cls ≠ "java/lang/invoke/MethodHandle" ∧ yX1_fits.cls ≠ "java/lang/invoke/VarHandle" ∧ (parseMethodDescriptor yX1_fits.desc).map (fun d => d.parameters.length) = some 3) := ⟨rfl, hz_X1_fits⟩
theorem hz_X1_has : (yX1_has.cls ≠ "java/lang/invoke/MethodHandle" ∧ yX1_has.cls ≠ "java/lang/invoke/VarHandle" ∧ (parseMethodDescriptor yX1_has.desc).map (fun d => d.parameters.length) = some 1) := ⟨by decide +kernel, by decide +kernel, by decide +kernel⟩
theorem hy_X1_has : yX1_has.cls = RX1 ∧ (yX1_has.cls ≠ "java/lang/invoke/MethodHandle" ∧ yX1_has.cls ≠ "java/lang/invoke/VarHandle" ∧ (parseMethodDescriptor yX1_has.desc).map (fun d => d.parameters.length) = some 1) := ⟨rfl, hz_X1_has⟩
theorem hz_X1_holds : (yX1_holds.cls ≠ "java/lang/invoke/MethodHandle" ∧ yX1_holds.cls ≠ "java/lang/invoke/VarHandle" ∧ (parseMethodDescriptor yX1_holds.desc).map (fun d => d.parameters.length) = some 1) := ⟨by decide +kernel, by decide +kernel, by decide +kernel⟩
theorem hy_X1_holds : yX1_holds.cls = RX1 ∧ (yX1_holds.cls ≠ "java/lang/invoke/MethodHandle" ∧ yX1_holds.cls ≠ "java/lang/invoke/VarHandle" ∧ (parseMethodDescriptor yX1_holds.desc).map (fun d => d.parameters.length) = some 1) := ⟨rfl, hz_X1_holds⟩
theorem hz_X1_isTrap : (yX1_isTrap.cls ≠ "java/lang/invoke/MethodHandle" ∧ yX1_isTrap.cls ≠ "java/lang/invoke/VarHandle" ∧ (parseMethodDescriptor yX1_isTrap.desc).map (fun d => d.parameters.length) = some 1) := ⟨by decide +kernel, by decide +kernel, by decide +kernel⟩
theorem hy_X1_isTrap : yX1_isTrap.cls = RX1 ∧ (yX1_isTrap.cls ≠ "java/lang/invoke/MethodHandle" ∧ yX1_isTrap.cls ≠ "java/lang/invoke/VarHandle" ∧ (parseMethodDescriptor yX1_isTrap.desc).map (fun d => d.parameters.length) = some 1) := ⟨rfl, hz_X1_isTrap⟩
theorem hz_X1_join : (yX1_join.cls ≠ "java/lang/invoke/MethodHandle" ∧ yX1_join.cls ≠ "java/lang/invoke/VarHandle" ∧ (parseMethodDescriptor yX1_join.desc).map (fun d => d.parameters.length) = some 2) := ⟨by decide +kernel, by decide +kernel, by decide +kernel⟩
theorem hy_X1_join : yX1_join.cls = RX1 ∧ (yX1_join.cls ≠ "java/lang/invoke/MethodHandle" ∧ yX1_join.cls ≠ "java/lang/invoke/VarHandle" ∧ (parseMethodDescriptor yX1_join.desc).map (fun d => d.parameters.length) = some 2) := ⟨rfl, hz_X1_join⟩
theorem hz_X1_listPositions : (yX1_listPositions.cls ≠ "java/lang/invoke/MethodHandle" ∧ yX1_listPositions.cls ≠ "java/lang/invoke/VarHandle" ∧ (parseMethodDescriptor yX1_listPositions.desc).map (fun d => d.parameters.length) = some 1) := ⟨by decide +kernel, by decide +kernel, by decide +kernel⟩
theorem hy_X1_listPositions : yX1_listPositions.cls = RX1 ∧ (yX1_listPositions.cls ≠ "java/lang/invoke/MethodHandle" ∧ yX1_listPositions.cls ≠ "java/lang/invoke/VarHandle" ∧ (parseMethodDescriptor yX1_listPositions.desc).map (fun d => d.parameters.length) = some 1) := ⟨rfl, hz_X1_listPositions⟩
theorem hz_X1_moves : (yX1_moves.cls ≠ "java/lang/invoke/MethodHandle" ∧ yX1_moves.cls ≠ "java/lang/invoke/VarHandle" ∧ (parseMethodDescriptor yX1_moves.desc).map (fun d => d.parameters.length) = some 2) := ⟨by decide +kernel, by decide +kernel, by decide +kernel⟩
theorem hy_X1_moves : yX1_moves.cls = RX1 ∧ (yX1_moves.cls ≠ "java/lang/invoke/MethodHandle" ∧ yX1_moves.cls ≠ "java/lang/invoke/VarHandle" ∧ (parseMethodDescriptor yX1_moves.desc).map (fun d => d.parameters.length) = some 2) := ⟨rfl, hz_X1_moves⟩
theorem hz_X1_movesOf : (yX1_movesOf.cls ≠ "java/lang/invoke/MethodHandle" ∧ yX1_movesOf.cls ≠ "java/lang/invoke/VarHandle" ∧ (parseMethodDescriptor yX1_movesOf.desc).map (fun d => d.parameters.length) = some 1) := ⟨by decide +kernel, by decide +kernel, by decide +kernel⟩
theorem hy_X1_movesOf : yX1_movesOf.cls = RX1 ∧ (yX1_movesOf.cls ≠ "java/lang/invoke/MethodHandle" ∧ yX1_movesOf.cls ≠ "java/lang/invoke/VarHandle" ∧ (parseMethodDescriptor yX1_movesOf.desc).map (fun d => d.parameters.length) = some 1) := ⟨rfl, hz_X1_movesOf⟩
theorem hz_X1_part : (yX1_part.cls ≠ "java/lang/invoke/MethodHandle" ∧ yX1_part.cls ≠ "java/lang/invoke/VarHandle" ∧ (parseMethodDescriptor yX1_part.desc).map (fun d => d.parameters.length) = some 1) := ⟨by decide +kernel, by decide +kernel, by decide +kernel⟩
theorem hy_X1_part : yX1_part.cls = RX1 ∧ (yX1_part.cls ≠ "java/lang/invoke/MethodHandle" ∧ yX1_part.cls ≠ "java/lang/invoke/VarHandle" ∧ (parseMethodDescriptor yX1_part.desc).map (fun d => d.parameters.length) = some 1) := ⟨rfl, hz_X1_part⟩
theorem hz_X1_pathBetween : (yX1_pathBetween.cls ≠ "java/lang/invoke/MethodHandle" ∧ yX1_pathBetween.cls ≠ "java/lang/invoke/VarHandle" ∧ (parseMethodDescriptor yX1_pathBetween.desc).map (fun d => d.parameters.length) = some 2) := ⟨by decide +kernel, by decide +kernel, by decide +kernel⟩
theorem hy_X1_pathBetween : yX1_pathBetween.cls = RX1 ∧ (yX1_pathBetween.cls ≠ "java/lang/invoke/MethodHandle" ∧ yX1_pathBetween.cls ≠ "java/lang/invoke/VarHandle" ∧ (parseMethodDescriptor yX1_pathBetween.desc).map (fun d => d.parameters.length) = some 2) := ⟨rfl, hz_X1_pathBetween⟩
theorem hz_X1_taken : (yX1_taken.cls ≠ "java/lang/invoke/MethodHandle" ∧ yX1_taken.cls ≠ "java/lang/invoke/VarHandle" ∧ (parseMethodDescriptor yX1_taken.desc).map (fun d => d.parameters.length) = some 1) := ⟨by decide +kernel, by decide +kernel, by decide +kernel⟩
theorem hy_X1_taken : yX1_taken.cls = RX1 ∧ (yX1_taken.cls ≠ "java/lang/invoke/MethodHandle" ∧ yX1_taken.cls ≠ "java/lang/invoke/VarHandle" ∧ (parseMethodDescriptor yX1_taken.desc).map (fun d => d.parameters.length) = some 1) := ⟨rfl, hz_X1_taken⟩
theorem hz_X1_turnNear : (yX1_turnNear.cls ≠ "java/lang/invoke/MethodHandle" ∧ yX1_turnNear.cls ≠ "java/lang/invoke/VarHandle" ∧ (parseMethodDescriptor yX1_turnNear.desc).map (fun d => d.parameters.length) = some 2) := ⟨by decide +kernel, by decide +kernel, by decide +kernel⟩
theorem hy_X1_turnNear : yX1_turnNear.cls = RX1 ∧ (yX1_turnNear.cls ≠ "java/lang/invoke/MethodHandle" ∧ yX1_turnNear.cls ≠ "java/lang/invoke/VarHandle" ∧ (parseMethodDescriptor yX1_turnNear.desc).map (fun d => d.parameters.length) = some 2) := ⟨rfl, hz_X1_turnNear⟩
theorem hz_X1_waysBack : (yX1_waysBack.cls ≠ "java/lang/invoke/MethodHandle" ∧ yX1_waysBack.cls ≠ "java/lang/invoke/VarHandle" ∧ (parseMethodDescriptor yX1_waysBack.desc).map (fun d => d.parameters.length) = some 1) := ⟨by decide +kernel, by decide +kernel, by decide +kernel⟩
theorem hy_X1_waysBack : yX1_waysBack.cls = RX1 ∧ (yX1_waysBack.cls ≠ "java/lang/invoke/MethodHandle" ∧ yX1_waysBack.cls ≠ "java/lang/invoke/VarHandle" ∧ (parseMethodDescriptor yX1_waysBack.desc).map (fun d => d.parameters.length) = some 1) := ⟨rfl, hz_X1_waysBack⟩
theorem hz_X2_add : (yX2_add.cls ≠ "java/lang/invoke/MethodHandle" ∧ yX2_add.cls ≠ "java/lang/invoke/VarHandle" ∧ (parseMethodDescriptor yX2_add.desc).map (fun d => d.parameters.length) = some 2) := ⟨by decide +kernel, by decide +kernel, by decide +kernel⟩
theorem hy_X2_add : yX2_add.cls = RX2 ∧ (yX2_add.cls ≠ "java/lang/invoke/MethodHandle" ∧ yX2_add.cls ≠ "java/lang/invoke/VarHandle" ∧ (parseMethodDescriptor yX2_add.desc).map (fun d => d.parameters.length) = some 2) := ⟨rfl, hz_X2_add⟩
theorem hz_X2_become : (yX2_become.cls ≠ "java/lang/invoke/MethodHandle" ∧ yX2_become.cls ≠ "java/lang/invoke/VarHandle" ∧ (parseMethodDescriptor yX2_become.desc).map (fun d => d.parameters.length) = some 1) := ⟨by decide +kernel, by decide +kernel, by decide +kernel⟩
theorem hy_X2_become : yX2_become.cls = RX2 ∧ (yX2_become.cls ≠ "java/lang/invoke/MethodHandle" ∧ yX2_become.cls ≠ "java/lang/invoke/VarHandle" ∧ (parseMethodDescriptor yX2_become.desc).map (fun d => d.parameters.length) = some 1) := ⟨rfl, hz_X2_become⟩
theorem hz_X2_lastPosition : (yX2_lastPosition.cls ≠ "java/lang/invoke/MethodHandle" ∧ yX2_lastPosition.cls ≠ "java/lang/invoke/VarHandle" ∧ (parseMethodDescriptor yX2_lastPosition.desc).map (fun d => d.parameters.length) = some 0) := ⟨by decide +kernel, by decide +kernel, by decide +kernel⟩
theorem hy_X2_lastPosition : yX2_lastPosition.cls = RX2 ∧ (yX2_lastPosition.cls ≠ "java/lang/invoke/MethodHandle" ∧ yX2_lastPosition.cls ≠ "java/lang/invoke/VarHandle" ∧ (parseMethodDescriptor yX2_lastPosition.desc).map (fun d => d.parameters.length) = some 0) := ⟨rfl, hz_X2_lastPosition⟩
theorem hz_X2_start : (yX2_start.cls ≠ "java/lang/invoke/MethodHandle" ∧ yX2_start.cls ≠ "java/lang/invoke/VarHandle" ∧ (parseMethodDescriptor yX2_start.desc).map (fun d => d.parameters.length) = some 1) := ⟨by decide +kernel, by decide +kernel, by decide +kernel⟩
theorem hy_X2_start : yX2_start.cls = RX2 ∧ (yX2_start.cls ≠ "java/lang/invoke/MethodHandle" ∧ yX2_start.cls ≠ "java/lang/invoke/VarHandle" ∧ (parseMethodDescriptor yX2_start.desc).map (fun d => d.parameters.length) = some 1) := ⟨rfl, hz_X2_start⟩
theorem hz_X3_digitsOf : (yX3_digitsOf.cls ≠ "java/lang/invoke/MethodHandle" ∧ yX3_digitsOf.cls ≠ "java/lang/invoke/VarHandle" ∧ (parseMethodDescriptor yX3_digitsOf.desc).map (fun d => d.parameters.length) = some 1) := ⟨by decide +kernel, by decide +kernel, by decide +kernel⟩
theorem hy_X3_digitsOf : yX3_digitsOf.cls = RX3 ∧ (yX3_digitsOf.cls ≠ "java/lang/invoke/MethodHandle" ∧ yX3_digitsOf.cls ≠ "java/lang/invoke/VarHandle" ∧ (parseMethodDescriptor yX3_digitsOf.desc).map (fun d => d.parameters.length) = some 1) := ⟨rfl, hz_X3_digitsOf⟩
theorem hz_X3_isCommand : (yX3_isCommand.cls ≠ "java/lang/invoke/MethodHandle" ∧ yX3_isCommand.cls ≠ "java/lang/invoke/VarHandle" ∧ (parseMethodDescriptor yX3_isCommand.desc).map (fun d => d.parameters.length) = some 1) := ⟨by decide +kernel, by decide +kernel, by decide +kernel⟩
theorem hy_X3_isCommand : yX3_isCommand.cls = RX3 ∧ (yX3_isCommand.cls ≠ "java/lang/invoke/MethodHandle" ∧ yX3_isCommand.cls ≠ "java/lang/invoke/VarHandle" ∧ (parseMethodDescriptor yX3_isCommand.desc).map (fun d => d.parameters.length) = some 1) := ⟨rfl, hz_X3_isCommand⟩
theorem hz_X3_markOf : (yX3_markOf.cls ≠ "java/lang/invoke/MethodHandle" ∧ yX3_markOf.cls ≠ "java/lang/invoke/VarHandle" ∧ (parseMethodDescriptor yX3_markOf.desc).map (fun d => d.parameters.length) = some 1) := ⟨by decide +kernel, by decide +kernel, by decide +kernel⟩
theorem hy_X3_markOf : yX3_markOf.cls = RX3 ∧ (yX3_markOf.cls ≠ "java/lang/invoke/MethodHandle" ∧ yX3_markOf.cls ≠ "java/lang/invoke/VarHandle" ∧ (parseMethodDescriptor yX3_markOf.desc).map (fun d => d.parameters.length) = some 1) := ⟨rfl, hz_X3_markOf⟩
theorem hz_X3_numberIn : (yX3_numberIn.cls ≠ "java/lang/invoke/MethodHandle" ∧ yX3_numberIn.cls ≠ "java/lang/invoke/VarHandle" ∧ (parseMethodDescriptor yX3_numberIn.desc).map (fun d => d.parameters.length) = some 2) := ⟨by decide +kernel, by decide +kernel, by decide +kernel⟩
theorem hy_X3_numberIn : yX3_numberIn.cls = RX3 ∧ (yX3_numberIn.cls ≠ "java/lang/invoke/MethodHandle" ∧ yX3_numberIn.cls ≠ "java/lang/invoke/VarHandle" ∧ (parseMethodDescriptor yX3_numberIn.desc).map (fun d => d.parameters.length) = some 2) := ⟨rfl, hz_X3_numberIn⟩
theorem hz_X3_read : (yX3_read.cls ≠ "java/lang/invoke/MethodHandle" ∧ yX3_read.cls ≠ "java/lang/invoke/VarHandle" ∧ (parseMethodDescriptor yX3_read.desc).map (fun d => d.parameters.length) = some 1) := ⟨by decide +kernel, by decide +kernel, by decide +kernel⟩
theorem hy_X3_read : yX3_read.cls = RX3 ∧ (yX3_read.cls ≠ "java/lang/invoke/MethodHandle" ∧ yX3_read.cls ≠ "java/lang/invoke/VarHandle" ∧ (parseMethodDescriptor yX3_read.desc).map (fun d => d.parameters.length) = some 1) := ⟨rfl, hz_X3_read⟩
theorem hz_X5_outcomeOf : (yX5_outcomeOf.cls ≠ "java/lang/invoke/MethodHandle" ∧ yX5_outcomeOf.cls ≠ "java/lang/invoke/VarHandle" ∧ (parseMethodDescriptor yX5_outcomeOf.desc).map (fun d => d.parameters.length) = some 1) := ⟨by decide +kernel, by decide +kernel, by decide +kernel⟩
theorem hy_X5_outcomeOf : yX5_outcomeOf.cls = RX5 ∧ (yX5_outcomeOf.cls ≠ "java/lang/invoke/MethodHandle" ∧ yX5_outcomeOf.cls ≠ "java/lang/invoke/VarHandle" ∧ (parseMethodDescriptor yX5_outcomeOf.desc).map (fun d => d.parameters.length) = some 1) := ⟨rfl, hz_X5_outcomeOf⟩
theorem hz_X5_seen : (yX5_seen.cls ≠ "java/lang/invoke/MethodHandle" ∧ yX5_seen.cls ≠ "java/lang/invoke/VarHandle" ∧ (parseMethodDescriptor yX5_seen.desc).map (fun d => d.parameters.length) = some 2) := ⟨by decide +kernel, by decide +kernel, by decide +kernel⟩
theorem hy_X5_seen : yX5_seen.cls = RX5 ∧ (yX5_seen.cls ≠ "java/lang/invoke/MethodHandle" ∧ yX5_seen.cls ≠ "java/lang/invoke/VarHandle" ∧ (parseMethodDescriptor yX5_seen.desc).map (fun d => d.parameters.length) = some 2) := ⟨rfl, hz_X5_seen⟩
theorem hz_X5_solve : (yX5_solve.cls ≠ "java/lang/invoke/MethodHandle" ∧ yX5_solve.cls ≠ "java/lang/invoke/VarHandle" ∧ (parseMethodDescriptor yX5_solve.desc).map (fun d => d.parameters.length) = some 1) := ⟨by decide +kernel, by decide +kernel, by decide +kernel⟩
theorem hy_X5_solve : yX5_solve.cls = RX5 ∧ (yX5_solve.cls ≠ "java/lang/invoke/MethodHandle" ∧ yX5_solve.cls ≠ "java/lang/invoke/VarHandle" ∧ (parseMethodDescriptor yX5_solve.desc).map (fun d => d.parameters.length) = some 1) := ⟨rfl, hz_X5_solve⟩
theorem hz_X6_become : (yX6_become.cls ≠ "java/lang/invoke/MethodHandle" ∧ yX6_become.cls ≠ "java/lang/invoke/VarHandle" ∧ (parseMethodDescriptor yX6_become.desc).map (fun d => d.parameters.length) = some 1) := ⟨by decide +kernel, by decide +kernel, by decide +kernel⟩
theorem hy_X6_become : yX6_become.cls = RX6 ∧ (yX6_become.cls ≠ "java/lang/invoke/MethodHandle" ∧ yX6_become.cls ≠ "java/lang/invoke/VarHandle" ∧ (parseMethodDescriptor yX6_become.desc).map (fun d => d.parameters.length) = some 1) := ⟨rfl, hz_X6_become⟩
theorem hz_X7_bestMove : (yX7_bestMove.cls ≠ "java/lang/invoke/MethodHandle" ∧ yX7_bestMove.cls ≠ "java/lang/invoke/VarHandle" ∧ (parseMethodDescriptor yX7_bestMove.desc).map (fun d => d.parameters.length) = some 2) := ⟨by decide +kernel, by decide +kernel, by decide +kernel⟩
theorem hy_X7_bestMove : yX7_bestMove.cls = RX7 ∧ (yX7_bestMove.cls ≠ "java/lang/invoke/MethodHandle" ∧ yX7_bestMove.cls ≠ "java/lang/invoke/VarHandle" ∧ (parseMethodDescriptor yX7_bestMove.desc).map (fun d => d.parameters.length) = some 2) := ⟨rfl, hz_X7_bestMove⟩
theorem hz_X7_inMoves : (yX7_inMoves.cls ≠ "java/lang/invoke/MethodHandle" ∧ yX7_inMoves.cls ≠ "java/lang/invoke/VarHandle" ∧ (parseMethodDescriptor yX7_inMoves.desc).map (fun d => d.parameters.length) = some 1) := ⟨by decide +kernel, by decide +kernel, by decide +kernel⟩
theorem hy_X7_inMoves : yX7_inMoves.cls = RX7 ∧ (yX7_inMoves.cls ≠ "java/lang/invoke/MethodHandle" ∧ yX7_inMoves.cls ≠ "java/lang/invoke/VarHandle" ∧ (parseMethodDescriptor yX7_inMoves.desc).map (fun d => d.parameters.length) = some 1) := ⟨rfl, hz_X7_inMoves⟩
theorem hz_X7_isDecided : (yX7_isDecided.cls ≠ "java/lang/invoke/MethodHandle" ∧ yX7_isDecided.cls ≠ "java/lang/invoke/VarHandle" ∧ (parseMethodDescriptor yX7_isDecided.desc).map (fun d => d.parameters.length) = some 2) := ⟨by decide +kernel, by decide +kernel, by decide +kernel⟩
theorem hy_X7_isDecided : yX7_isDecided.cls = RX7 ∧ (yX7_isDecided.cls ≠ "java/lang/invoke/MethodHandle" ∧ yX7_isDecided.cls ≠ "java/lang/invoke/VarHandle" ∧ (parseMethodDescriptor yX7_isDecided.desc).map (fun d => d.parameters.length) = some 2) := ⟨rfl, hz_X7_isDecided⟩
theorem hz_X7_isFoxWinning : (yX7_isFoxWinning.cls ≠ "java/lang/invoke/MethodHandle" ∧ yX7_isFoxWinning.cls ≠ "java/lang/invoke/VarHandle" ∧ (parseMethodDescriptor yX7_isFoxWinning.desc).map (fun d => d.parameters.length) = some 1) := ⟨by decide +kernel, by decide +kernel, by decide +kernel⟩
theorem hy_X7_isFoxWinning : yX7_isFoxWinning.cls = RX7 ∧ (yX7_isFoxWinning.cls ≠ "java/lang/invoke/MethodHandle" ∧ yX7_isFoxWinning.cls ≠ "java/lang/invoke/VarHandle" ∧ (parseMethodDescriptor yX7_isFoxWinning.desc).map (fun d => d.parameters.length) = some 1) := ⟨rfl, hz_X7_isFoxWinning⟩
theorem hz_X7_outcomeOf : (yX7_outcomeOf.cls ≠ "java/lang/invoke/MethodHandle" ∧ yX7_outcomeOf.cls ≠ "java/lang/invoke/VarHandle" ∧ (parseMethodDescriptor yX7_outcomeOf.desc).map (fun d => d.parameters.length) = some 1) := ⟨by decide +kernel, by decide +kernel, by decide +kernel⟩
theorem hy_X7_outcomeOf : yX7_outcomeOf.cls = RX7 ∧ (yX7_outcomeOf.cls ≠ "java/lang/invoke/MethodHandle" ∧ yX7_outcomeOf.cls ≠ "java/lang/invoke/VarHandle" ∧ (parseMethodDescriptor yX7_outcomeOf.desc).map (fun d => d.parameters.length) = some 1) := ⟨rfl, hz_X7_outcomeOf⟩
theorem hz_X7_positionAt : (yX7_positionAt.cls ≠ "java/lang/invoke/MethodHandle" ∧ yX7_positionAt.cls ≠ "java/lang/invoke/VarHandle" ∧ (parseMethodDescriptor yX7_positionAt.desc).map (fun d => d.parameters.length) = some 1) := ⟨by decide +kernel, by decide +kernel, by decide +kernel⟩
theorem hy_X7_positionAt : yX7_positionAt.cls = RX7 ∧ (yX7_positionAt.cls ≠ "java/lang/invoke/MethodHandle" ∧ yX7_positionAt.cls ≠ "java/lang/invoke/VarHandle" ∧ (parseMethodDescriptor yX7_positionAt.desc).map (fun d => d.parameters.length) = some 1) := ⟨rfl, hz_X7_positionAt⟩
theorem hz_X7_solve : (yX7_solve.cls ≠ "java/lang/invoke/MethodHandle" ∧ yX7_solve.cls ≠ "java/lang/invoke/VarHandle" ∧ (parseMethodDescriptor yX7_solve.desc).map (fun d => d.parameters.length) = some 1) := ⟨by decide +kernel, by decide +kernel, by decide +kernel⟩
theorem hy_X7_solve : yX7_solve.cls = RX7 ∧ (yX7_solve.cls ≠ "java/lang/invoke/MethodHandle" ∧ yX7_solve.cls ≠ "java/lang/invoke/VarHandle" ∧ (parseMethodDescriptor yX7_solve.desc).map (fun d => d.parameters.length) = some 1) := ⟨rfl, hz_X7_solve⟩
theorem hz_X7_tellBefore : (yX7_tellBefore.cls ≠ "java/lang/invoke/MethodHandle" ∧ yX7_tellBefore.cls ≠ "java/lang/invoke/VarHandle" ∧ (parseMethodDescriptor yX7_tellBefore.desc).map (fun d => d.parameters.length) = some 3) := ⟨by decide +kernel, by decide +kernel, by decide +kernel⟩
theorem hy_X7_tellBefore : yX7_tellBefore.cls = RX7 ∧ (yX7_tellBefore.cls ≠ "java/lang/invoke/MethodHandle" ∧ yX7_tellBefore.cls ≠ "java/lang/invoke/VarHandle" ∧ (parseMethodDescriptor yX7_tellBefore.desc).map (fun d => d.parameters.length) = some 3) := ⟨rfl, hz_X7_tellBefore⟩
theorem hz_X8_add : (yX8_add.cls ≠ "java/lang/invoke/MethodHandle" ∧ yX8_add.cls ≠ "java/lang/invoke/VarHandle" ∧ (parseMethodDescriptor yX8_add.desc).map (fun d => d.parameters.length) = some 1) := ⟨by decide +kernel, by decide +kernel, by decide +kernel⟩
theorem hy_X8_add : yX8_add.cls = RX8 ∧ (yX8_add.cls ≠ "java/lang/invoke/MethodHandle" ∧ yX8_add.cls ≠ "java/lang/invoke/VarHandle" ∧ (parseMethodDescriptor yX8_add.desc).map (fun d => d.parameters.length) = some 1) := ⟨rfl, hz_X8_add⟩
theorem hz_X8_sign : (yX8_sign.cls ≠ "java/lang/invoke/MethodHandle" ∧ yX8_sign.cls ≠ "java/lang/invoke/VarHandle" ∧ (parseMethodDescriptor yX8_sign.desc).map (fun d => d.parameters.length) = some 1) := ⟨by decide +kernel, by decide +kernel, by decide +kernel⟩
theorem hy_X8_sign : yX8_sign.cls = RX8 ∧ (yX8_sign.cls ≠ "java/lang/invoke/MethodHandle" ∧ yX8_sign.cls ≠ "java/lang/invoke/VarHandle" ∧ (parseMethodDescriptor yX8_sign.desc).map (fun d => d.parameters.length) = some 1) := ⟨rfl, hz_X8_sign⟩
theorem hz_X9_above : (yX9_above.cls ≠ "java/lang/invoke/MethodHandle" ∧ yX9_above.cls ≠ "java/lang/invoke/VarHandle" ∧ (parseMethodDescriptor yX9_above.desc).map (fun d => d.parameters.length) = some 1) := ⟨by decide +kernel, by decide +kernel, by decide +kernel⟩
theorem hy_X9_above : yX9_above.cls = RX9 ∧ (yX9_above.cls ≠ "java/lang/invoke/MethodHandle" ∧ yX9_above.cls ≠ "java/lang/invoke/VarHandle" ∧ (parseMethodDescriptor yX9_above.desc).map (fun d => d.parameters.length) = some 1) := ⟨rfl, hz_X9_above⟩
theorem hz_X9_accountOfPositions : (yX9_accountOfPositions.cls ≠ "java/lang/invoke/MethodHandle" ∧ yX9_accountOfPositions.cls ≠ "java/lang/invoke/VarHandle" ∧ (parseMethodDescriptor yX9_accountOfPositions.desc).map (fun d => d.parameters.length) = some 1) := ⟨by decide +kernel, by decide +kernel, by decide +kernel⟩
theorem hy_X9_accountOfPositions : yX9_accountOfPositions.cls = RX9 ∧ (yX9_accountOfPositions.cls ≠ "java/lang/invoke/MethodHandle" ∧ yX9_accountOfPositions.cls ≠ "java/lang/invoke/VarHandle" ∧ (parseMethodDescriptor yX9_accountOfPositions.desc).map (fun d => d.parameters.length) = some 1) := ⟨rfl, hz_X9_accountOfPositions⟩
theorem hz_X9_addBurrow : (yX9_addBurrow.cls ≠ "java/lang/invoke/MethodHandle" ∧ yX9_addBurrow.cls ≠ "java/lang/invoke/VarHandle" ∧ (parseMethodDescriptor yX9_addBurrow.desc).map (fun d => d.parameters.length) = some 0) := ⟨by decide +kernel, by decide +kernel, by decide +kernel⟩
theorem hy_X9_addBurrow : yX9_addBurrow.cls = RX9 ∧ (yX9_addBurrow.cls ≠ "java/lang/invoke/MethodHandle" ∧ yX9_addBurrow.cls ≠ "java/lang/invoke/VarHandle" ∧ (parseMethodDescriptor yX9_addBurrow.desc).map (fun d => d.parameters.length) = some 0) := ⟨rfl, hz_X9_addBurrow⟩
theorem hz_X9_addPath : (yX9_addPath.cls ≠ "java/lang/invoke/MethodHandle" ∧ yX9_addPath.cls ≠ "java/lang/invoke/VarHandle" ∧ (parseMethodDescriptor yX9_addPath.desc).map (fun d => d.parameters.length) = some 2) := ⟨by decide +kernel, by decide +kernel, by decide +kernel⟩
theorem hy_X9_addPath : yX9_addPath.cls = RX9 ∧ (yX9_addPath.cls ≠ "java/lang/invoke/MethodHandle" ∧ yX9_addPath.cls ≠ "java/lang/invoke/VarHandle" ∧ (parseMethodDescriptor yX9_addPath.desc).map (fun d => d.parameters.length) = some 2) := ⟨rfl, hz_X9_addPath⟩
theorem hz_X9_at : (yX9_at.cls ≠ "java/lang/invoke/MethodHandle" ∧ yX9_at.cls ≠ "java/lang/invoke/VarHandle" ∧ (parseMethodDescriptor yX9_at.desc).map (fun d => d.parameters.length) = some 2) := ⟨by decide +kernel, by decide +kernel, by decide +kernel⟩
theorem hy_X9_at : yX9_at.cls = RX9 ∧ (yX9_at.cls ≠ "java/lang/invoke/MethodHandle" ∧ yX9_at.cls ≠ "java/lang/invoke/VarHandle" ∧ (parseMethodDescriptor yX9_at.desc).map (fun d => d.parameters.length) = some 2) := ⟨rfl, hz_X9_at⟩
theorem hz_X9_below : (yX9_below.cls ≠ "java/lang/invoke/MethodHandle" ∧ yX9_below.cls ≠ "java/lang/invoke/VarHandle" ∧ (parseMethodDescriptor yX9_below.desc).map (fun d => d.parameters.length) = some 1) := ⟨by decide +kernel, by decide +kernel, by decide +kernel⟩
theorem hy_X9_below : yX9_below.cls = RX9 ∧ (yX9_below.cls ≠ "java/lang/invoke/MethodHandle" ∧ yX9_below.cls ≠ "java/lang/invoke/VarHandle" ∧ (parseMethodDescriptor yX9_below.desc).map (fun d => d.parameters.length) = some 1) := ⟨rfl, hz_X9_below⟩
theorem hz_X9_bitOf : (yX9_bitOf.cls ≠ "java/lang/invoke/MethodHandle" ∧ yX9_bitOf.cls ≠ "java/lang/invoke/VarHandle" ∧ (parseMethodDescriptor yX9_bitOf.desc).map (fun d => d.parameters.length) = some 1) := ⟨by decide +kernel, by decide +kernel, by decide +kernel⟩
theorem hy_X9_bitOf : yX9_bitOf.cls = RX9 ∧ (yX9_bitOf.cls ≠ "java/lang/invoke/MethodHandle" ∧ yX9_bitOf.cls ≠ "java/lang/invoke/VarHandle" ∧ (parseMethodDescriptor yX9_bitOf.desc).map (fun d => d.parameters.length) = some 1) := ⟨rfl, hz_X9_bitOf⟩
theorem hz_X9_carriedOut : (yX9_carriedOut.cls ≠ "java/lang/invoke/MethodHandle" ∧ yX9_carriedOut.cls ≠ "java/lang/invoke/VarHandle" ∧ (parseMethodDescriptor yX9_carriedOut.desc).map (fun d => d.parameters.length) = some 1) := ⟨by decide +kernel, by decide +kernel, by decide +kernel⟩
theorem hy_X9_carriedOut : yX9_carriedOut.cls = RX9 ∧ (yX9_carriedOut.cls ≠ "java/lang/invoke/MethodHandle" ∧ yX9_carriedOut.cls ≠ "java/lang/invoke/VarHandle" ∧ (parseMethodDescriptor yX9_carriedOut.desc).map (fun d => d.parameters.length) = some 1) := ⟨rfl, hz_X9_carriedOut⟩
theorem hz_X9_copy : (yX9_copy.cls ≠ "java/lang/invoke/MethodHandle" ∧ yX9_copy.cls ≠ "java/lang/invoke/VarHandle" ∧ (parseMethodDescriptor yX9_copy.desc).map (fun d => d.parameters.length) = some 2) := ⟨by decide +kernel, by decide +kernel, by decide +kernel⟩
theorem hy_X9_copy : yX9_copy.cls = RX9 ∧ (yX9_copy.cls ≠ "java/lang/invoke/MethodHandle" ∧ yX9_copy.cls ≠ "java/lang/invoke/VarHandle" ∧ (parseMethodDescriptor yX9_copy.desc).map (fun d => d.parameters.length) = some 2) := ⟨rfl, hz_X9_copy⟩
theorem hz_X9_dropPath : (yX9_dropPath.cls ≠ "java/lang/invoke/MethodHandle" ∧ yX9_dropPath.cls ≠ "java/lang/invoke/VarHandle" ∧ (parseMethodDescriptor yX9_dropPath.desc).map (fun d => d.parameters.length) = some 2) := ⟨by decide +kernel, by decide +kernel, by decide +kernel⟩
theorem hy_X9_dropPath : yX9_dropPath.cls = RX9 ∧ (yX9_dropPath.cls ≠ "java/lang/invoke/MethodHandle" ∧ yX9_dropPath.cls ≠ "java/lang/invoke/VarHandle" ∧ (parseMethodDescriptor yX9_dropPath.desc).map (fun d => d.parameters.length) = some 2) := ⟨rfl, hz_X9_dropPath⟩
theorem hz_X9_firstMove : (yX9_firstMove.cls ≠ "java/lang/invoke/MethodHandle" ∧ yX9_firstMove.cls ≠ "java/lang/invoke/VarHandle" ∧ (parseMethodDescriptor yX9_firstMove.desc).map (fun d => d.parameters.length) = some 1) := ⟨by decide +kernel, by decide +kernel, by decide +kernel⟩
theorem hy_X9_firstMove : yX9_firstMove.cls = RX9 ∧ (yX9_firstMove.cls ≠ "java/lang/invoke/MethodHandle" ∧ yX9_firstMove.cls ≠ "java/lang/invoke/VarHandle" ∧ (parseMethodDescriptor yX9_firstMove.desc).map (fun d => d.parameters.length) = some 1) := ⟨rfl, hz_X9_firstMove⟩
theorem hz_X9_firstOf : (yX9_firstOf.cls ≠ "java/lang/invoke/MethodHandle" ∧ yX9_firstOf.cls ≠ "java/lang/invoke/VarHandle" ∧ (parseMethodDescriptor yX9_firstOf.desc).map (fun d => d.parameters.length) = some 1) := ⟨by decide +kernel, by decide +kernel, by decide +kernel⟩
theorem hy_X9_firstOf : yX9_firstOf.cls = RX9 ∧ (yX9_firstOf.cls ≠ "java/lang/invoke/MethodHandle" ∧ yX9_firstOf.cls ≠ "java/lang/invoke/VarHandle" ∧ (parseMethodDescriptor yX9_firstOf.desc).map (fun d => d.parameters.length) = some 1) := ⟨rfl, hz_X9_firstOf⟩
theorem hz_X9_foxOf : (yX9_foxOf.cls ≠ "java/lang/invoke/MethodHandle" ∧ yX9_foxOf.cls ≠ "java/lang/invoke/VarHandle" ∧ (parseMethodDescriptor yX9_foxOf.desc).map (fun d => d.parameters.length) = some 1) := ⟨by decide +kernel, by decide +kernel, by decide +kernel⟩
theorem hy_X9_foxOf : yX9_foxOf.cls = RX9 ∧ (yX9_foxOf.cls ≠ "java/lang/invoke/MethodHandle" ∧ yX9_foxOf.cls ≠ "java/lang/invoke/VarHandle" ∧ (parseMethodDescriptor yX9_foxOf.desc).map (fun d => d.parameters.length) = some 1) := ⟨rfl, hz_X9_foxOf⟩
theorem hz_X9_fromOf : (yX9_fromOf.cls ≠ "java/lang/invoke/MethodHandle" ∧ yX9_fromOf.cls ≠ "java/lang/invoke/VarHandle" ∧ (parseMethodDescriptor yX9_fromOf.desc).map (fun d => d.parameters.length) = some 1) := ⟨by decide +kernel, by decide +kernel, by decide +kernel⟩
theorem hy_X9_fromOf : yX9_fromOf.cls = RX9 ∧ (yX9_fromOf.cls ≠ "java/lang/invoke/MethodHandle" ∧ yX9_fromOf.cls ≠ "java/lang/invoke/VarHandle" ∧ (parseMethodDescriptor yX9_fromOf.desc).map (fun d => d.parameters.length) = some 1) := ⟨rfl, hz_X9_fromOf⟩
theorem hz_X9_isRefusedFor : (yX9_isRefusedFor.cls ≠ "java/lang/invoke/MethodHandle" ∧ yX9_isRefusedFor.cls ≠ "java/lang/invoke/VarHandle" ∧ (parseMethodDescriptor yX9_isRefusedFor.desc).map (fun d => d.parameters.length) = some 1) := ⟨by decide +kernel, by decide +kernel, by decide +kernel⟩
theorem hy_X9_isRefusedFor : yX9_isRefusedFor.cls = RX9 ∧ (yX9_isRefusedFor.cls ≠ "java/lang/invoke/MethodHandle" ∧ yX9_isRefusedFor.cls ≠ "java/lang/invoke/VarHandle" ∧ (parseMethodDescriptor yX9_isRefusedFor.desc).map (fun d => d.parameters.length) = some 1) := ⟨rfl, hz_X9_isRefusedFor⟩
theorem hz_X9_letPlay : (yX9_letPlay.cls ≠ "java/lang/invoke/MethodHandle" ∧ yX9_letPlay.cls ≠ "java/lang/invoke/VarHandle" ∧ (parseMethodDescriptor yX9_letPlay.desc).map (fun d => d.parameters.length) = some 1) := ⟨by decide +kernel, by decide +kernel, by decide +kernel⟩
theorem hy_X9_letPlay : yX9_letPlay.cls = RX9 ∧ (yX9_letPlay.cls ≠ "java/lang/invoke/MethodHandle" ∧ yX9_letPlay.cls ≠ "java/lang/invoke/VarHandle" ∧ (parseMethodDescriptor yX9_letPlay.desc).map (fun d => d.parameters.length) = some 1) := ⟨rfl, hz_X9_letPlay⟩
theorem hz_X9_makeMove : (yX9_makeMove.cls ≠ "java/lang/invoke/MethodHandle" ∧ yX9_makeMove.cls ≠ "java/lang/invoke/VarHandle" ∧ (parseMethodDescriptor yX9_makeMove.desc).map (fun d => d.parameters.length) = some 2) := ⟨by decide +kernel, by decide +kernel, by decide +kernel⟩
theorem hy_X9_makeMove : yX9_makeMove.cls = RX9 ∧ (yX9_makeMove.cls ≠ "java/lang/invoke/MethodHandle" ∧ yX9_makeMove.cls ≠ "java/lang/invoke/VarHandle" ∧ (parseMethodDescriptor yX9_makeMove.desc).map (fun d => d.parameters.length) = some 2) := ⟨rfl, hz_X9_makeMove⟩
theorem hz_X9_markChanged : (yX9_markChanged.cls ≠ "java/lang/invoke/MethodHandle" ∧ yX9_markChanged.cls ≠ "java/lang/invoke/VarHandle" ∧ (parseMethodDescriptor yX9_markChanged.desc).map (fun d => d.parameters.length) = some 0) := ⟨by decide +kernel, by decide +kernel, by decide +kernel⟩
theorem hy_X9_markChanged : yX9_markChanged.cls = RX9 ∧ (yX9_markChanged.cls ≠ "java/lang/invoke/MethodHandle" ∧ yX9_markChanged.cls ≠ "java/lang/invoke/VarHandle" ∧ (parseMethodDescriptor yX9_markChanged.desc).map (fun d => d.parameters.length) = some 0) := ⟨rfl, hz_X9_markChanged⟩
theorem hz_X9_moveNumber : (yX9_moveNumber.cls ≠ "java/lang/invoke/MethodHandle" ∧ yX9_moveNumber.cls ≠ "java/lang/invoke/VarHandle" ∧ (parseMethodDescriptor yX9_moveNumber.desc).map (fun d => d.parameters.length) = some 2) := ⟨by decide +kernel, by decide +kernel, by decide +kernel⟩
theorem hy_X9_moveNumber : yX9_moveNumber.cls = RX9 ∧ (yX9_moveNumber.cls ≠ "java/lang/invoke/MethodHandle" ∧ yX9_moveNumber.cls ≠ "java/lang/invoke/VarHandle" ∧ (parseMethodDescriptor yX9_moveNumber.desc).map (fun d => d.parameters.length) = some 2) := ⟨rfl, hz_X9_moveNumber⟩
theorem hz_X9_needPosition : (yX9_needPosition.cls ≠ "java/lang/invoke/MethodHandle" ∧ yX9_needPosition.cls ≠ "java/lang/invoke/VarHandle" ∧ (parseMethodDescriptor yX9_needPosition.desc).map (fun d => d.parameters.length) = some 1) := ⟨by decide +kernel, by decide +kernel, by decide +kernel⟩
theorem hy_X9_needPosition : yX9_needPosition.cls = RX9 ∧ (yX9_needPosition.cls ≠ "java/lang/invoke/MethodHandle" ∧ yX9_needPosition.cls ≠ "java/lang/invoke/VarHandle" ∧ (parseMethodDescriptor yX9_needPosition.desc).map (fun d => d.parameters.length) = some 1) := ⟨rfl, hz_X9_needPosition⟩
theorem hz_X9_newVersion : (yX9_newVersion.cls ≠ "java/lang/invoke/MethodHandle" ∧ yX9_newVersion.cls ≠ "java/lang/invoke/VarHandle" ∧ (parseMethodDescriptor yX9_newVersion.desc).map (fun d => d.parameters.length) = some 0) := ⟨by decide +kernel, by decide +kernel, by decide +kernel⟩
theorem hy_X9_newVersion : yX9_newVersion.cls = RX9 ∧ (yX9_newVersion.cls ≠ "java/lang/invoke/MethodHandle" ∧ yX9_newVersion.cls ≠ "java/lang/invoke/VarHandle" ∧ (parseMethodDescriptor yX9_newVersion.desc).map (fun d => d.parameters.length) = some 0) := ⟨rfl, hz_X9_newVersion⟩
theorem hz_X9_numberOf : (yX9_numberOf.cls ≠ "java/lang/invoke/MethodHandle" ∧ yX9_numberOf.cls ≠ "java/lang/invoke/VarHandle" ∧ (parseMethodDescriptor yX9_numberOf.desc).map (fun d => d.parameters.length) = some 4) := ⟨by decide +kernel, by decide +kernel, by decide +kernel⟩
theorem hy_X9_numberOf : yX9_numberOf.cls = RX9 ∧ (yX9_numberOf.cls ≠ "java/lang/invoke/MethodHandle" ∧ yX9_numberOf.cls ≠ "java/lang/invoke/VarHandle" ∧ (parseMethodDescriptor yX9_numberOf.desc).map (fun d => d.parameters.length) = some 4) := ⟨rfl, hz_X9_numberOf⟩
theorem hz_X9_positionsIn : (yX9_positionsIn.cls ≠ "java/lang/invoke/MethodHandle" ∧ yX9_positionsIn.cls ≠ "java/lang/invoke/VarHandle" ∧ (parseMethodDescriptor yX9_positionsIn.desc).map (fun d => d.parameters.length) = some 1) := ⟨by decide +kernel, by decide +kernel, by decide +kernel⟩
theorem hy_X9_positionsIn : yX9_positionsIn.cls = RX9 ∧ (yX9_positionsIn.cls ≠ "java/lang/invoke/MethodHandle" ∧ yX9_positionsIn.cls ≠ "java/lang/invoke/VarHandle" ∧ (parseMethodDescriptor yX9_positionsIn.desc).map (fun d => d.parameters.length) = some 1) := ⟨rfl, hz_X9_positionsIn⟩
theorem hz_X9_put : (yX9_put.cls ≠ "java/lang/invoke/MethodHandle" ∧ yX9_put.cls ≠ "java/lang/invoke/VarHandle" ∧ (parseMethodDescriptor yX9_put.desc).map (fun d => d.parameters.length) = some 3) := ⟨by decide +kernel, by decide +kernel, by decide +kernel⟩
theorem hy_X9_put : yX9_put.cls = RX9 ∧ (yX9_put.cls ≠ "java/lang/invoke/MethodHandle" ∧ yX9_put.cls ≠ "java/lang/invoke/VarHandle" ∧ (parseMethodDescriptor yX9_put.desc).map (fun d => d.parameters.length) = some 3) := ⟨rfl, hz_X9_put⟩
theorem hz_X9_refused : (yX9_refused.cls ≠ "java/lang/invoke/MethodHandle" ∧ yX9_refused.cls ≠ "java/lang/invoke/VarHandle" ∧ (parseMethodDescriptor yX9_refused.desc).map (fun d => d.parameters.length) = some 2) := ⟨by decide +kernel, by decide +kernel, by decide +kernel⟩
theorem hy_X9_refused : yX9_refused.cls = RX9 ∧ (yX9_refused.cls ≠ "java/lang/invoke/MethodHandle" ∧ yX9_refused.cls ≠ "java/lang/invoke/VarHandle" ∧ (parseMethodDescriptor yX9_refused.desc).map (fun d => d.parameters.length) = some 2) := ⟨rfl, hz_X9_refused⟩
theorem hz_X9_secondOf : (yX9_secondOf.cls ≠ "java/lang/invoke/MethodHandle" ∧ yX9_secondOf.cls ≠ "java/lang/invoke/VarHandle" ∧ (parseMethodDescriptor yX9_secondOf.desc).map (fun d => d.parameters.length) = some 1) := ⟨by decide +kernel, by decide +kernel, by decide +kernel⟩
theorem hy_X9_secondOf : yX9_secondOf.cls = RX9 ∧ (yX9_secondOf.cls ≠ "java/lang/invoke/MethodHandle" ∧ yX9_secondOf.cls ≠ "java/lang/invoke/VarHandle" ∧ (parseMethodDescriptor yX9_secondOf.desc).map (fun d => d.parameters.length) = some 1) := ⟨rfl, hz_X9_secondOf⟩
theorem hz_X9_setAside : (yX9_setAside.cls ≠ "java/lang/invoke/MethodHandle" ∧ yX9_setAside.cls ≠ "java/lang/invoke/VarHandle" ∧ (parseMethodDescriptor yX9_setAside.desc).map (fun d => d.parameters.length) = some 0) := ⟨by decide +kernel, by decide +kernel, by decide +kernel⟩
theorem hy_X9_setAside : yX9_setAside.cls = RX9 ∧ (yX9_setAside.cls ≠ "java/lang/invoke/MethodHandle" ∧ yX9_setAside.cls ≠ "java/lang/invoke/VarHandle" ∧ (parseMethodDescriptor yX9_setAside.desc).map (fun d => d.parameters.length) = some 0) := ⟨rfl, hz_X9_setAside⟩
theorem hz_X9_setGeese : (yX9_setGeese.cls ≠ "java/lang/invoke/MethodHandle" ∧ yX9_setGeese.cls ≠ "java/lang/invoke/VarHandle" ∧ (parseMethodDescriptor yX9_setGeese.desc).map (fun d => d.parameters.length) = some 1) := ⟨by decide +kernel, by decide +kernel, by decide +kernel⟩
theorem hy_X9_setGeese : yX9_setGeese.cls = RX9 ∧ (yX9_setGeese.cls ≠ "java/lang/invoke/MethodHandle" ∧ yX9_setGeese.cls ≠ "java/lang/invoke/VarHandle" ∧ (parseMethodDescriptor yX9_setGeese.desc).map (fun d => d.parameters.length) = some 1) := ⟨rfl, hz_X9_setGeese⟩
theorem hz_X9_settled : (yX9_settled.cls ≠ "java/lang/invoke/MethodHandle" ∧ yX9_settled.cls ≠ "java/lang/invoke/VarHandle" ∧ (parseMethodDescriptor yX9_settled.desc).map (fun d => d.parameters.length) = some 1) := ⟨by decide +kernel, by decide +kernel, by decide +kernel⟩
theorem hy_X9_settled : yX9_settled.cls = RX9 ∧ (yX9_settled.cls ≠ "java/lang/invoke/MethodHandle" ∧ yX9_settled.cls ≠ "java/lang/invoke/VarHandle" ∧ (parseMethodDescriptor yX9_settled.desc).map (fun d => d.parameters.length) = some 1) := ⟨rfl, hz_X9_settled⟩
theorem hz_X9_shifted : (yX9_shifted.cls ≠ "java/lang/invoke/MethodHandle" ∧ yX9_shifted.cls ≠ "java/lang/invoke/VarHandle" ∧ (parseMethodDescriptor yX9_shifted.desc).map (fun d => d.parameters.length) = some 3) := ⟨by decide +kernel, by decide +kernel, by decide +kernel⟩
theorem hy_X9_shifted : yX9_shifted.cls = RX9 ∧ (yX9_shifted.cls ≠ "java/lang/invoke/MethodHandle" ∧ yX9_shifted.cls ≠ "java/lang/invoke/VarHandle" ∧ (parseMethodDescriptor yX9_shifted.desc).map (fun d => d.parameters.length) = some 3) := ⟨rfl, hz_X9_shifted⟩
theorem hz_X9_startGame : (yX9_startGame.cls ≠ "java/lang/invoke/MethodHandle" ∧ yX9_startGame.cls ≠ "java/lang/invoke/VarHandle" ∧ (parseMethodDescriptor yX9_startGame.desc).map (fun d => d.parameters.length) = some 1) := ⟨by decide +kernel, by decide +kernel, by decide +kernel⟩
theorem hy_X9_startGame : yX9_startGame.cls = RX9 ∧ (yX9_startGame.cls ≠ "java/lang/invoke/MethodHandle" ∧ yX9_startGame.cls ≠ "java/lang/invoke/VarHandle" ∧ (parseMethodDescriptor yX9_startGame.desc).map (fun d => d.parameters.length) = some 1) := ⟨rfl, hz_X9_startGame⟩
theorem hz_X9_takeBack : (yX9_takeBack.cls ≠ "java/lang/invoke/MethodHandle" ∧ yX9_takeBack.cls ≠ "java/lang/invoke/VarHandle" ∧ (parseMethodDescriptor yX9_takeBack.desc).map (fun d => d.parameters.length) = some 0) := ⟨by decide +kernel, by decide +kernel, by decide +kernel⟩
theorem hy_X9_takeBack : yX9_takeBack.cls = RX9 ∧ (yX9_takeBack.cls ≠ "java/lang/invoke/MethodHandle" ∧ yX9_takeBack.cls ≠ "java/lang/invoke/VarHandle" ∧ (parseMethodDescriptor yX9_takeBack.desc).map (fun d => d.parameters.length) = some 0) := ⟨rfl, hz_X9_takeBack⟩
theorem hz_X9_toOf : (yX9_toOf.cls ≠ "java/lang/invoke/MethodHandle" ∧ yX9_toOf.cls ≠ "java/lang/invoke/VarHandle" ∧ (parseMethodDescriptor yX9_toOf.desc).map (fun d => d.parameters.length) = some 1) := ⟨by decide +kernel, by decide +kernel, by decide +kernel⟩
theorem hy_X9_toOf : yX9_toOf.cls = RX9 ∧ (yX9_toOf.cls ≠ "java/lang/invoke/MethodHandle" ∧ yX9_toOf.cls ≠ "java/lang/invoke/VarHandle" ∧ (parseMethodDescriptor yX9_toOf.desc).map (fun d => d.parameters.length) = some 1) := ⟨rfl, hz_X9_toOf⟩
theorem hz_X9_turnOf : (yX9_turnOf.cls ≠ "java/lang/invoke/MethodHandle" ∧ yX9_turnOf.cls ≠ "java/lang/invoke/VarHandle" ∧ (parseMethodDescriptor yX9_turnOf.desc).map (fun d => d.parameters.length) = some 1) := ⟨by decide +kernel, by decide +kernel, by decide +kernel⟩
theorem hy_X9_turnOf : yX9_turnOf.cls = RX9 ∧ (yX9_turnOf.cls ≠ "java/lang/invoke/MethodHandle" ∧ yX9_turnOf.cls ≠ "java/lang/invoke/VarHandle" ∧ (parseMethodDescriptor yX9_turnOf.desc).map (fun d => d.parameters.length) = some 1) := ⟨rfl, hz_X9_turnOf⟩
theorem hz_X9_turnTrap : (yX9_turnTrap.cls ≠ "java/lang/invoke/MethodHandle" ∧ yX9_turnTrap.cls ≠ "java/lang/invoke/VarHandle" ∧ (parseMethodDescriptor yX9_turnTrap.desc).map (fun d => d.parameters.length) = some 2) := ⟨by decide +kernel, by decide +kernel, by decide +kernel⟩
theorem hy_X9_turnTrap : yX9_turnTrap.cls = RX9 ∧ (yX9_turnTrap.cls ≠ "java/lang/invoke/MethodHandle" ∧ yX9_turnTrap.cls ≠ "java/lang/invoke/VarHandle" ∧ (parseMethodDescriptor yX9_turnTrap.desc).map (fun d => d.parameters.length) = some 2) := ⟨rfl, hz_X9_turnTrap⟩
theorem hz_X9_winsOfFoxOn : (yX9_winsOfFoxOn.cls ≠ "java/lang/invoke/MethodHandle" ∧ yX9_winsOfFoxOn.cls ≠ "java/lang/invoke/VarHandle" ∧ (parseMethodDescriptor yX9_winsOfFoxOn.desc).map (fun d => d.parameters.length) = some 1) := ⟨by decide +kernel, by decide +kernel, by decide +kernel⟩
theorem hy_X9_winsOfFoxOn : yX9_winsOfFoxOn.cls = RX9 ∧ (yX9_winsOfFoxOn.cls ≠ "java/lang/invoke/MethodHandle" ∧ yX9_winsOfFoxOn.cls ≠ "java/lang/invoke/VarHandle" ∧ (parseMethodDescriptor yX9_winsOfFoxOn.desc).map (fun d => d.parameters.length) = some 1) := ⟨rfl, hz_X9_winsOfFoxOn⟩
theorem hz_X9_withoutFirst : (yX9_withoutFirst.cls ≠ "java/lang/invoke/MethodHandle" ∧ yX9_withoutFirst.cls ≠ "java/lang/invoke/VarHandle" ∧ (parseMethodDescriptor yX9_withoutFirst.desc).map (fun d => d.parameters.length) = some 1) := ⟨by decide +kernel, by decide +kernel, by decide +kernel⟩
theorem hy_X9_withoutFirst : yX9_withoutFirst.cls = RX9 ∧ (yX9_withoutFirst.cls ≠ "java/lang/invoke/MethodHandle" ∧ yX9_withoutFirst.cls ≠ "java/lang/invoke/VarHandle" ∧ (parseMethodDescriptor yX9_withoutFirst.desc).map (fun d => d.parameters.length) = some 1) := ⟨rfl, hz_X9_withoutFirst⟩
