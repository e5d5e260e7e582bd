/-! words of the tables by place, rows of the fields, kinds of the objects: printed by a program -/
theorem wd_329 : (Jvm.Cond.methodLinkNest "FoxBurrows$Field" (37 : Nat) ({ cls := "FoxBurrows", name := "copy", desc := "([I[I)V" } : Jvm.MethodName) "FoxBurrows") ∈ TN := zTN 329 (by decide +kernel) (by decide +kernel)
theorem wd_342 : (Jvm.Cond.methodLinkNest "FoxBurrows$Game" (26 : Nat) ({ cls := "FoxBurrows", name := "copy", desc := "([I[I)V" } : Jvm.MethodName) "FoxBurrows") ∈ TN := zTN 342 (by decide +kernel) (by decide +kernel)
theorem wd_480 : (Jvm.Cond.methodLinkNest "FoxBurrows$Field" (45 : Nat) ({ cls := "FoxBurrows", name := "at", desc := "([II)I" } : Jvm.MethodName) "FoxBurrows") ∈ TN := zTN 480 (by decide +kernel) (by decide +kernel)
theorem wd_485 : (Jvm.Cond.methodLinkNest "FoxBurrows$Field" (49 : Nat) ({ cls := "FoxBurrows", name := "put", desc := "([III)V" } : Jvm.MethodName) "FoxBurrows") ∈ TN := zTN 485 (by decide +kernel) (by decide +kernel)
theorem wd_492 : (Jvm.Cond.methodLinkNest "FoxBurrows$Field" (41 : Nat) ({ cls := "FoxBurrows", name := "bitOf", desc := "(I)I" } : Jvm.MethodName) "FoxBurrows") ∈ TN := zTN 492 (by decide +kernel) (by decide +kernel)
theorem wd_557 : (Jvm.Cond.methodLinkNest "FoxBurrows$Field" (61 : Nat) ({ cls := "FoxBurrows", name := "foxOf", desc := "(I)I" } : Jvm.MethodName) "FoxBurrows") ∈ TN := zTN 557 (by decide +kernel) (by decide +kernel)
theorem wd_560 : (Jvm.Cond.methodLinkNest "FoxBurrows$Field" (64 : Nat) ({ cls := "FoxBurrows", name := "firstOf", desc := "(I)I" } : Jvm.MethodName) "FoxBurrows") ∈ TN := zTN 560 (by decide +kernel) (by decide +kernel)
theorem wd_563 : (Jvm.Cond.methodLinkNest "FoxBurrows$Field" (67 : Nat) ({ cls := "FoxBurrows", name := "secondOf", desc := "(I)I" } : Jvm.MethodName) "FoxBurrows") ∈ TN := zTN 563 (by decide +kernel) (by decide +kernel)
theorem wd_575 : (Jvm.Cond.methodLinkNest "FoxBurrows$Game" (30 : Nat) ({ cls := "FoxBurrows", name := "put", desc := "([III)V" } : Jvm.MethodName) "FoxBurrows") ∈ TN := zTN 575 (by decide +kernel) (by decide +kernel)
theorem wd_584 : (Jvm.Cond.methodLinkNest "FoxBurrows$Field" (81 : Nat) ({ cls := "FoxBurrows", name := "turnOf", desc := "(I)I" } : Jvm.MethodName) "FoxBurrows") ∈ TN := zTN 584 (by decide +kernel) (by decide +kernel)
theorem wd_589 : (Jvm.Cond.methodLinkNest "FoxBurrows$Field" (88 : Nat) ({ cls := "FoxBurrows", name := "above", desc := "(I)I" } : Jvm.MethodName) "FoxBurrows") ∈ TN := zTN 589 (by decide +kernel) (by decide +kernel)
theorem wd_613 : (Jvm.Cond.methodLinkNest "FoxBurrows$Game" (34 : Nat) ({ cls := "FoxBurrows", name := "at", desc := "([II)I" } : Jvm.MethodName) "FoxBurrows") ∈ TN := zTN 613 (by decide +kernel) (by decide +kernel)
theorem wd_619 : (Jvm.Cond.methodLinkNest "FoxBurrows$Field" (101 : Nat) ({ cls := "FoxBurrows", name := "moveNumber", desc := "(II)I" } : Jvm.MethodName) "FoxBurrows") ∈ TN := zTN 619 (by decide +kernel) (by decide +kernel)
theorem wd_658 : (Jvm.Cond.methodLinkNest "FoxBurrows$Field" (74 : Nat) ({ cls := "FoxBurrows", name := "numberOf", desc := "(IIII)I" } : Jvm.MethodName) "FoxBurrows") ∈ TN := zTN 658 (by decide +kernel) (by decide +kernel)
theorem wd_659 : (Jvm.Cond.methodLinkNest "FoxBurrows$Table" (40 : Nat) ({ cls := "FoxBurrows", name := "at", desc := "([II)I" } : Jvm.MethodName) "FoxBurrows") ∈ TN := zTN 659 (by decide +kernel) (by decide +kernel)
theorem wd_662 : (Jvm.Cond.methodLinkNest "FoxBurrows$Table" (54 : Nat) ({ cls := "FoxBurrows", name := "put", desc := "([III)V" } : Jvm.MethodName) "FoxBurrows") ∈ TN := zTN 662 (by decide +kernel) (by decide +kernel)
theorem wd_668 : (Jvm.Cond.methodLinkNest "FoxBurrows$Field" (94 : Nat) ({ cls := "FoxBurrows", name := "below", desc := "(I)I" } : Jvm.MethodName) "FoxBurrows") ∈ TN := zTN 668 (by decide +kernel) (by decide +kernel)
theorem wd_675 : (Jvm.Cond.methodLinkNest "FoxBurrows$Table" (65 : Nat) ({ cls := "FoxBurrows", name := "firstMove", desc := "(J)I" } : Jvm.MethodName) "FoxBurrows") ∈ TN := zTN 675 (by decide +kernel) (by decide +kernel)
theorem wd_678 : (Jvm.Cond.methodLinkNest "FoxBurrows$Table" (68 : Nat) ({ cls := "FoxBurrows", name := "withoutFirst", desc := "(J)J" } : Jvm.MethodName) "FoxBurrows") ∈ TN := zTN 678 (by decide +kernel) (by decide +kernel)
theorem wd_681 : (Jvm.Cond.methodLinkNest "FoxBurrows$Table" (72 : Nat) ({ cls := "FoxBurrows", name := "fromOf", desc := "(I)I" } : Jvm.MethodName) "FoxBurrows") ∈ TN := zTN 681 (by decide +kernel) (by decide +kernel)
theorem wd_682 : (Jvm.Cond.methodLinkNest "FoxBurrows$Table" (76 : Nat) ({ cls := "FoxBurrows", name := "toOf", desc := "(I)I" } : Jvm.MethodName) "FoxBurrows") ∈ TN := zTN 682 (by decide +kernel) (by decide +kernel)
theorem wd_683 : (Jvm.Cond.methodLinkNest "FoxBurrows$Table" (79 : Nat) ({ cls := "FoxBurrows", name := "shifted", desc := "(III)I" } : Jvm.MethodName) "FoxBurrows") ∈ TN := zTN 683 (by decide +kernel) (by decide +kernel)
theorem wd_776 : (Jvm.Cond.methodLinkNest "FoxBurrows$SecondWay" (31 : Nat) ({ cls := "FoxBurrows", name := "at", desc := "([II)I" } : Jvm.MethodName) "FoxBurrows") ∈ TN := zTN 776 (by decide +kernel) (by decide +kernel)
theorem wd_777 : (Jvm.Cond.methodLinkNest "FoxBurrows$SecondWay" (35 : Nat) ({ cls := "FoxBurrows", name := "put", desc := "([III)V" } : Jvm.MethodName) "FoxBurrows") ∈ TN := zTN 777 (by decide +kernel) (by decide +kernel)
theorem wd_784 : (Jvm.Cond.methodLinkNest "FoxBurrows$SecondWay" (53 : Nat) ({ cls := "FoxBurrows", name := "firstMove", desc := "(J)I" } : Jvm.MethodName) "FoxBurrows") ∈ TN := zTN 784 (by decide +kernel) (by decide +kernel)
theorem wd_785 : (Jvm.Cond.methodLinkNest "FoxBurrows$SecondWay" (56 : Nat) ({ cls := "FoxBurrows", name := "withoutFirst", desc := "(J)J" } : Jvm.MethodName) "FoxBurrows") ∈ TN := zTN 785 (by decide +kernel) (by decide +kernel)
theorem wd_786 : (Jvm.Cond.methodLinkNest "FoxBurrows$SecondWay" (60 : Nat) ({ cls := "FoxBurrows", name := "fromOf", desc := "(I)I" } : Jvm.MethodName) "FoxBurrows") ∈ TN := zTN 786 (by decide +kernel) (by decide +kernel)
theorem wd_787 : (Jvm.Cond.methodLinkNest "FoxBurrows$SecondWay" (64 : Nat) ({ cls := "FoxBurrows", name := "toOf", desc := "(I)I" } : Jvm.MethodName) "FoxBurrows") ∈ TN := zTN 787 (by decide +kernel) (by decide +kernel)
theorem wd_788 : (Jvm.Cond.methodLinkNest "FoxBurrows$SecondWay" (67 : Nat) ({ cls := "FoxBurrows", name := "shifted", desc := "(III)I" } : Jvm.MethodName) "FoxBurrows") ∈ TN := zTN 788 (by decide +kernel) (by decide +kernel)
theorem wd_918 : (Jvm.Cond.methodLinkNest "FoxBurrows$Table" (90 : Nat) ({ cls := "FoxBurrows", name := "turnOf", desc := "(I)I" } : Jvm.MethodName) "FoxBurrows") ∈ TN := zTN 918 (by decide +kernel) (by decide +kernel)
theorem wd_1003 : (Jvm.Cond.methodLinkNest "FoxBurrows$Reader" (53 : Nat) ({ cls := "FoxBurrows", name := "put", desc := "([III)V" } : Jvm.MethodName) "FoxBurrows") ∈ TN := zTN 1003 (by decide +kernel) (by decide +kernel)
theorem wp_0 : Cond.selects "FoxBurrows" (⟨"FoxBurrows", "setAside", "()V"⟩ : MethodName) (⟨"FoxBurrows", "setAside", "()V"⟩ : MethodName) ∈ TB := zTBp 0 (by decide +kernel) (by decide +kernel)
theorem wp_1 : Cond.selects "FoxBurrows" (⟨"FoxBurrows", "addBurrow", "()I"⟩ : MethodName) (⟨"FoxBurrows", "addBurrow", "()I"⟩ : MethodName) ∈ TB := zTBp 1 (by decide +kernel) (by decide +kernel)
theorem wp_2 : Cond.selects "FoxBurrows" (⟨"FoxBurrows", "refused", "(II)I"⟩ : MethodName) (⟨"FoxBurrows", "refused", "(II)I"⟩ : MethodName) ∈ TB := zTBp 2 (by decide +kernel) (by decide +kernel)
theorem wp_3 : Cond.selects "FoxBurrows" (⟨"FoxBurrows", "markChanged", "()V"⟩ : MethodName) (⟨"FoxBurrows", "markChanged", "()V"⟩ : MethodName) ∈ TB := zTBp 3 (by decide +kernel) (by decide +kernel)
theorem wp_4 : Cond.selects "FoxBurrows" (⟨"FoxBurrows", "newVersion", "()I"⟩ : MethodName) (⟨"FoxBurrows", "newVersion", "()I"⟩ : MethodName) ∈ TB := zTBp 4 (by decide +kernel) (by decide +kernel)
theorem wp_5 : Cond.selects "FoxBurrows" (⟨"FoxBurrows", "settled", "(I)I"⟩ : MethodName) (⟨"FoxBurrows", "settled", "(I)I"⟩ : MethodName) ∈ TB := zTBp 5 (by decide +kernel) (by decide +kernel)
theorem wp_7 : Cond.selects "FoxBurrows$Changes" (⟨"FoxBurrows$Changes", "placeAt", "(I)LFoxBurrows$State;"⟩ : MethodName) (⟨"FoxBurrows$Changes", "placeAt", "(I)LFoxBurrows$State;"⟩ : MethodName) ∈ TB := zTBp 7 (by decide +kernel) (by decide +kernel)
theorem wp_8 : Cond.selects "FoxBurrows" (⟨"FoxBurrows", "addPath", "(II)I"⟩ : MethodName) (⟨"FoxBurrows", "addPath", "(II)I"⟩ : MethodName) ∈ TB := zTBp 8 (by decide +kernel) (by decide +kernel)
theorem wp_9 : Cond.selects "FoxBurrows" (⟨"FoxBurrows", "isRefusedFor", "(I)Z"⟩ : MethodName) (⟨"FoxBurrows", "isRefusedFor", "(I)Z"⟩ : MethodName) ∈ TB := zTBp 9 (by decide +kernel) (by decide +kernel)
theorem wp_10 : Cond.selects "FoxBurrows" (⟨"FoxBurrows", "dropPath", "(II)I"⟩ : MethodName) (⟨"FoxBurrows", "dropPath", "(II)I"⟩ : MethodName) ∈ TB := zTBp 10 (by decide +kernel) (by decide +kernel)
theorem wp_11 : Cond.selects "FoxBurrows" (⟨"FoxBurrows", "turnTrap", "(IZ)I"⟩ : MethodName) (⟨"FoxBurrows", "turnTrap", "(IZ)I"⟩ : MethodName) ∈ TB := zTBp 11 (by decide +kernel) (by decide +kernel)
theorem wp_12 : Cond.selects "FoxBurrows" (⟨"FoxBurrows", "setGeese", "(I)I"⟩ : MethodName) (⟨"FoxBurrows", "setGeese", "(I)I"⟩ : MethodName) ∈ TB := zTBp 12 (by decide +kernel) (by decide +kernel)
theorem wp_13 : Cond.selects "FoxBurrows" (⟨"FoxBurrows", "startGame", "(I)I"⟩ : MethodName) (⟨"FoxBurrows", "startGame", "(I)I"⟩ : MethodName) ∈ TB := zTBp 13 (by decide +kernel) (by decide +kernel)
theorem wp_14 : Cond.selects "FoxBurrows$Field" (⟨"FoxBurrows$Field", "taken", "(I)I"⟩ : MethodName) (⟨"FoxBurrows$Field", "taken", "(I)I"⟩ : MethodName) ∈ TB := zTBp 14 (by decide +kernel) (by decide +kernel)
theorem wp_15 : Cond.selects "FoxBurrows$Field" (⟨"FoxBurrows$Field", "moves", "(II)J"⟩ : MethodName) (⟨"FoxBurrows$Field", "moves", "(II)J"⟩ : MethodName) ∈ TB := zTBp 15 (by decide +kernel) (by decide +kernel)
theorem wp_16 : Cond.selects "FoxBurrows" (⟨"FoxBurrows", "makeMove", "(II)I"⟩ : MethodName) (⟨"FoxBurrows", "makeMove", "(II)I"⟩ : MethodName) ∈ TB := zTBp 16 (by decide +kernel) (by decide +kernel)
theorem wp_17 : Cond.selects "FoxBurrows" (⟨"FoxBurrows", "letPlay", "(I)I"⟩ : MethodName) (⟨"FoxBurrows", "letPlay", "(I)I"⟩ : MethodName) ∈ TB := zTBp 17 (by decide +kernel) (by decide +kernel)
theorem wp_18 : Cond.selects "FoxBurrows$Table" (⟨"FoxBurrows$Table", "tellBefore", "(IJI)I"⟩ : MethodName) (⟨"FoxBurrows$Table", "tellBefore", "(IJI)I"⟩ : MethodName) ∈ TB := zTBp 18 (by decide +kernel) (by decide +kernel)
theorem wp_19 : Cond.selects "FoxBurrows$Table" (⟨"FoxBurrows$Table", "isDecided", "(II)Z"⟩ : MethodName) (⟨"FoxBurrows$Table", "isDecided", "(II)Z"⟩ : MethodName) ∈ TB := zTBp 19 (by decide +kernel) (by decide +kernel)
theorem wp_20 : Cond.selects "FoxBurrows" (⟨"FoxBurrows", "takeBack", "()I"⟩ : MethodName) (⟨"FoxBurrows", "takeBack", "()I"⟩ : MethodName) ∈ TB := zTBp 20 (by decide +kernel) (by decide +kernel)
theorem wp_21 : Cond.selects "FoxBurrows" (⟨"FoxBurrows", "needPosition", "(I)V"⟩ : MethodName) (⟨"FoxBurrows", "needPosition", "(I)V"⟩ : MethodName) ∈ TB := zTBp 21 (by decide +kernel) (by decide +kernel)
theorem wp_22 : Cond.selects "FoxBurrows$SecondWay" (⟨"FoxBurrows$SecondWay", "seen", "(LFoxBurrows$Field;I)I"⟩ : MethodName) (⟨"FoxBurrows$SecondWay", "seen", "(LFoxBurrows$Field;I)I"⟩ : MethodName) ∈ TB := zTBp 22 (by decide +kernel) (by decide +kernel)
theorem wp_23 : Cond.selects "FoxBurrows" (⟨"FoxBurrows", "positionsIn", "(I)I"⟩ : MethodName) (⟨"FoxBurrows", "positionsIn", "(I)I"⟩ : MethodName) ∈ TB := zTBp 23 (by decide +kernel) (by decide +kernel)
theorem wp_24 : Cond.selects "FoxBurrows" (⟨"FoxBurrows", "winsOfFoxOn", "(I)I"⟩ : MethodName) (⟨"FoxBurrows", "winsOfFoxOn", "(I)I"⟩ : MethodName) ∈ TB := zTBp 24 (by decide +kernel) (by decide +kernel)
theorem wp_25 : Cond.selects "FoxBurrows$Reader" (⟨"FoxBurrows$Reader", "isCommand", "(LFoxBurrows$Text;)Z"⟩ : MethodName) (⟨"FoxBurrows$Reader", "isCommand", "(LFoxBurrows$Text;)Z"⟩ : MethodName) ∈ TB := zTBp 25 (by decide +kernel) (by decide +kernel)
theorem wp_26 : Cond.selects "FoxBurrows$Reader" (⟨"FoxBurrows$Reader", "numberIn", "(LFoxBurrows$Text;I)I"⟩ : MethodName) (⟨"FoxBurrows$Reader", "numberIn", "(LFoxBurrows$Text;I)I"⟩ : MethodName) ∈ TB := zTBp 26 (by decide +kernel) (by decide +kernel)
theorem wp_27 : Cond.selects "FoxBurrows" (⟨"FoxBurrows", "carriedOut", "(I)I"⟩ : MethodName) (⟨"FoxBurrows", "carriedOut", "(I)I"⟩ : MethodName) ∈ TB := zTBp 27 (by decide +kernel) (by decide +kernel)
theorem wp_28 : Cond.selects "FoxBurrows" (⟨"FoxBurrows", "accountOfPositions", "(I)I"⟩ : MethodName) (⟨"FoxBurrows", "accountOfPositions", "(I)I"⟩ : MethodName) ∈ TB := zTBp 28 (by decide +kernel) (by decide +kernel)
theorem wp_29 : Cond.selects "FoxBurrowsModel" (⟨"FoxBurrowsModel", "tries", "()V"⟩ : MethodName) (⟨"FoxBurrowsModel", "tries", "()V"⟩ : MethodName) ∈ TB := zTBp 29 (by decide +kernel) (by decide +kernel)
theorem wp_30 : Cond.selects "FoxBurrowsModel" (⟨"FoxBurrowsModel", "digs", "()I"⟩ : MethodName) (⟨"FoxBurrowsModel", "digs", "()I"⟩ : MethodName) ∈ TB := zTBp 30 (by decide +kernel) (by decide +kernel)
theorem wp_31 : Cond.selects "FoxBurrowsModel" (⟨"FoxBurrowsModel", "refuses", "(II)I"⟩ : MethodName) (⟨"FoxBurrowsModel", "refuses", "(II)I"⟩ : MethodName) ∈ TB := zTBp 31 (by decide +kernel) (by decide +kernel)
theorem wp_32 : Cond.selects "FoxBurrowsModel" (⟨"FoxBurrowsModel", "endsGame", "()V"⟩ : MethodName) (⟨"FoxBurrowsModel", "endsGame", "()V"⟩ : MethodName) ∈ TB := zTBp 32 (by decide +kernel) (by decide +kernel)
theorem wp_33 : Cond.selects "FoxBurrowsModel" (⟨"FoxBurrowsModel", "keeps", "(I)I"⟩ : MethodName) (⟨"FoxBurrowsModel", "keeps", "(I)I"⟩ : MethodName) ∈ TB := zTBp 33 (by decide +kernel) (by decide +kernel)
theorem wp_34 : Cond.selects "FoxBurrowsModel" (⟨"FoxBurrowsModel", "raises", "(I)I"⟩ : MethodName) (⟨"FoxBurrowsModel", "raises", "(I)I"⟩ : MethodName) ∈ TB := zTBp 34 (by decide +kernel) (by decide +kernel)
theorem wp_35 : Cond.selects "FoxBurrowsModel" (⟨"FoxBurrowsModel", "treads", "(II)I"⟩ : MethodName) (⟨"FoxBurrowsModel", "treads", "(II)I"⟩ : MethodName) ∈ TB := zTBp 35 (by decide +kernel) (by decide +kernel)
theorem wp_36 : Cond.selects "FoxBurrowsModel" (⟨"FoxBurrowsModel", "lacks", "(II)I"⟩ : MethodName) (⟨"FoxBurrowsModel", "lacks", "(II)I"⟩ : MethodName) ∈ TB := zTBp 36 (by decide +kernel) (by decide +kernel)
theorem wp_37 : Cond.selects "FoxBurrowsModel" (⟨"FoxBurrowsModel", "isBurrow", "(I)Z"⟩ : MethodName) (⟨"FoxBurrowsModel", "isBurrow", "(I)Z"⟩ : MethodName) ∈ TB := zTBp 37 (by decide +kernel) (by decide +kernel)
theorem wp_38 : Cond.selects "FoxBurrowsModel" (⟨"FoxBurrowsModel", "path", "(II)I"⟩ : MethodName) (⟨"FoxBurrowsModel", "path", "(II)I"⟩ : MethodName) ∈ TB := zTBp 38 (by decide +kernel) (by decide +kernel)
theorem wp_39 : Cond.selects "FoxBurrowsModel" (⟨"FoxBurrowsModel", "grows", "(II)I"⟩ : MethodName) (⟨"FoxBurrowsModel", "grows", "(II)I"⟩ : MethodName) ∈ TB := zTBp 39 (by decide +kernel) (by decide +kernel)
theorem wp_40 : Cond.selects "FoxBurrowsModel" (⟨"FoxBurrowsModel", "traps", "(IZ)I"⟩ : MethodName) (⟨"FoxBurrowsModel", "traps", "(IZ)I"⟩ : MethodName) ∈ TB := zTBp 40 (by decide +kernel) (by decide +kernel)
theorem wp_41 : Cond.selects "FoxBurrowsModel" (⟨"FoxBurrowsModel", "isTrap", "(I)Z"⟩ : MethodName) (⟨"FoxBurrowsModel", "isTrap", "(I)Z"⟩ : MethodName) ∈ TB := zTBp 41 (by decide +kernel) (by decide +kernel)
theorem wp_42 : Cond.selects "FoxBurrowsModel" (⟨"FoxBurrowsModel", "flocks", "(I)I"⟩ : MethodName) (⟨"FoxBurrowsModel", "flocks", "(I)I"⟩ : MethodName) ∈ TB := zTBp 42 (by decide +kernel) (by decide +kernel)
theorem wp_43 : Cond.selects "FoxBurrowsModel" (⟨"FoxBurrowsModel", "begins", "(I)I"⟩ : MethodName) (⟨"FoxBurrowsModel", "begins", "(I)I"⟩ : MethodName) ∈ TB := zTBp 43 (by decide +kernel) (by decide +kernel)
theorem wp_44 : Cond.selects "FoxBurrowsModel" (⟨"FoxBurrowsModel", "isPosition", "(I)Z"⟩ : MethodName) (⟨"FoxBurrowsModel", "isPosition", "(I)Z"⟩ : MethodName) ∈ TB := zTBp 44 (by decide +kernel) (by decide +kernel)
theorem wp_45 : Cond.selects "FoxBurrowsModel" (⟨"FoxBurrowsModel", "is", "(III)Z"⟩ : MethodName) (⟨"FoxBurrowsModel", "is", "(III)Z"⟩ : MethodName) ∈ TB := zTBp 45 (by decide +kernel) (by decide +kernel)
theorem wp_46 : Cond.selects "FoxBurrowsModel" (⟨"FoxBurrowsModel", "nears", "()V"⟩ : MethodName) (⟨"FoxBurrowsModel", "nears", "()V"⟩ : MethodName) ∈ TB := zTBp 46 (by decide +kernel) (by decide +kernel)
theorem wp_47 : Cond.selects "FoxBurrowsModel" (⟨"FoxBurrowsModel", "finds", "(I)V"⟩ : MethodName) (⟨"FoxBurrowsModel", "finds", "(I)V"⟩ : MethodName) ∈ TB := zTBp 47 (by decide +kernel) (by decide +kernel)
theorem wp_48 : Cond.selects "FoxBurrowsModel" (⟨"FoxBurrowsModel", "comes", "(II)V"⟩ : MethodName) (⟨"FoxBurrowsModel", "comes", "(II)V"⟩ : MethodName) ∈ TB := zTBp 48 (by decide +kernel) (by decide +kernel)
theorem wp_49 : Cond.selects "FoxBurrowsModel" (⟨"FoxBurrowsModel", "goes", "(II)I"⟩ : MethodName) (⟨"FoxBurrowsModel", "goes", "(II)I"⟩ : MethodName) ∈ TB := zTBp 49 (by decide +kernel) (by decide +kernel)
theorem wp_50 : Cond.selects "FoxBurrowsModel" (⟨"FoxBurrowsModel", "makes", "(II)V"⟩ : MethodName) (⟨"FoxBurrowsModel", "makes", "(II)V"⟩ : MethodName) ∈ TB := zTBp 50 (by decide +kernel) (by decide +kernel)
theorem wp_51 : Cond.selects "FoxBurrowsModel" (⟨"FoxBurrowsModel", "plays", "(I)I"⟩ : MethodName) (⟨"FoxBurrowsModel", "plays", "(I)I"⟩ : MethodName) ∈ TB := zTBp 51 (by decide +kernel) (by decide +kernel)
theorem wp_52 : Cond.selects "FoxBurrowsModel" (⟨"FoxBurrowsModel", "looks", "()V"⟩ : MethodName) (⟨"FoxBurrowsModel", "looks", "()V"⟩ : MethodName) ∈ TB := zTBp 52 (by decide +kernel) (by decide +kernel)
theorem wp_53 : Cond.selects "FoxBurrowsModel" (⟨"FoxBurrowsModel", "bestPlace", "(I)I"⟩ : MethodName) (⟨"FoxBurrowsModel", "bestPlace", "(I)I"⟩ : MethodName) ∈ TB := zTBp 53 (by decide +kernel) (by decide +kernel)
theorem wp_54 : Cond.selects "FoxBurrowsModel" (⟨"FoxBurrowsModel", "takesBack", "()I"⟩ : MethodName) (⟨"FoxBurrowsModel", "takesBack", "()I"⟩ : MethodName) ∈ TB := zTBp 54 (by decide +kernel) (by decide +kernel)
theorem wp_55 : Cond.selects "FoxBurrowsModel" (⟨"FoxBurrowsModel", "knows", "()V"⟩ : MethodName) (⟨"FoxBurrowsModel", "knows", "()V"⟩ : MethodName) ∈ TB := zTBp 55 (by decide +kernel) (by decide +kernel)
theorem wp_56 : Cond.selects "FoxBurrowsModel" (⟨"FoxBurrowsModel", "isForFox", "(I)Z"⟩ : MethodName) (⟨"FoxBurrowsModel", "isForFox", "(I)Z"⟩ : MethodName) ∈ TB := zTBp 56 (by decide +kernel) (by decide +kernel)
theorem wp_57 : Cond.selects "FoxBurrowsModel" (⟨"FoxBurrowsModel", "isCommand", "()Z"⟩ : MethodName) (⟨"FoxBurrowsModel", "isCommand", "()Z"⟩ : MethodName) ∈ TB := zTBp 57 (by decide +kernel) (by decide +kernel)
theorem wp_58 : Cond.selects "FoxBurrowsModel" (⟨"FoxBurrowsModel", "digits", "(II)Z"⟩ : MethodName) (⟨"FoxBurrowsModel", "digits", "(II)Z"⟩ : MethodName) ∈ TB := zTBp 58 (by decide +kernel) (by decide +kernel)
theorem wp_59 : Cond.selects "FoxBurrowsModel" (⟨"FoxBurrowsModel", "takes", "(C)Z"⟩ : MethodName) (⟨"FoxBurrowsModel", "takes", "(C)Z"⟩ : MethodName) ∈ TB := zTBp 59 (by decide +kernel) (by decide +kernel)
theorem wp_60 : Cond.selects "FoxBurrowsModel" (⟨"FoxBurrowsModel", "carries", "()I"⟩ : MethodName) (⟨"FoxBurrowsModel", "carries", "()I"⟩ : MethodName) ∈ TB := zTBp 60 (by decide +kernel) (by decide +kernel)
theorem wp_61 : Cond.selects "FoxBurrowsModel" (⟨"FoxBurrowsModel", "positions", "()I"⟩ : MethodName) (⟨"FoxBurrowsModel", "positions", "()I"⟩ : MethodName) ∈ TB := zTBp 61 (by decide +kernel) (by decide +kernel)
theorem wd_1 : (Jvm.Cond.initialized "FoxBurrows") ∈ TB := zTB 1 (by decide +kernel) (by decide +kernel)
theorem wd_2 : (Jvm.Cond.initialized "FoxBurrows$State") ∈ TB := zTB 2 (by decide +kernel) (by decide +kernel)
theorem wd_3 : (Jvm.Cond.initialized "FoxBurrows$Field") ∈ TB := zTB 3 (by decide +kernel) (by decide +kernel)
theorem wd_4 : (Jvm.Cond.initialized "FoxBurrows$Game") ∈ TB := zTB 4 (by decide +kernel) (by decide +kernel)
theorem wd_5 : (Jvm.Cond.initialized "FoxBurrows$Changes") ∈ TB := zTB 5 (by decide +kernel) (by decide +kernel)
theorem wd_6 : (Jvm.Cond.initialized "FoxBurrows$Table") ∈ TB := zTB 6 (by decide +kernel) (by decide +kernel)
theorem wd_7 : (Jvm.Cond.initialized "FoxBurrows$SecondWay") ∈ TB := zTB 7 (by decide +kernel) (by decide +kernel)
theorem wd_8 : (Jvm.Cond.initialized "FoxBurrows$Text") ∈ TB := zTB 8 (by decide +kernel) (by decide +kernel)
theorem wd_9 : (Jvm.Cond.initialized "FoxBurrows$Reader") ∈ TB := zTB 9 (by decide +kernel) (by decide +kernel)
theorem wd_11 : (Jvm.Cond.initialized "FoxBurrowsModel") ∈ TB := zTB 11 (by decide +kernel) (by decide +kernel)
theorem wd_12 : (Jvm.Cond.initialized "java/lang/Math") ∈ TB := zTB 12 (by decide +kernel) (by decide +kernel)
theorem wd_13 : (Jvm.Cond.initialized "java/lang/System") ∈ TB := zTB 13 (by decide +kernel) (by decide +kernel)
theorem wd_17 : (Jvm.Cond.initialized "java/lang/UnsupportedOperationException") ∈ TB := zTB 17 (by decide +kernel) (by decide +kernel)
theorem wd_18 : (Jvm.Cond.initialized "java/lang/Integer") ∈ TB := zTB 18 (by decide +kernel) (by decide +kernel)
theorem wd_19 : (Jvm.Cond.initialized "java/lang/Long") ∈ TB := zTB 19 (by decide +kernel) (by decide +kernel)
theorem wd_20 : (Jvm.Cond.initialized "java/util/NoSuchElementException") ∈ TB := zTB 20 (by decide +kernel) (by decide +kernel)
theorem wd_21 : (Jvm.Cond.initialized "java/lang/IllegalArgumentException") ∈ TB := zTB 21 (by decide +kernel) (by decide +kernel)
theorem wd_22 : (Jvm.Cond.initialized "java/lang/IndexOutOfBoundsException") ∈ TB := zTB 22 (by decide +kernel) (by decide +kernel)
theorem wd_25 : (Jvm.Cond.initialized "java/lang/IllegalStateException") ∈ TB := zTB 25 (by decide +kernel) (by decide +kernel)
theorem wd_26 : (Jvm.Cond.initialized "java/lang/ArithmeticException") ∈ TB := zTB 26 (by decide +kernel) (by decide +kernel)
theorem wd_47 : (Jvm.Cond.fieldLink "FoxBurrows$Field" (25 : Nat) "FoxBurrows$Field" "burrows" "I") ∈ TB := zTB 47 (by decide +kernel) (by decide +kernel)
theorem wd_48 : (Jvm.Cond.fieldLink "FoxBurrows" (265 : Nat) "FoxBurrows$Field" "burrows" "I") ∈ TB := zTB 48 (by decide +kernel) (by decide +kernel)
theorem wd_49 : (Jvm.Cond.fieldLink "FoxBurrows$Field" (28 : Nat) "FoxBurrows$Field" "paths" "I") ∈ TB := zTB 49 (by decide +kernel) (by decide +kernel)
theorem wd_50 : (Jvm.Cond.fieldLink "FoxBurrows" (299 : Nat) "FoxBurrows$Field" "paths" "I") ∈ TB := zTB 50 (by decide +kernel) (by decide +kernel)
theorem wd_51 : (Jvm.Cond.fieldLink "FoxBurrows$Field" (31 : Nat) "FoxBurrows$Field" "traps" "I") ∈ TB := zTB 51 (by decide +kernel) (by decide +kernel)
theorem wd_52 : (Jvm.Cond.fieldLink "FoxBurrows" (319 : Nat) "FoxBurrows$Field" "traps" "I") ∈ TB := zTB 52 (by decide +kernel) (by decide +kernel)
theorem wd_53 : (Jvm.Cond.fieldLink "FoxBurrows$Field" (9 : Nat) "FoxBurrows$Field" "geese" "I") ∈ TB := zTB 53 (by decide +kernel) (by decide +kernel)
theorem wd_54 : (Jvm.Cond.fieldLink "FoxBurrows" (322 : Nat) "FoxBurrows$Field" "geese" "I") ∈ TB := zTB 54 (by decide +kernel) (by decide +kernel)
theorem wd_55 : (Jvm.Cond.fieldLink "FoxBurrows$Table" (28 : Nat) "FoxBurrows$Field" "version" "I") ∈ TB := zTB 55 (by decide +kernel) (by decide +kernel)
theorem wd_56 : (Jvm.Cond.fieldLink "FoxBurrows$SecondWay" (22 : Nat) "FoxBurrows$Field" "version" "I") ∈ TB := zTB 56 (by decide +kernel) (by decide +kernel)
theorem wd_57 : (Jvm.Cond.fieldLink "FoxBurrows$Field" (34 : Nat) "FoxBurrows$Field" "version" "I") ∈ TB := zTB 57 (by decide +kernel) (by decide +kernel)
theorem wd_58 : (Jvm.Cond.fieldLink "FoxBurrows" (262 : Nat) "FoxBurrows$Field" "version" "I") ∈ TB := zTB 58 (by decide +kernel) (by decide +kernel)
theorem wd_59 : (Jvm.Cond.fieldLink "FoxBurrows$Field" (15 : Nat) "FoxBurrows$Field" "ones" "[I") ∈ TB := zTB 59 (by decide +kernel) (by decide +kernel)
theorem wd_60 : (Jvm.Cond.fieldLink "FoxBurrows" (307 : Nat) "FoxBurrows$Field" "ones" "[I") ∈ TB := zTB 60 (by decide +kernel) (by decide +kernel)
theorem wd_61 : (Jvm.Cond.fieldLink "FoxBurrows$Field" (19 : Nat) "FoxBurrows$Field" "others" "[I") ∈ TB := zTB 61 (by decide +kernel) (by decide +kernel)
theorem wd_62 : (Jvm.Cond.fieldLink "FoxBurrows" (304 : Nat) "FoxBurrows$Field" "others" "[I") ∈ TB := zTB 62 (by decide +kernel) (by decide +kernel)
theorem wd_63 : (Jvm.Cond.fieldLink "FoxBurrows$Field" (22 : Nat) "FoxBurrows$Field" "near" "[I") ∈ TB := zTB 63 (by decide +kernel) (by decide +kernel)
theorem wd_64 : (Jvm.Cond.fieldLink "FoxBurrows" (278 : Nat) "FoxBurrows$Field" "near" "[I") ∈ TB := zTB 64 (by decide +kernel) (by decide +kernel)
theorem wd_89 : (Jvm.Cond.fieldLink "FoxBurrows$Game" (18 : Nat) "FoxBurrows$Game" "isOn" "Z") ∈ TB := zTB 89 (by decide +kernel) (by decide +kernel)
theorem wd_90 : (Jvm.Cond.fieldLink "FoxBurrows" (122 : Nat) "FoxBurrows$Game" "isOn" "Z") ∈ TB := zTB 90 (by decide +kernel) (by decide +kernel)
theorem wd_91 : (Jvm.Cond.fieldLink "FoxBurrows$Game" (22 : Nat) "FoxBurrows$Game" "moves" "I") ∈ TB := zTB 91 (by decide +kernel) (by decide +kernel)
theorem wd_92 : (Jvm.Cond.fieldLink "FoxBurrows" (325 : Nat) "FoxBurrows$Game" "moves" "I") ∈ TB := zTB 92 (by decide +kernel) (by decide +kernel)
theorem wd_93 : (Jvm.Cond.fieldLink "FoxBurrows$Game" (9 : Nat) "FoxBurrows$Game" "positions" "[I") ∈ TB := zTB 93 (by decide +kernel) (by decide +kernel)
theorem wd_94 : (Jvm.Cond.fieldLink "FoxBurrows" (380 : Nat) "FoxBurrows$Game" "positions" "[I") ∈ TB := zTB 94 (by decide +kernel) (by decide +kernel)
theorem wd_95 : (Jvm.Cond.fieldLink "FoxBurrows$Game" (15 : Nat) "FoxBurrows$Game" "made" "[I") ∈ TB := zTB 95 (by decide +kernel) (by decide +kernel)
theorem wd_96 : (Jvm.Cond.fieldLink "FoxBurrows" (377 : Nat) "FoxBurrows$Game" "made" "[I") ∈ TB := zTB 96 (by decide +kernel) (by decide +kernel)
theorem wd_106 : (Jvm.Cond.fieldLink "FoxBurrows$State" (10 : Nat) "FoxBurrows$State" "field" "LFoxBurrows$Field;") ∈ TB := zTB 106 (by decide +kernel) (by decide +kernel)
theorem wd_107 : (Jvm.Cond.fieldLink "FoxBurrows" (138 : Nat) "FoxBurrows$State" "field" "LFoxBurrows$Field;") ∈ TB := zTB 107 (by decide +kernel) (by decide +kernel)
theorem wd_108 : (Jvm.Cond.fieldLink "FoxBurrows$State" (19 : Nat) "FoxBurrows$State" "game" "LFoxBurrows$Game;") ∈ TB := zTB 108 (by decide +kernel) (by decide +kernel)
theorem wd_109 : (Jvm.Cond.fieldLink "FoxBurrows" (118 : Nat) "FoxBurrows$State" "game" "LFoxBurrows$Game;") ∈ TB := zTB 109 (by decide +kernel) (by decide +kernel)
theorem wd_110 : (Jvm.Cond.fieldLink "FoxBurrows$State" (30 : Nat) "FoxBurrows$State" "begun" "I") ∈ TB := zTB 110 (by decide +kernel) (by decide +kernel)
theorem wd_111 : (Jvm.Cond.fieldLink "FoxBurrows" (328 : Nat) "FoxBurrows$State" "begun" "I") ∈ TB := zTB 111 (by decide +kernel) (by decide +kernel)
theorem wd_128 : (Jvm.Cond.fieldLink "FoxBurrows$Changes" (11 : Nat) "FoxBurrows$Changes" "earlier" "[LFoxBurrows$State;") ∈ TB := zTB 128 (by decide +kernel) (by decide +kernel)
theorem wd_129 : (Jvm.Cond.fieldLink "FoxBurrows$Changes" (30 : Nat) "FoxBurrows$Changes" "kept" "I") ∈ TB := zTB 129 (by decide +kernel) (by decide +kernel)
theorem wd_130 : (Jvm.Cond.fieldLink "FoxBurrows" (331 : Nat) "FoxBurrows$Changes" "kept" "I") ∈ TB := zTB 130 (by decide +kernel) (by decide +kernel)
theorem wd_131 : (Jvm.Cond.fieldLink "FoxBurrows$Changes" (18 : Nat) "FoxBurrows$Changes" "next" "I") ∈ TB := zTB 131 (by decide +kernel) (by decide +kernel)
theorem wd_147 : (Jvm.Cond.fieldLink "FoxBurrows$Table" (37 : Nat) "FoxBurrows$Table" "size" "I") ∈ TB := zTB 147 (by decide +kernel) (by decide +kernel)
theorem wd_148 : (Jvm.Cond.fieldLink "FoxBurrows" (228 : Nat) "FoxBurrows$Table" "size" "I") ∈ TB := zTB 148 (by decide +kernel) (by decide +kernel)
theorem wd_149 : (Jvm.Cond.fieldLink "FoxBurrows$Table" (9 : Nat) "FoxBurrows$Table" "solved" "I") ∈ TB := zTB 149 (by decide +kernel) (by decide +kernel)
theorem wd_150 : (Jvm.Cond.fieldLink "FoxBurrows$Table" (15 : Nat) "FoxBurrows$Table" "all" "[I") ∈ TB := zTB 150 (by decide +kernel) (by decide +kernel)
theorem wd_151 : (Jvm.Cond.fieldLink "FoxBurrows$Table" (19 : Nat) "FoxBurrows$Table" "told" "[I") ∈ TB := zTB 151 (by decide +kernel) (by decide +kernel)
theorem wd_152 : (Jvm.Cond.fieldLink "FoxBurrows$Table" (22 : Nat) "FoxBurrows$Table" "numbers" "[I") ∈ TB := zTB 152 (by decide +kernel) (by decide +kernel)
theorem wd_153 : (Jvm.Cond.fieldLink "FoxBurrows$Table" (25 : Nat) "FoxBurrows$Table" "open" "[I") ∈ TB := zTB 153 (by decide +kernel) (by decide +kernel)
theorem wd_173 : (Jvm.Cond.fieldLink "FoxBurrows$SecondWay" (9 : Nat) "FoxBurrows$SecondWay" "solved" "I") ∈ TB := zTB 173 (by decide +kernel) (by decide +kernel)
theorem wd_174 : (Jvm.Cond.fieldLink "FoxBurrows$SecondWay" (15 : Nat) "FoxBurrows$SecondWay" "all" "[I") ∈ TB := zTB 174 (by decide +kernel) (by decide +kernel)
theorem wd_175 : (Jvm.Cond.fieldLink "FoxBurrows$SecondWay" (19 : Nat) "FoxBurrows$SecondWay" "outcomes" "[I") ∈ TB := zTB 175 (by decide +kernel) (by decide +kernel)
theorem wd_189 : (Jvm.Cond.fieldLink "FoxBurrows$Text" (15 : Nat) "FoxBurrows$Text" "length" "I") ∈ TB := zTB 189 (by decide +kernel) (by decide +kernel)
theorem wd_190 : (Jvm.Cond.fieldLink "FoxBurrows$Reader" (32 : Nat) "FoxBurrows$Text" "length" "I") ∈ TB := zTB 190 (by decide +kernel) (by decide +kernel)
theorem wd_191 : (Jvm.Cond.fieldLink "FoxBurrows" (333 : Nat) "FoxBurrows$Text" "length" "I") ∈ TB := zTB 191 (by decide +kernel) (by decide +kernel)
theorem wd_192 : (Jvm.Cond.fieldLink "FoxBurrows$Text" (9 : Nat) "FoxBurrows$Text" "signs" "[C") ∈ TB := zTB 192 (by decide +kernel) (by decide +kernel)
theorem wd_205 : (Jvm.Cond.fieldLink "FoxBurrows$Reader" (25 : Nat) "FoxBurrows$Reader" "count" "I") ∈ TB := zTB 205 (by decide +kernel) (by decide +kernel)
theorem wd_206 : (Jvm.Cond.fieldLink "FoxBurrows" (354 : Nat) "FoxBurrows$Reader" "count" "I") ∈ TB := zTB 206 (by decide +kernel) (by decide +kernel)
theorem wd_207 : (Jvm.Cond.fieldLink "FoxBurrows$Reader" (9 : Nat) "FoxBurrows$Reader" "kinds" "[I") ∈ TB := zTB 207 (by decide +kernel) (by decide +kernel)
theorem wd_208 : (Jvm.Cond.fieldLink "FoxBurrows" (430 : Nat) "FoxBurrows$Reader" "kinds" "[I") ∈ TB := zTB 208 (by decide +kernel) (by decide +kernel)
theorem wd_209 : (Jvm.Cond.fieldLink "FoxBurrows$Reader" (15 : Nat) "FoxBurrows$Reader" "ones" "[I") ∈ TB := zTB 209 (by decide +kernel) (by decide +kernel)
theorem wd_210 : (Jvm.Cond.fieldLink "FoxBurrows" (428 : Nat) "FoxBurrows$Reader" "ones" "[I") ∈ TB := zTB 210 (by decide +kernel) (by decide +kernel)
theorem wd_211 : (Jvm.Cond.fieldLink "FoxBurrows$Reader" (18 : Nat) "FoxBurrows$Reader" "others" "[I") ∈ TB := zTB 211 (by decide +kernel) (by decide +kernel)
theorem wd_212 : (Jvm.Cond.fieldLink "FoxBurrows" (429 : Nat) "FoxBurrows$Reader" "others" "[I") ∈ TB := zTB 212 (by decide +kernel) (by decide +kernel)
theorem wd_213 : (Jvm.Cond.fieldLink "FoxBurrows$Reader" (21 : Nat) "FoxBurrows$Reader" "place" "I") ∈ TB := zTB 213 (by decide +kernel) (by decide +kernel)
theorem wd_231 : (Jvm.Cond.fieldLink "FoxBurrows" (365 : Nat) "FoxBurrows$Reason" "isThere" "Z") ∈ TB := zTB 231 (by decide +kernel) (by decide +kernel)
theorem wd_232 : (Jvm.Cond.fieldLink "FoxBurrows" (370 : Nat) "FoxBurrows$Reason" "why" "I") ∈ TB := zTB 232 (by decide +kernel) (by decide +kernel)
theorem wd_233 : (Jvm.Cond.fieldLink "FoxBurrows" (373 : Nat) "FoxBurrows$Reason" "detail" "I") ∈ TB := zTB 233 (by decide +kernel) (by decide +kernel)
theorem wd_234 : (Jvm.Cond.fieldLink "FoxBurrows" (376 : Nat) "FoxBurrows$Reason" "command" "I") ∈ TB := zTB 234 (by decide +kernel) (by decide +kernel)
theorem wd_244 : (Jvm.Cond.fieldLink "FoxBurrows" (10 : Nat) "FoxBurrows" "state" "LFoxBurrows$State;") ∈ TB := zTB 244 (by decide +kernel) (by decide +kernel)
theorem wd_245 : (Jvm.Cond.fieldLink "FoxBurrows" (16 : Nat) "FoxBurrows" "before" "LFoxBurrows$State;") ∈ TB := zTB 245 (by decide +kernel) (by decide +kernel)
theorem wd_246 : (Jvm.Cond.fieldLink "FoxBurrows" (19 : Nat) "FoxBurrows" "saved" "LFoxBurrows$State;") ∈ TB := zTB 246 (by decide +kernel) (by decide +kernel)
theorem wd_247 : (Jvm.Cond.fieldLink "FoxBurrows" (397 : Nat) "FoxBurrows" "hasSaved" "Z") ∈ TB := zTB 247 (by decide +kernel) (by decide +kernel)
theorem wd_248 : (Jvm.Cond.fieldLink "FoxBurrows" (25 : Nat) "FoxBurrows" "changes" "LFoxBurrows$Changes;") ∈ TB := zTB 248 (by decide +kernel) (by decide +kernel)
theorem wd_249 : (Jvm.Cond.fieldLink "FoxBurrows" (32 : Nat) "FoxBurrows" "trialField" "LFoxBurrows$Field;") ∈ TB := zTB 249 (by decide +kernel) (by decide +kernel)
theorem wd_250 : (Jvm.Cond.fieldLink "FoxBurrows" (39 : Nat) "FoxBurrows" "table" "LFoxBurrows$Table;") ∈ TB := zTB 250 (by decide +kernel) (by decide +kernel)
theorem wd_251 : (Jvm.Cond.fieldLink "FoxBurrows" (43 : Nat) "FoxBurrows" "trialTable" "LFoxBurrows$Table;") ∈ TB := zTB 251 (by decide +kernel) (by decide +kernel)
theorem wd_252 : (Jvm.Cond.fieldLink "FoxBurrows" (49 : Nat) "FoxBurrows" "secondWay" "LFoxBurrows$SecondWay;") ∈ TB := zTB 252 (by decide +kernel) (by decide +kernel)
theorem wd_253 : (Jvm.Cond.fieldLink "FoxBurrows" (56 : Nat) "FoxBurrows" "buffer" "LFoxBurrows$Text;") ∈ TB := zTB 253 (by decide +kernel) (by decide +kernel)
theorem wd_254 : (Jvm.Cond.fieldLink "FoxBurrows" (60 : Nat) "FoxBurrows" "written" "LFoxBurrows$Text;") ∈ TB := zTB 254 (by decide +kernel) (by decide +kernel)
theorem wd_255 : (Jvm.Cond.fieldLink "FoxBurrows" (66 : Nat) "FoxBurrows" "reader" "LFoxBurrows$Reader;") ∈ TB := zTB 255 (by decide +kernel) (by decide +kernel)
theorem wd_256 : (Jvm.Cond.fieldLink "FoxBurrows" (73 : Nat) "FoxBurrows" "kept" "LFoxBurrows$Reason;") ∈ TB := zTB 256 (by decide +kernel) (by decide +kernel)
theorem wd_257 : (Jvm.Cond.fieldLink "FoxBurrows" (77 : Nat) "FoxBurrows" "fault" "I") ∈ TB := zTB 257 (by decide +kernel) (by decide +kernel)
theorem wd_258 : (Jvm.Cond.fieldLink "FoxBurrows" (357 : Nat) "FoxBurrows" "command" "I") ∈ TB := zTB 258 (by decide +kernel) (by decide +kernel)
theorem wd_259 : (Jvm.Cond.fieldLink "FoxBurrows" (441 : Nat) "FoxBurrows" "versions" "I") ∈ TB := zTB 259 (by decide +kernel) (by decide +kernel)
theorem wd_301 : (Jvm.Cond.methodLink "FoxBurrows" (344 : Nat) ({ cls := "FoxBurrows$Text", name := "add", desc := "(C)V" } : Jvm.MethodName)) ∈ TB := zTB 301 (by decide +kernel) (by decide +kernel)
theorem wd_302 : (Jvm.Cond.instanceMethod ({ cls := "FoxBurrows$Text", name := "add", desc := "(C)V" } : Jvm.MethodName)) ∈ TB := zTB 302 (by decide +kernel) (by decide +kernel)
theorem wd_303 : (Jvm.Cond.selects "FoxBurrows$Text" ({ cls := "FoxBurrows$Text", name := "add", desc := "(C)V" } : Jvm.MethodName) ({ cls := "FoxBurrows$Text", name := "add", desc := "(C)V" } : Jvm.MethodName)) ∈ TB := zTB 303 (by decide +kernel) (by decide +kernel)
theorem wd_304 : (Jvm.Cond.code ({ cls := "FoxBurrows$Text", name := "add", desc := "(C)V" } : Jvm.MethodName) prog_10_method_2_code (2 : Nat) (Option.none : Option Jvm.ClassFile.FieldType)) ∈ TB := zTB 304 (by decide +kernel) (by decide +kernel)
theorem wd_305 : (Jvm.Cond.methodLink "FoxBurrows" (282 : Nat) ({ cls := "FoxBurrows", name := "at", desc := "([II)I" } : Jvm.MethodName)) ∈ TB := zTB 305 (by decide +kernel) (by decide +kernel)
theorem wd_306 : (Jvm.Cond.static ({ cls := "FoxBurrows", name := "at", desc := "([II)I" } : Jvm.MethodName)) ∈ TB := zTB 306 (by decide +kernel) (by decide +kernel)
theorem wd_307 : (Jvm.Cond.code ({ cls := "FoxBurrows", name := "at", desc := "([II)I" } : Jvm.MethodName) prog_1_method_58_code (2 : Nat) (Option.some Jvm.ClassFile.FieldType.int)) ∈ TB := zTB 307 (by decide +kernel) (by decide +kernel)
theorem wd_308 : (Jvm.Cond.methodLink "FoxBurrows" (169 : Nat) ({ cls := "FoxBurrows", name := "turnOf", desc := "(I)I" } : Jvm.MethodName)) ∈ TB := zTB 308 (by decide +kernel) (by decide +kernel)
theorem wd_309 : (Jvm.Cond.static ({ cls := "FoxBurrows", name := "turnOf", desc := "(I)I" } : Jvm.MethodName)) ∈ TB := zTB 309 (by decide +kernel) (by decide +kernel)
theorem wd_310 : (Jvm.Cond.code ({ cls := "FoxBurrows", name := "turnOf", desc := "(I)I" } : Jvm.MethodName) prog_1_method_65_code (1 : Nat) (Option.some Jvm.ClassFile.FieldType.int)) ∈ TB := zTB 310 (by decide +kernel) (by decide +kernel)
theorem wd_311 : (Jvm.Cond.methodLink "FoxBurrows" (206 : Nat) ({ cls := "FoxBurrows", name := "fromOf", desc := "(I)I" } : Jvm.MethodName)) ∈ TB := zTB 311 (by decide +kernel) (by decide +kernel)
theorem wd_312 : (Jvm.Cond.static ({ cls := "FoxBurrows", name := "fromOf", desc := "(I)I" } : Jvm.MethodName)) ∈ TB := zTB 312 (by decide +kernel) (by decide +kernel)
theorem wd_313 : (Jvm.Cond.code ({ cls := "FoxBurrows", name := "fromOf", desc := "(I)I" } : Jvm.MethodName) prog_1_method_68_code (1 : Nat) (Option.some Jvm.ClassFile.FieldType.int)) ∈ TB := zTB 313 (by decide +kernel) (by decide +kernel)
theorem wd_314 : (Jvm.Cond.methodLink "FoxBurrows" (203 : Nat) ({ cls := "FoxBurrows", name := "toOf", desc := "(I)I" } : Jvm.MethodName)) ∈ TB := zTB 314 (by decide +kernel) (by decide +kernel)
theorem wd_315 : (Jvm.Cond.static ({ cls := "FoxBurrows", name := "toOf", desc := "(I)I" } : Jvm.MethodName)) ∈ TB := zTB 315 (by decide +kernel) (by decide +kernel)
theorem wd_316 : (Jvm.Cond.code ({ cls := "FoxBurrows", name := "toOf", desc := "(I)I" } : Jvm.MethodName) prog_1_method_69_code (1 : Nat) (Option.some Jvm.ClassFile.FieldType.int)) ∈ TB := zTB 316 (by decide +kernel) (by decide +kernel)
theorem wd_321 : (Jvm.Cond.methodLink "FoxBurrows" (395 : Nat) ({ cls := "FoxBurrows$State", name := "become", desc := "(LFoxBurrows$State;)V" } : Jvm.MethodName)) ∈ TB := zTB 321 (by decide +kernel) (by decide +kernel)
theorem wd_322 : (Jvm.Cond.instanceMethod ({ cls := "FoxBurrows$State", name := "become", desc := "(LFoxBurrows$State;)V" } : Jvm.MethodName)) ∈ TB := zTB 322 (by decide +kernel) (by decide +kernel)
theorem wd_323 : (Jvm.Cond.selects "FoxBurrows$State" ({ cls := "FoxBurrows$State", name := "become", desc := "(LFoxBurrows$State;)V" } : Jvm.MethodName) ({ cls := "FoxBurrows$State", name := "become", desc := "(LFoxBurrows$State;)V" } : Jvm.MethodName)) ∈ TB := zTB 323 (by decide +kernel) (by decide +kernel)
theorem wd_324 : (Jvm.Cond.code ({ cls := "FoxBurrows$State", name := "become", desc := "(LFoxBurrows$State;)V" } : Jvm.MethodName) prog_8_method_2_code (2 : Nat) (Option.none : Option Jvm.ClassFile.FieldType)) ∈ TB := zTB 324 (by decide +kernel) (by decide +kernel)
theorem wd_325 : (Jvm.Cond.methodLink "FoxBurrows$State" (23 : Nat) ({ cls := "FoxBurrows$Field", name := "become", desc := "(LFoxBurrows$Field;)V" } : Jvm.MethodName)) ∈ TB := zTB 325 (by decide +kernel) (by decide +kernel)
theorem wd_326 : (Jvm.Cond.instanceMethod ({ cls := "FoxBurrows$Field", name := "become", desc := "(LFoxBurrows$Field;)V" } : Jvm.MethodName)) ∈ TB := zTB 326 (by decide +kernel) (by decide +kernel)
theorem wd_327 : (Jvm.Cond.selects "FoxBurrows$Field" ({ cls := "FoxBurrows$Field", name := "become", desc := "(LFoxBurrows$Field;)V" } : Jvm.MethodName) ({ cls := "FoxBurrows$Field", name := "become", desc := "(LFoxBurrows$Field;)V" } : Jvm.MethodName)) ∈ TB := zTB 327 (by decide +kernel) (by decide +kernel)
theorem wd_328 : (Jvm.Cond.code ({ cls := "FoxBurrows$Field", name := "become", desc := "(LFoxBurrows$Field;)V" } : Jvm.MethodName) prog_3_method_2_code (2 : Nat) (Option.none : Option Jvm.ClassFile.FieldType)) ∈ TB := zTB 328 (by decide +kernel) (by decide +kernel)
theorem wd_330 : (Jvm.Cond.static ({ cls := "FoxBurrows", name := "copy", desc := "([I[I)V" } : Jvm.MethodName)) ∈ TB := zTB 330 (by decide +kernel) (by decide +kernel)
theorem wd_331 : (Jvm.Cond.code ({ cls := "FoxBurrows", name := "copy", desc := "([I[I)V" } : Jvm.MethodName) prog_1_method_60_code (2 : Nat) (Option.none : Option Jvm.ClassFile.FieldType)) ∈ TB := zTB 331 (by decide +kernel) (by decide +kernel)
theorem wd_332 : (Jvm.Cond.methodLink "FoxBurrows" (449 : Nat) ({ cls := "java/lang/Math", name := "min", desc := "(II)I" } : Jvm.MethodName)) ∈ TB := zTB 332 (by decide +kernel) (by decide +kernel)
theorem wd_333 : (Jvm.Cond.static ({ cls := "java/lang/Math", name := "min", desc := "(II)I" } : Jvm.MethodName)) ∈ TB := zTB 333 (by decide +kernel) (by decide +kernel)
theorem wd_334 : (Jvm.Cond.code ({ cls := "java/lang/Math", name := "min", desc := "(II)I" } : Jvm.MethodName) prog_22_method_69_code (2 : Nat) (Option.some Jvm.ClassFile.FieldType.int)) ∈ TB := zTB 334 (by decide +kernel) (by decide +kernel)
theorem wd_335 : (Jvm.Cond.methodLink "FoxBurrows" (452 : Nat) ({ cls := "java/lang/System", name := "arraycopy", desc := "(Ljava/lang/Object;ILjava/lang/Object;II)V" } : Jvm.MethodName)) ∈ TB := zTB 335 (by decide +kernel) (by decide +kernel)
theorem wd_336 : (Jvm.Cond.static ({ cls := "java/lang/System", name := "arraycopy", desc := "(Ljava/lang/Object;ILjava/lang/Object;II)V" } : Jvm.MethodName)) ∈ TB := zTB 336 (by decide +kernel) (by decide +kernel)
theorem wd_337 : (Jvm.Cond.native ({ cls := "java/lang/System", name := "arraycopy", desc := "(Ljava/lang/Object;ILjava/lang/Object;II)V" } : Jvm.MethodName)) ∈ TB := zTB 337 (by decide +kernel) (by decide +kernel)
theorem wd_338 : (Jvm.Cond.methodLink "FoxBurrows$State" (27 : Nat) ({ cls := "FoxBurrows$Game", name := "become", desc := "(LFoxBurrows$Game;)V" } : Jvm.MethodName)) ∈ TB := zTB 338 (by decide +kernel) (by decide +kernel)
theorem wd_339 : (Jvm.Cond.instanceMethod ({ cls := "FoxBurrows$Game", name := "become", desc := "(LFoxBurrows$Game;)V" } : Jvm.MethodName)) ∈ TB := zTB 339 (by decide +kernel) (by decide +kernel)
theorem wd_340 : (Jvm.Cond.selects "FoxBurrows$Game" ({ cls := "FoxBurrows$Game", name := "become", desc := "(LFoxBurrows$Game;)V" } : Jvm.MethodName) ({ cls := "FoxBurrows$Game", name := "become", desc := "(LFoxBurrows$Game;)V" } : Jvm.MethodName)) ∈ TB := zTB 340 (by decide +kernel) (by decide +kernel)
theorem wd_341 : (Jvm.Cond.code ({ cls := "FoxBurrows$Game", name := "become", desc := "(LFoxBurrows$Game;)V" } : Jvm.MethodName) prog_4_method_2_code (2 : Nat) (Option.none : Option Jvm.ClassFile.FieldType)) ∈ TB := zTB 341 (by decide +kernel) (by decide +kernel)
theorem wd_351 : (Jvm.Cond.methodLink "FoxBurrows" (81 : Nat) ({ cls := "FoxBurrows", name := "setAside", desc := "()V" } : Jvm.MethodName)) ∈ TB := zTB 351 (by decide +kernel) (by decide +kernel)
theorem wd_353 : (Jvm.Cond.instanceMethod ({ cls := "FoxBurrows", name := "setAside", desc := "()V" } : Jvm.MethodName)) ∈ TB := zTB 353 (by decide +kernel) (by decide +kernel)
theorem wd_354 : (Jvm.Cond.code ({ cls := "FoxBurrows", name := "setAside", desc := "()V" } : Jvm.MethodName) prog_1_method_50_code (1 : Nat) (Option.none : Option Jvm.ClassFile.FieldType)) ∈ TB := zTB 354 (by decide +kernel) (by decide +kernel)
theorem wd_355 : (Jvm.Cond.methodLink "FoxBurrows" (84 : Nat) ({ cls := "FoxBurrows", name := "addBurrow", desc := "()I" } : Jvm.MethodName)) ∈ TB := zTB 355 (by decide +kernel) (by decide +kernel)
theorem wd_357 : (Jvm.Cond.instanceMethod ({ cls := "FoxBurrows", name := "addBurrow", desc := "()I" } : Jvm.MethodName)) ∈ TB := zTB 357 (by decide +kernel) (by decide +kernel)
theorem wd_358 : (Jvm.Cond.code ({ cls := "FoxBurrows", name := "addBurrow", desc := "()I" } : Jvm.MethodName) prog_1_method_38_code (2 : Nat) (Option.some Jvm.ClassFile.FieldType.int)) ∈ TB := zTB 358 (by decide +kernel) (by decide +kernel)
theorem wd_359 : (Jvm.Cond.methodLink "FoxBurrows" (402 : Nat) ({ cls := "FoxBurrows", name := "refused", desc := "(II)I" } : Jvm.MethodName)) ∈ TB := zTB 359 (by decide +kernel) (by decide +kernel)
theorem wd_361 : (Jvm.Cond.instanceMethod ({ cls := "FoxBurrows", name := "refused", desc := "(II)I" } : Jvm.MethodName)) ∈ TB := zTB 361 (by decide +kernel) (by decide +kernel)
theorem wd_362 : (Jvm.Cond.code ({ cls := "FoxBurrows", name := "refused", desc := "(II)I" } : Jvm.MethodName) prog_1_method_49_code (3 : Nat) (Option.some Jvm.ClassFile.FieldType.int)) ∈ TB := zTB 362 (by decide +kernel) (by decide +kernel)
theorem wd_363 : (Jvm.Cond.methodLink "FoxBurrows" (405 : Nat) ({ cls := "FoxBurrows", name := "markChanged", desc := "()V" } : Jvm.MethodName)) ∈ TB := zTB 363 (by decide +kernel) (by decide +kernel)
theorem wd_365 : (Jvm.Cond.instanceMethod ({ cls := "FoxBurrows", name := "markChanged", desc := "()V" } : Jvm.MethodName)) ∈ TB := zTB 365 (by decide +kernel) (by decide +kernel)
theorem wd_366 : (Jvm.Cond.code ({ cls := "FoxBurrows", name := "markChanged", desc := "()V" } : Jvm.MethodName) prog_1_method_52_code (1 : Nat) (Option.none : Option Jvm.ClassFile.FieldType)) ∈ TB := zTB 366 (by decide +kernel) (by decide +kernel)
theorem wd_367 : (Jvm.Cond.methodLink "FoxBurrows" (259 : Nat) ({ cls := "FoxBurrows", name := "newVersion", desc := "()I" } : Jvm.MethodName)) ∈ TB := zTB 367 (by decide +kernel) (by decide +kernel)
theorem wd_369 : (Jvm.Cond.instanceMethod ({ cls := "FoxBurrows", name := "newVersion", desc := "()I" } : Jvm.MethodName)) ∈ TB := zTB 369 (by decide +kernel) (by decide +kernel)
theorem wd_370 : (Jvm.Cond.code ({ cls := "FoxBurrows", name := "newVersion", desc := "()I" } : Jvm.MethodName) prog_1_method_53_code (1 : Nat) (Option.some Jvm.ClassFile.FieldType.int)) ∈ TB := zTB 370 (by decide +kernel) (by decide +kernel)
theorem wd_371 : (Jvm.Cond.methodLink "FoxBurrows" (88 : Nat) ({ cls := "FoxBurrows", name := "settled", desc := "(I)I" } : Jvm.MethodName)) ∈ TB := zTB 371 (by decide +kernel) (by decide +kernel)
theorem wd_373 : (Jvm.Cond.instanceMethod ({ cls := "FoxBurrows", name := "settled", desc := "(I)I" } : Jvm.MethodName)) ∈ TB := zTB 373 (by decide +kernel) (by decide +kernel)
theorem wd_374 : (Jvm.Cond.code ({ cls := "FoxBurrows", name := "settled", desc := "(I)I" } : Jvm.MethodName) prog_1_method_51_code (2 : Nat) (Option.some Jvm.ClassFile.FieldType.int)) ∈ TB := zTB 374 (by decide +kernel) (by decide +kernel)
theorem wd_375 : (Jvm.Cond.classLink "FoxBurrows" (433 : Nat) "java/lang/UnsupportedOperationException") ∈ TB := zTB 375 (by decide +kernel) (by decide +kernel)
theorem wd_447 : (Jvm.Cond.methodLink "FoxBurrows" (438 : Nat) ({ cls := "FoxBurrows$Changes", name := "keep", desc := "(LFoxBurrows$State;)V" } : Jvm.MethodName)) ∈ TB := zTB 447 (by decide +kernel) (by decide +kernel)
theorem wd_448 : (Jvm.Cond.instanceMethod ({ cls := "FoxBurrows$Changes", name := "keep", desc := "(LFoxBurrows$State;)V" } : Jvm.MethodName)) ∈ TB := zTB 448 (by decide +kernel) (by decide +kernel)
theorem wd_449 : (Jvm.Cond.selects "FoxBurrows$Changes" ({ cls := "FoxBurrows$Changes", name := "keep", desc := "(LFoxBurrows$State;)V" } : Jvm.MethodName) ({ cls := "FoxBurrows$Changes", name := "keep", desc := "(LFoxBurrows$State;)V" } : Jvm.MethodName)) ∈ TB := zTB 449 (by decide +kernel) (by decide +kernel)
theorem wd_450 : (Jvm.Cond.code ({ cls := "FoxBurrows$Changes", name := "keep", desc := "(LFoxBurrows$State;)V" } : Jvm.MethodName) prog_2_method_2_code (3 : Nat) (Option.none : Option Jvm.ClassFile.FieldType)) ∈ TB := zTB 450 (by decide +kernel) (by decide +kernel)
theorem wd_451 : (Jvm.Cond.methodLink "FoxBurrows$Changes" (22 : Nat) ({ cls := "FoxBurrows$Changes", name := "placeAt", desc := "(I)LFoxBurrows$State;" } : Jvm.MethodName)) ∈ TB := zTB 451 (by decide +kernel) (by decide +kernel)
theorem wd_453 : (Jvm.Cond.instanceMethod ({ cls := "FoxBurrows$Changes", name := "placeAt", desc := "(I)LFoxBurrows$State;" } : Jvm.MethodName)) ∈ TB := zTB 453 (by decide +kernel) (by decide +kernel)
theorem wd_454 : (Jvm.Cond.code ({ cls := "FoxBurrows$Changes", name := "placeAt", desc := "(I)LFoxBurrows$State;" } : Jvm.MethodName) prog_2_method_4_code (2 : Nat) (Option.some (Jvm.ClassFile.FieldType.object "FoxBurrows$State"))) ∈ TB := zTB 454 (by decide +kernel) (by decide +kernel)
theorem wd_455 : (Jvm.Cond.methodLink "FoxBurrows$Changes" (26 : Nat) ({ cls := "FoxBurrows$State", name := "become", desc := "(LFoxBurrows$State;)V" } : Jvm.MethodName)) ∈ TB := zTB 455 (by decide +kernel) (by decide +kernel)
theorem wd_456 : (Jvm.Cond.methodLink "FoxBurrows$Changes" (33 : Nat) ({ cls := "java/lang/Math", name := "min", desc := "(II)I" } : Jvm.MethodName)) ∈ TB := zTB 456 (by decide +kernel) (by decide +kernel)
theorem wd_464 : (Jvm.Cond.methodLink "FoxBurrows" (92 : Nat) ({ cls := "FoxBurrows", name := "addPath", desc := "(II)I" } : Jvm.MethodName)) ∈ TB := zTB 464 (by decide +kernel) (by decide +kernel)
theorem wd_466 : (Jvm.Cond.instanceMethod ({ cls := "FoxBurrows", name := "addPath", desc := "(II)I" } : Jvm.MethodName)) ∈ TB := zTB 466 (by decide +kernel) (by decide +kernel)
theorem wd_467 : (Jvm.Cond.code ({ cls := "FoxBurrows", name := "addPath", desc := "(II)I" } : Jvm.MethodName) prog_1_method_39_code (4 : Nat) (Option.some Jvm.ClassFile.FieldType.int)) ∈ TB := zTB 467 (by decide +kernel) (by decide +kernel)
theorem wd_468 : (Jvm.Cond.methodLink "FoxBurrows" (408 : Nat) ({ cls := "FoxBurrows", name := "isRefusedFor", desc := "(I)Z" } : Jvm.MethodName)) ∈ TB := zTB 468 (by decide +kernel) (by decide +kernel)
theorem wd_470 : (Jvm.Cond.instanceMethod ({ cls := "FoxBurrows", name := "isRefusedFor", desc := "(I)Z" } : Jvm.MethodName)) ∈ TB := zTB 470 (by decide +kernel) (by decide +kernel)
theorem wd_471 : (Jvm.Cond.code ({ cls := "FoxBurrows", name := "isRefusedFor", desc := "(I)Z" } : Jvm.MethodName) prog_1_method_48_code (2 : Nat) (Option.some Jvm.ClassFile.FieldType.boolean)) ∈ TB := zTB 471 (by decide +kernel) (by decide +kernel)
theorem wd_472 : (Jvm.Cond.methodLink "FoxBurrows" (241 : Nat) ({ cls := "FoxBurrows$Field", name := "has", desc := "(I)Z" } : Jvm.MethodName)) ∈ TB := zTB 472 (by decide +kernel) (by decide +kernel)
theorem wd_473 : (Jvm.Cond.instanceMethod ({ cls := "FoxBurrows$Field", name := "has", desc := "(I)Z" } : Jvm.MethodName)) ∈ TB := zTB 473 (by decide +kernel) (by decide +kernel)
theorem wd_474 : (Jvm.Cond.selects "FoxBurrows$Field" ({ cls := "FoxBurrows$Field", name := "has", desc := "(I)Z" } : Jvm.MethodName) ({ cls := "FoxBurrows$Field", name := "has", desc := "(I)Z" } : Jvm.MethodName)) ∈ TB := zTB 474 (by decide +kernel) (by decide +kernel)
theorem wd_475 : (Jvm.Cond.code ({ cls := "FoxBurrows$Field", name := "has", desc := "(I)Z" } : Jvm.MethodName) prog_3_method_3_code (2 : Nat) (Option.some Jvm.ClassFile.FieldType.boolean)) ∈ TB := zTB 475 (by decide +kernel) (by decide +kernel)
theorem wd_476 : (Jvm.Cond.methodLink "FoxBurrows" (411 : Nat) ({ cls := "FoxBurrows$Field", name := "pathBetween", desc := "(II)I" } : Jvm.MethodName)) ∈ TB := zTB 476 (by decide +kernel) (by decide +kernel)
theorem wd_477 : (Jvm.Cond.instanceMethod ({ cls := "FoxBurrows$Field", name := "pathBetween", desc := "(II)I" } : Jvm.MethodName)) ∈ TB := zTB 477 (by decide +kernel) (by decide +kernel)
theorem wd_478 : (Jvm.Cond.selects "FoxBurrows$Field" ({ cls := "FoxBurrows$Field", name := "pathBetween", desc := "(II)I" } : Jvm.MethodName) ({ cls := "FoxBurrows$Field", name := "pathBetween", desc := "(II)I" } : Jvm.MethodName)) ∈ TB := zTB 478 (by decide +kernel) (by decide +kernel)
theorem wd_479 : (Jvm.Cond.code ({ cls := "FoxBurrows$Field", name := "pathBetween", desc := "(II)I" } : Jvm.MethodName) prog_3_method_5_code (6 : Nat) (Option.some Jvm.ClassFile.FieldType.int)) ∈ TB := zTB 479 (by decide +kernel) (by decide +kernel)
theorem wd_481 : (Jvm.Cond.methodLink "FoxBurrows" (414 : Nat) ({ cls := "FoxBurrows$Field", name := "join", desc := "(II)V" } : Jvm.MethodName)) ∈ TB := zTB 481 (by decide +kernel) (by decide +kernel)
theorem wd_482 : (Jvm.Cond.instanceMethod ({ cls := "FoxBurrows$Field", name := "join", desc := "(II)V" } : Jvm.MethodName)) ∈ TB := zTB 482 (by decide +kernel) (by decide +kernel)
theorem wd_483 : (Jvm.Cond.selects "FoxBurrows$Field" ({ cls := "FoxBurrows$Field", name := "join", desc := "(II)V" } : Jvm.MethodName) ({ cls := "FoxBurrows$Field", name := "join", desc := "(II)V" } : Jvm.MethodName)) ∈ TB := zTB 483 (by decide +kernel) (by decide +kernel)
theorem wd_484 : (Jvm.Cond.code ({ cls := "FoxBurrows$Field", name := "join", desc := "(II)V" } : Jvm.MethodName) prog_3_method_6_code (3 : Nat) (Option.none : Option Jvm.ClassFile.FieldType)) ∈ TB := zTB 484 (by decide +kernel) (by decide +kernel)
theorem wd_486 : (Jvm.Cond.static ({ cls := "FoxBurrows", name := "put", desc := "([III)V" } : Jvm.MethodName)) ∈ TB := zTB 486 (by decide +kernel) (by decide +kernel)
theorem wd_487 : (Jvm.Cond.code ({ cls := "FoxBurrows", name := "put", desc := "([III)V" } : Jvm.MethodName) prog_1_method_59_code (3 : Nat) (Option.none : Option Jvm.ClassFile.FieldType)) ∈ TB := zTB 487 (by decide +kernel) (by decide +kernel)
theorem wd_488 : (Jvm.Cond.methodLink "FoxBurrows$Field" (53 : Nat) ({ cls := "FoxBurrows$Field", name := "turnNear", desc := "(II)V" } : Jvm.MethodName)) ∈ TB := zTB 488 (by decide +kernel) (by decide +kernel)
theorem wd_489 : (Jvm.Cond.instanceMethod ({ cls := "FoxBurrows$Field", name := "turnNear", desc := "(II)V" } : Jvm.MethodName)) ∈ TB := zTB 489 (by decide +kernel) (by decide +kernel)
theorem wd_490 : (Jvm.Cond.selects "FoxBurrows$Field" ({ cls := "FoxBurrows$Field", name := "turnNear", desc := "(II)V" } : Jvm.MethodName) ({ cls := "FoxBurrows$Field", name := "turnNear", desc := "(II)V" } : Jvm.MethodName)) ∈ TB := zTB 490 (by decide +kernel) (by decide +kernel)
theorem wd_491 : (Jvm.Cond.code ({ cls := "FoxBurrows$Field", name := "turnNear", desc := "(II)V" } : Jvm.MethodName) prog_3_method_8_code (3 : Nat) (Option.none : Option Jvm.ClassFile.FieldType)) ∈ TB := zTB 491 (by decide +kernel) (by decide +kernel)
theorem wd_493 : (Jvm.Cond.static ({ cls := "FoxBurrows", name := "bitOf", desc := "(I)I" } : Jvm.MethodName)) ∈ TB := zTB 493 (by decide +kernel) (by decide +kernel)
theorem wd_494 : (Jvm.Cond.code ({ cls := "FoxBurrows", name := "bitOf", desc := "(I)I" } : Jvm.MethodName) prog_1_method_74_code (1 : Nat) (Option.some Jvm.ClassFile.FieldType.int)) ∈ TB := zTB 494 (by decide +kernel) (by decide +kernel)
theorem wd_502 : (Jvm.Cond.methodLink "FoxBurrows" (96 : Nat) ({ cls := "FoxBurrows", name := "dropPath", desc := "(II)I" } : Jvm.MethodName)) ∈ TB := zTB 502 (by decide +kernel) (by decide +kernel)
theorem wd_504 : (Jvm.Cond.instanceMethod ({ cls := "FoxBurrows", name := "dropPath", desc := "(II)I" } : Jvm.MethodName)) ∈ TB := zTB 504 (by decide +kernel) (by decide +kernel)
theorem wd_505 : (Jvm.Cond.code ({ cls := "FoxBurrows", name := "dropPath", desc := "(II)I" } : Jvm.MethodName) prog_1_method_40_code (5 : Nat) (Option.some Jvm.ClassFile.FieldType.int)) ∈ TB := zTB 505 (by decide +kernel) (by decide +kernel)
theorem wd_506 : (Jvm.Cond.methodLink "FoxBurrows" (417 : Nat) ({ cls := "FoxBurrows$Field", name := "part", desc := "(I)V" } : Jvm.MethodName)) ∈ TB := zTB 506 (by decide +kernel) (by decide +kernel)
theorem wd_507 : (Jvm.Cond.instanceMethod ({ cls := "FoxBurrows$Field", name := "part", desc := "(I)V" } : Jvm.MethodName)) ∈ TB := zTB 507 (by decide +kernel) (by decide +kernel)
theorem wd_508 : (Jvm.Cond.selects "FoxBurrows$Field" ({ cls := "FoxBurrows$Field", name := "part", desc := "(I)V" } : Jvm.MethodName) ({ cls := "FoxBurrows$Field", name := "part", desc := "(I)V" } : Jvm.MethodName)) ∈ TB := zTB 508 (by decide +kernel) (by decide +kernel)
theorem wd_509 : (Jvm.Cond.code ({ cls := "FoxBurrows$Field", name := "part", desc := "(I)V" } : Jvm.MethodName) prog_3_method_7_code (3 : Nat) (Option.none : Option Jvm.ClassFile.FieldType)) ∈ TB := zTB 509 (by decide +kernel) (by decide +kernel)
theorem wd_517 : (Jvm.Cond.methodLink "FoxBurrows" (99 : Nat) ({ cls := "FoxBurrows", name := "turnTrap", desc := "(IZ)I" } : Jvm.MethodName)) ∈ TB := zTB 517 (by decide +kernel) (by decide +kernel)
theorem wd_519 : (Jvm.Cond.instanceMethod ({ cls := "FoxBurrows", name := "turnTrap", desc := "(IZ)I" } : Jvm.MethodName)) ∈ TB := zTB 519 (by decide +kernel) (by decide +kernel)
theorem wd_520 : (Jvm.Cond.code ({ cls := "FoxBurrows", name := "turnTrap", desc := "(IZ)I" } : Jvm.MethodName) prog_1_method_41_code (4 : Nat) (Option.some Jvm.ClassFile.FieldType.int)) ∈ TB := zTB 520 (by decide +kernel) (by decide +kernel)
theorem wd_521 : (Jvm.Cond.methodLink "FoxBurrows" (293 : Nat) ({ cls := "FoxBurrows$Field", name := "isTrap", desc := "(I)Z" } : Jvm.MethodName)) ∈ TB := zTB 521 (by decide +kernel) (by decide +kernel)
theorem wd_522 : (Jvm.Cond.instanceMethod ({ cls := "FoxBurrows$Field", name := "isTrap", desc := "(I)Z" } : Jvm.MethodName)) ∈ TB := zTB 522 (by decide +kernel) (by decide +kernel)
theorem wd_523 : (Jvm.Cond.selects "FoxBurrows$Field" ({ cls := "FoxBurrows$Field", name := "isTrap", desc := "(I)Z" } : Jvm.MethodName) ({ cls := "FoxBurrows$Field", name := "isTrap", desc := "(I)Z" } : Jvm.MethodName)) ∈ TB := zTB 523 (by decide +kernel) (by decide +kernel)
theorem wd_524 : (Jvm.Cond.code ({ cls := "FoxBurrows$Field", name := "isTrap", desc := "(I)Z" } : Jvm.MethodName) prog_3_method_4_code (2 : Nat) (Option.some Jvm.ClassFile.FieldType.boolean)) ∈ TB := zTB 524 (by decide +kernel) (by decide +kernel)
theorem wd_525 : (Jvm.Cond.methodLink "FoxBurrows" (286 : Nat) ({ cls := "java/lang/Integer", name := "bitCount", desc := "(I)I" } : Jvm.MethodName)) ∈ TB := zTB 525 (by decide +kernel) (by decide +kernel)
theorem wd_526 : (Jvm.Cond.static ({ cls := "java/lang/Integer", name := "bitCount", desc := "(I)I" } : Jvm.MethodName)) ∈ TB := zTB 526 (by decide +kernel) (by decide +kernel)
theorem wd_527 : (Jvm.Cond.code ({ cls := "java/lang/Integer", name := "bitCount", desc := "(I)I" } : Jvm.MethodName) prog_20_method_49_code (1 : Nat) (Option.some Jvm.ClassFile.FieldType.int)) ∈ TB := zTB 527 (by decide +kernel) (by decide +kernel)
theorem wd_528 : (Jvm.Cond.constant "java/lang/Integer" (265 : Nat) (1431655765 : Int32)) ∈ TB := zTB 528 (by decide +kernel) (by decide +kernel)
theorem wd_529 : (Jvm.Cond.constant "java/lang/Integer" (266 : Nat) (858993459 : Int32)) ∈ TB := zTB 529 (by decide +kernel) (by decide +kernel)
theorem wd_530 : (Jvm.Cond.constant "java/lang/Integer" (267 : Nat) (252645135 : Int32)) ∈ TB := zTB 530 (by decide +kernel) (by decide +kernel)
theorem wd_538 : (Jvm.Cond.methodLink "FoxBurrows" (103 : Nat) ({ cls := "FoxBurrows", name := "setGeese", desc := "(I)I" } : Jvm.MethodName)) ∈ TB := zTB 538 (by decide +kernel) (by decide +kernel)
theorem wd_540 : (Jvm.Cond.instanceMethod ({ cls := "FoxBurrows", name := "setGeese", desc := "(I)I" } : Jvm.MethodName)) ∈ TB := zTB 540 (by decide +kernel) (by decide +kernel)
theorem wd_541 : (Jvm.Cond.code ({ cls := "FoxBurrows", name := "setGeese", desc := "(I)I" } : Jvm.MethodName) prog_1_method_42_code (3 : Nat) (Option.some Jvm.ClassFile.FieldType.int)) ∈ TB := zTB 541 (by decide +kernel) (by decide +kernel)
theorem wd_549 : (Jvm.Cond.methodLink "FoxBurrows" (106 : Nat) ({ cls := "FoxBurrows", name := "startGame", desc := "(I)I" } : Jvm.MethodName)) ∈ TB := zTB 549 (by decide +kernel) (by decide +kernel)
theorem wd_551 : (Jvm.Cond.instanceMethod ({ cls := "FoxBurrows", name := "startGame", desc := "(I)I" } : Jvm.MethodName)) ∈ TB := zTB 551 (by decide +kernel) (by decide +kernel)
theorem wd_552 : (Jvm.Cond.code ({ cls := "FoxBurrows", name := "startGame", desc := "(I)I" } : Jvm.MethodName) prog_1_method_43_code (2 : Nat) (Option.some Jvm.ClassFile.FieldType.int)) ∈ TB := zTB 552 (by decide +kernel) (by decide +kernel)
theorem wd_553 : (Jvm.Cond.methodLink "FoxBurrows" (268 : Nat) ({ cls := "FoxBurrows$Field", name := "holds", desc := "(I)Z" } : Jvm.MethodName)) ∈ TB := zTB 553 (by decide +kernel) (by decide +kernel)
theorem wd_554 : (Jvm.Cond.instanceMethod ({ cls := "FoxBurrows$Field", name := "holds", desc := "(I)Z" } : Jvm.MethodName)) ∈ TB := zTB 554 (by decide +kernel) (by decide +kernel)
theorem wd_555 : (Jvm.Cond.selects "FoxBurrows$Field" ({ cls := "FoxBurrows$Field", name := "holds", desc := "(I)Z" } : Jvm.MethodName) ({ cls := "FoxBurrows$Field", name := "holds", desc := "(I)Z" } : Jvm.MethodName)) ∈ TB := zTB 555 (by decide +kernel) (by decide +kernel)
theorem wd_556 : (Jvm.Cond.code ({ cls := "FoxBurrows$Field", name := "holds", desc := "(I)Z" } : Jvm.MethodName) prog_3_method_10_code (2 : Nat) (Option.some Jvm.ClassFile.FieldType.boolean)) ∈ TB := zTB 556 (by decide +kernel) (by decide +kernel)
theorem wd_558 : (Jvm.Cond.static ({ cls := "FoxBurrows", name := "foxOf", desc := "(I)I" } : Jvm.MethodName)) ∈ TB := zTB 558 (by decide +kernel) (by decide +kernel)
theorem wd_559 : (Jvm.Cond.code ({ cls := "FoxBurrows", name := "foxOf", desc := "(I)I" } : Jvm.MethodName) prog_1_method_62_code (1 : Nat) (Option.some Jvm.ClassFile.FieldType.int)) ∈ TB := zTB 559 (by decide +kernel) (by decide +kernel)
theorem wd_561 : (Jvm.Cond.static ({ cls := "FoxBurrows", name := "firstOf", desc := "(I)I" } : Jvm.MethodName)) ∈ TB := zTB 561 (by decide +kernel) (by decide +kernel)
theorem wd_562 : (Jvm.Cond.code ({ cls := "FoxBurrows", name := "firstOf", desc := "(I)I" } : Jvm.MethodName) prog_1_method_63_code (1 : Nat) (Option.some Jvm.ClassFile.FieldType.int)) ∈ TB := zTB 562 (by decide +kernel) (by decide +kernel)
theorem wd_564 : (Jvm.Cond.static ({ cls := "FoxBurrows", name := "secondOf", desc := "(I)I" } : Jvm.MethodName)) ∈ TB := zTB 564 (by decide +kernel) (by decide +kernel)
theorem wd_565 : (Jvm.Cond.code ({ cls := "FoxBurrows", name := "secondOf", desc := "(I)I" } : Jvm.MethodName) prog_1_method_64_code (1 : Nat) (Option.some Jvm.ClassFile.FieldType.int)) ∈ TB := zTB 565 (by decide +kernel) (by decide +kernel)
theorem wd_566 : (Jvm.Cond.methodLink "FoxBurrows$Field" (70 : Nat) ({ cls := "FoxBurrows$Field", name := "fits", desc := "(III)Z" } : Jvm.MethodName)) ∈ TB := zTB 566 (by decide +kernel) (by decide +kernel)
theorem wd_567 : (Jvm.Cond.instanceMethod ({ cls := "FoxBurrows$Field", name := "fits", desc := "(III)Z" } : Jvm.MethodName)) ∈ TB := zTB 567 (by decide +kernel) (by decide +kernel)
theorem wd_568 : (Jvm.Cond.selects "FoxBurrows$Field" ({ cls := "FoxBurrows$Field", name := "fits", desc := "(III)Z" } : Jvm.MethodName) ({ cls := "FoxBurrows$Field", name := "fits", desc := "(III)Z" } : Jvm.MethodName)) ∈ TB := zTB 568 (by decide +kernel) (by decide +kernel)
theorem wd_569 : (Jvm.Cond.code ({ cls := "FoxBurrows$Field", name := "fits", desc := "(III)Z" } : Jvm.MethodName) prog_3_method_9_code (4 : Nat) (Option.some Jvm.ClassFile.FieldType.boolean)) ∈ TB := zTB 569 (by decide +kernel) (by decide +kernel)
theorem wd_570 : (Jvm.Cond.methodLink "FoxBurrows$Field" (57 : Nat) ({ cls := "FoxBurrows$Field", name := "has", desc := "(I)Z" } : Jvm.MethodName)) ∈ TB := zTB 570 (by decide +kernel) (by decide +kernel)
theorem wd_571 : (Jvm.Cond.methodLink "FoxBurrows" (420 : Nat) ({ cls := "FoxBurrows$Game", name := "start", desc := "(I)V" } : Jvm.MethodName)) ∈ TB := zTB 571 (by decide +kernel) (by decide +kernel)
theorem wd_572 : (Jvm.Cond.instanceMethod ({ cls := "FoxBurrows$Game", name := "start", desc := "(I)V" } : Jvm.MethodName)) ∈ TB := zTB 572 (by decide +kernel) (by decide +kernel)
theorem wd_573 : (Jvm.Cond.selects "FoxBurrows$Game" ({ cls := "FoxBurrows$Game", name := "start", desc := "(I)V" } : Jvm.MethodName) ({ cls := "FoxBurrows$Game", name := "start", desc := "(I)V" } : Jvm.MethodName)) ∈ TB := zTB 573 (by decide +kernel) (by decide +kernel)
theorem wd_574 : (Jvm.Cond.code ({ cls := "FoxBurrows$Game", name := "start", desc := "(I)V" } : Jvm.MethodName) prog_4_method_3_code (2 : Nat) (Option.none : Option Jvm.ClassFile.FieldType)) ∈ TB := zTB 574 (by decide +kernel) (by decide +kernel)
theorem wd_576 : (Jvm.Cond.methodLink "FoxBurrows" (172 : Nat) ({ cls := "FoxBurrows$Field", name := "movesOf", desc := "(I)J" } : Jvm.MethodName)) ∈ TB := zTB 576 (by decide +kernel) (by decide +kernel)
theorem wd_577 : (Jvm.Cond.instanceMethod ({ cls := "FoxBurrows$Field", name := "movesOf", desc := "(I)J" } : Jvm.MethodName)) ∈ TB := zTB 577 (by decide +kernel) (by decide +kernel)
theorem wd_578 : (Jvm.Cond.selects "FoxBurrows$Field" ({ cls := "FoxBurrows$Field", name := "movesOf", desc := "(I)J" } : Jvm.MethodName) ({ cls := "FoxBurrows$Field", name := "movesOf", desc := "(I)J" } : Jvm.MethodName)) ∈ TB := zTB 578 (by decide +kernel) (by decide +kernel)
theorem wd_579 : (Jvm.Cond.code ({ cls := "FoxBurrows$Field", name := "movesOf", desc := "(I)J" } : Jvm.MethodName) prog_3_method_12_code (5 : Nat) (Option.some Jvm.ClassFile.FieldType.long)) ∈ TB := zTB 579 (by decide +kernel) (by decide +kernel)
theorem wd_580 : (Jvm.Cond.methodLink "FoxBurrows$Field" (78 : Nat) ({ cls := "FoxBurrows$Field", name := "taken", desc := "(I)I" } : Jvm.MethodName)) ∈ TB := zTB 580 (by decide +kernel) (by decide +kernel)
theorem wd_582 : (Jvm.Cond.instanceMethod ({ cls := "FoxBurrows$Field", name := "taken", desc := "(I)I" } : Jvm.MethodName)) ∈ TB := zTB 582 (by decide +kernel) (by decide +kernel)
theorem wd_583 : (Jvm.Cond.code ({ cls := "FoxBurrows$Field", name := "taken", desc := "(I)I" } : Jvm.MethodName) prog_3_method_15_code (2 : Nat) (Option.some Jvm.ClassFile.FieldType.int)) ∈ TB := zTB 583 (by decide +kernel) (by decide +kernel)
theorem wd_585 : (Jvm.Cond.methodLink "FoxBurrows$Field" (84 : Nat) ({ cls := "FoxBurrows$Field", name := "moves", desc := "(II)J" } : Jvm.MethodName)) ∈ TB := zTB 585 (by decide +kernel) (by decide +kernel)
theorem wd_587 : (Jvm.Cond.instanceMethod ({ cls := "FoxBurrows$Field", name := "moves", desc := "(II)J" } : Jvm.MethodName)) ∈ TB := zTB 587 (by decide +kernel) (by decide +kernel)
theorem wd_588 : (Jvm.Cond.code ({ cls := "FoxBurrows$Field", name := "moves", desc := "(II)J" } : Jvm.MethodName) prog_3_method_16_code (3 : Nat) (Option.some Jvm.ClassFile.FieldType.long)) ∈ TB := zTB 588 (by decide +kernel) (by decide +kernel)
theorem wd_590 : (Jvm.Cond.static ({ cls := "FoxBurrows", name := "above", desc := "(I)I" } : Jvm.MethodName)) ∈ TB := zTB 590 (by decide +kernel) (by decide +kernel)
theorem wd_591 : (Jvm.Cond.code ({ cls := "FoxBurrows", name := "above", desc := "(I)I" } : Jvm.MethodName) prog_1_method_72_code (1 : Nat) (Option.some Jvm.ClassFile.FieldType.int)) ∈ TB := zTB 591 (by decide +kernel) (by decide +kernel)
theorem wd_592 : (Jvm.Cond.methodLink "FoxBurrows" (176 : Nat) ({ cls := "java/lang/Long", name := "bitCount", desc := "(J)I" } : Jvm.MethodName)) ∈ TB := zTB 592 (by decide +kernel) (by decide +kernel)
theorem wd_593 : (Jvm.Cond.static ({ cls := "java/lang/Long", name := "bitCount", desc := "(J)I" } : Jvm.MethodName)) ∈ TB := zTB 593 (by decide +kernel) (by decide +kernel)
theorem wd_594 : (Jvm.Cond.code ({ cls := "java/lang/Long", name := "bitCount", desc := "(J)I" } : Jvm.MethodName) prog_21_method_50_code (2 : Nat) (Option.some Jvm.ClassFile.FieldType.int)) ∈ TB := zTB 594 (by decide +kernel) (by decide +kernel)
theorem wd_595 : (Jvm.Cond.constantLong "java/lang/Long" (314 : Nat) (6148914691236517205 : Int64)) ∈ TB := zTB 595 (by decide +kernel) (by decide +kernel)
theorem wd_596 : (Jvm.Cond.constantLong "java/lang/Long" (316 : Nat) (3689348814741910323 : Int64)) ∈ TB := zTB 596 (by decide +kernel) (by decide +kernel)
theorem wd_597 : (Jvm.Cond.constantLong "java/lang/Long" (318 : Nat) (1085102592571150095 : Int64)) ∈ TB := zTB 597 (by decide +kernel) (by decide +kernel)
theorem wd_605 : (Jvm.Cond.methodLink "FoxBurrows" (109 : Nat) ({ cls := "FoxBurrows", name := "makeMove", desc := "(II)I" } : Jvm.MethodName)) ∈ TB := zTB 605 (by decide +kernel) (by decide +kernel)
theorem wd_607 : (Jvm.Cond.instanceMethod ({ cls := "FoxBurrows", name := "makeMove", desc := "(II)I" } : Jvm.MethodName)) ∈ TB := zTB 607 (by decide +kernel) (by decide +kernel)
theorem wd_608 : (Jvm.Cond.code ({ cls := "FoxBurrows", name := "makeMove", desc := "(II)I" } : Jvm.MethodName) prog_1_method_44_code (7 : Nat) (Option.some Jvm.ClassFile.FieldType.int)) ∈ TB := zTB 608 (by decide +kernel) (by decide +kernel)
theorem wd_609 : (Jvm.Cond.methodLink "FoxBurrows" (135 : Nat) ({ cls := "FoxBurrows$Game", name := "lastPosition", desc := "()I" } : Jvm.MethodName)) ∈ TB := zTB 609 (by decide +kernel) (by decide +kernel)
theorem wd_610 : (Jvm.Cond.instanceMethod ({ cls := "FoxBurrows$Game", name := "lastPosition", desc := "()I" } : Jvm.MethodName)) ∈ TB := zTB 610 (by decide +kernel) (by decide +kernel)
theorem wd_611 : (Jvm.Cond.selects "FoxBurrows$Game" ({ cls := "FoxBurrows$Game", name := "lastPosition", desc := "()I" } : Jvm.MethodName) ({ cls := "FoxBurrows$Game", name := "lastPosition", desc := "()I" } : Jvm.MethodName)) ∈ TB := zTB 611 (by decide +kernel) (by decide +kernel)
theorem wd_612 : (Jvm.Cond.code ({ cls := "FoxBurrows$Game", name := "lastPosition", desc := "()I" } : Jvm.MethodName) prog_4_method_5_code (1 : Nat) (Option.some Jvm.ClassFile.FieldType.int)) ∈ TB := zTB 612 (by decide +kernel) (by decide +kernel)
theorem wd_614 : (Jvm.Cond.methodLink "FoxBurrows" (215 : Nat) ({ cls := "FoxBurrows$Field", name := "allows", desc := "(III)Z" } : Jvm.MethodName)) ∈ TB := zTB 614 (by decide +kernel) (by decide +kernel)
theorem wd_615 : (Jvm.Cond.instanceMethod ({ cls := "FoxBurrows$Field", name := "allows", desc := "(III)Z" } : Jvm.MethodName)) ∈ TB := zTB 615 (by decide +kernel) (by decide +kernel)
theorem wd_616 : (Jvm.Cond.selects "FoxBurrows$Field" ({ cls := "FoxBurrows$Field", name := "allows", desc := "(III)Z" } : Jvm.MethodName) ({ cls := "FoxBurrows$Field", name := "allows", desc := "(III)Z" } : Jvm.MethodName)) ∈ TB := zTB 616 (by decide +kernel) (by decide +kernel)
theorem wd_617 : (Jvm.Cond.code ({ cls := "FoxBurrows$Field", name := "allows", desc := "(III)Z" } : Jvm.MethodName) prog_3_method_14_code (4 : Nat) (Option.some Jvm.ClassFile.FieldType.boolean)) ∈ TB := zTB 617 (by decide +kernel) (by decide +kernel)
theorem wd_618 : (Jvm.Cond.methodLink "FoxBurrows$Field" (97 : Nat) ({ cls := "FoxBurrows$Field", name := "movesOf", desc := "(I)J" } : Jvm.MethodName)) ∈ TB := zTB 618 (by decide +kernel) (by decide +kernel)
theorem wd_620 : (Jvm.Cond.static ({ cls := "FoxBurrows", name := "moveNumber", desc := "(II)I" } : Jvm.MethodName)) ∈ TB := zTB 620 (by decide +kernel) (by decide +kernel)
theorem wd_621 : (Jvm.Cond.code ({ cls := "FoxBurrows", name := "moveNumber", desc := "(II)I" } : Jvm.MethodName) prog_1_method_67_code (2 : Nat) (Option.some Jvm.ClassFile.FieldType.int)) ∈ TB := zTB 621 (by decide +kernel) (by decide +kernel)
theorem wd_622 : (Jvm.Cond.methodLink "FoxBurrows" (220 : Nat) ({ cls := "FoxBurrows", name := "shifted", desc := "(III)I" } : Jvm.MethodName)) ∈ TB := zTB 622 (by decide +kernel) (by decide +kernel)
theorem wd_623 : (Jvm.Cond.static ({ cls := "FoxBurrows", name := "shifted", desc := "(III)I" } : Jvm.MethodName)) ∈ TB := zTB 623 (by decide +kernel) (by decide +kernel)
theorem wd_624 : (Jvm.Cond.code ({ cls := "FoxBurrows", name := "shifted", desc := "(III)I" } : Jvm.MethodName) prog_1_method_66_code (8 : Nat) (Option.some Jvm.ClassFile.FieldType.int)) ∈ TB := zTB 624 (by decide +kernel) (by decide +kernel)
theorem wd_625 : (Jvm.Cond.methodLink "FoxBurrows" (160 : Nat) ({ cls := "FoxBurrows", name := "foxOf", desc := "(I)I" } : Jvm.MethodName)) ∈ TB := zTB 625 (by decide +kernel) (by decide +kernel)
theorem wd_626 : (Jvm.Cond.methodLink "FoxBurrows" (163 : Nat) ({ cls := "FoxBurrows", name := "firstOf", desc := "(I)I" } : Jvm.MethodName)) ∈ TB := zTB 626 (by decide +kernel) (by decide +kernel)
theorem wd_627 : (Jvm.Cond.methodLink "FoxBurrows" (166 : Nat) ({ cls := "FoxBurrows", name := "secondOf", desc := "(I)I" } : Jvm.MethodName)) ∈ TB := zTB 627 (by decide +kernel) (by decide +kernel)
theorem wd_628 : (Jvm.Cond.methodLink "FoxBurrows" (147 : Nat) ({ cls := "FoxBurrows", name := "numberOf", desc := "(IIII)I" } : Jvm.MethodName)) ∈ TB := zTB 628 (by decide +kernel) (by decide +kernel)
theorem wd_629 : (Jvm.Cond.static ({ cls := "FoxBurrows", name := "numberOf", desc := "(IIII)I" } : Jvm.MethodName)) ∈ TB := zTB 629 (by decide +kernel) (by decide +kernel)
theorem wd_630 : (Jvm.Cond.code ({ cls := "FoxBurrows", name := "numberOf", desc := "(IIII)I" } : Jvm.MethodName) prog_1_method_61_code (4 : Nat) (Option.some Jvm.ClassFile.FieldType.int)) ∈ TB := zTB 630 (by decide +kernel) (by decide +kernel)
theorem wd_631 : (Jvm.Cond.methodLink "FoxBurrows" (444 : Nat) ({ cls := "java/lang/Math", name := "max", desc := "(II)I" } : Jvm.MethodName)) ∈ TB := zTB 631 (by decide +kernel) (by decide +kernel)
theorem wd_632 : (Jvm.Cond.static ({ cls := "java/lang/Math", name := "max", desc := "(II)I" } : Jvm.MethodName)) ∈ TB := zTB 632 (by decide +kernel) (by decide +kernel)
theorem wd_633 : (Jvm.Cond.code ({ cls := "java/lang/Math", name := "max", desc := "(II)I" } : Jvm.MethodName) prog_22_method_65_code (2 : Nat) (Option.some Jvm.ClassFile.FieldType.int)) ∈ TB := zTB 633 (by decide +kernel) (by decide +kernel)
theorem wd_634 : (Jvm.Cond.methodLink "FoxBurrows" (423 : Nat) ({ cls := "FoxBurrows", name := "moveNumber", desc := "(II)I" } : Jvm.MethodName)) ∈ TB := zTB 634 (by decide +kernel) (by decide +kernel)
theorem wd_635 : (Jvm.Cond.methodLink "FoxBurrows" (426 : Nat) ({ cls := "FoxBurrows$Game", name := "add", desc := "(II)V" } : Jvm.MethodName)) ∈ TB := zTB 635 (by decide +kernel) (by decide +kernel)
theorem wd_636 : (Jvm.Cond.instanceMethod ({ cls := "FoxBurrows$Game", name := "add", desc := "(II)V" } : Jvm.MethodName)) ∈ TB := zTB 636 (by decide +kernel) (by decide +kernel)
theorem wd_637 : (Jvm.Cond.selects "FoxBurrows$Game" ({ cls := "FoxBurrows$Game", name := "add", desc := "(II)V" } : Jvm.MethodName) ({ cls := "FoxBurrows$Game", name := "add", desc := "(II)V" } : Jvm.MethodName)) ∈ TB := zTB 637 (by decide +kernel) (by decide +kernel)
theorem wd_638 : (Jvm.Cond.code ({ cls := "FoxBurrows$Game", name := "add", desc := "(II)V" } : Jvm.MethodName) prog_4_method_4_code (3 : Nat) (Option.none : Option Jvm.ClassFile.FieldType)) ∈ TB := zTB 638 (by decide +kernel) (by decide +kernel)
theorem wd_646 : (Jvm.Cond.methodLink "FoxBurrows" (112 : Nat) ({ cls := "FoxBurrows", name := "letPlay", desc := "(I)I" } : Jvm.MethodName)) ∈ TB := zTB 646 (by decide +kernel) (by decide +kernel)
theorem wd_648 : (Jvm.Cond.instanceMethod ({ cls := "FoxBurrows", name := "letPlay", desc := "(I)I" } : Jvm.MethodName)) ∈ TB := zTB 648 (by decide +kernel) (by decide +kernel)
theorem wd_649 : (Jvm.Cond.code ({ cls := "FoxBurrows", name := "letPlay", desc := "(I)I" } : Jvm.MethodName) prog_1_method_45_code (6 : Nat) (Option.some Jvm.ClassFile.FieldType.int)) ∈ TB := zTB 649 (by decide +kernel) (by decide +kernel)
theorem wd_650 : (Jvm.Cond.methodLink "FoxBurrows" (182 : Nat) ({ cls := "FoxBurrows$Table", name := "solve", desc := "(LFoxBurrows$Field;)V" } : Jvm.MethodName)) ∈ TB := zTB 650 (by decide +kernel) (by decide +kernel)
theorem wd_651 : (Jvm.Cond.instanceMethod ({ cls := "FoxBurrows$Table", name := "solve", desc := "(LFoxBurrows$Field;)V" } : Jvm.MethodName)) ∈ TB := zTB 651 (by decide +kernel) (by decide +kernel)
theorem wd_652 : (Jvm.Cond.selects "FoxBurrows$Table" ({ cls := "FoxBurrows$Table", name := "solve", desc := "(LFoxBurrows$Field;)V" } : Jvm.MethodName) ({ cls := "FoxBurrows$Table", name := "solve", desc := "(LFoxBurrows$Field;)V" } : Jvm.MethodName)) ∈ TB := zTB 652 (by decide +kernel) (by decide +kernel)
theorem wd_653 : (Jvm.Cond.code ({ cls := "FoxBurrows$Table", name := "solve", desc := "(LFoxBurrows$Field;)V" } : Jvm.MethodName) prog_9_method_2_code (6 : Nat) (Option.none : Option Jvm.ClassFile.FieldType)) ∈ TB := zTB 653 (by decide +kernel) (by decide +kernel)
theorem wd_654 : (Jvm.Cond.methodLink "FoxBurrows$Table" (33 : Nat) ({ cls := "FoxBurrows$Field", name := "listPositions", desc := "([I)I" } : Jvm.MethodName)) ∈ TB := zTB 654 (by decide +kernel) (by decide +kernel)
theorem wd_655 : (Jvm.Cond.instanceMethod ({ cls := "FoxBurrows$Field", name := "listPositions", desc := "([I)I" } : Jvm.MethodName)) ∈ TB := zTB 655 (by decide +kernel) (by decide +kernel)
theorem wd_656 : (Jvm.Cond.selects "FoxBurrows$Field" ({ cls := "FoxBurrows$Field", name := "listPositions", desc := "([I)I" } : Jvm.MethodName) ({ cls := "FoxBurrows$Field", name := "listPositions", desc := "([I)I" } : Jvm.MethodName)) ∈ TB := zTB 656 (by decide +kernel) (by decide +kernel)
theorem wd_657 : (Jvm.Cond.code ({ cls := "FoxBurrows$Field", name := "listPositions", desc := "([I)I" } : Jvm.MethodName) prog_3_method_11_code (6 : Nat) (Option.some Jvm.ClassFile.FieldType.int)) ∈ TB := zTB 657 (by decide +kernel) (by decide +kernel)
theorem wd_660 : (Jvm.Cond.methodLink "FoxBurrows$Table" (44 : Nat) ({ cls := "FoxBurrows$Field", name := "movesOf", desc := "(I)J" } : Jvm.MethodName)) ∈ TB := zTB 660 (by decide +kernel) (by decide +kernel)
theorem wd_661 : (Jvm.Cond.methodLink "FoxBurrows$Table" (48 : Nat) ({ cls := "java/lang/Long", name := "bitCount", desc := "(J)I" } : Jvm.MethodName)) ∈ TB := zTB 661 (by decide +kernel) (by decide +kernel)
theorem wd_663 : (Jvm.Cond.methodLink "FoxBurrows$Table" (58 : Nat) ({ cls := "FoxBurrows$Field", name := "waysBack", desc := "(I)J" } : Jvm.MethodName)) ∈ TB := zTB 663 (by decide +kernel) (by decide +kernel)
theorem wd_664 : (Jvm.Cond.instanceMethod ({ cls := "FoxBurrows$Field", name := "waysBack", desc := "(I)J" } : Jvm.MethodName)) ∈ TB := zTB 664 (by decide +kernel) (by decide +kernel)
theorem wd_665 : (Jvm.Cond.selects "FoxBurrows$Field" ({ cls := "FoxBurrows$Field", name := "waysBack", desc := "(I)J" } : Jvm.MethodName) ({ cls := "FoxBurrows$Field", name := "waysBack", desc := "(I)J" } : Jvm.MethodName)) ∈ TB := zTB 665 (by decide +kernel) (by decide +kernel)
theorem wd_666 : (Jvm.Cond.code ({ cls := "FoxBurrows$Field", name := "waysBack", desc := "(I)J" } : Jvm.MethodName) prog_3_method_13_code (8 : Nat) (Option.some Jvm.ClassFile.FieldType.long)) ∈ TB := zTB 666 (by decide +kernel) (by decide +kernel)
theorem wd_667 : (Jvm.Cond.methodLink "FoxBurrows$Field" (91 : Nat) ({ cls := "FoxBurrows$Field", name := "isTrap", desc := "(I)Z" } : Jvm.MethodName)) ∈ TB := zTB 667 (by decide +kernel) (by decide +kernel)
theorem wd_669 : (Jvm.Cond.static ({ cls := "FoxBurrows", name := "below", desc := "(I)I" } : Jvm.MethodName)) ∈ TB := zTB 669 (by decide +kernel) (by decide +kernel)
theorem wd_670 : (Jvm.Cond.code ({ cls := "FoxBurrows", name := "below", desc := "(I)I" } : Jvm.MethodName) prog_1_method_73_code (1 : Nat) (Option.some Jvm.ClassFile.FieldType.int)) ∈ TB := zTB 670 (by decide +kernel) (by decide +kernel)
theorem wd_671 : (Jvm.Cond.methodLink "FoxBurrows$Table" (61 : Nat) ({ cls := "FoxBurrows$Table", name := "tellBefore", desc := "(IJI)I" } : Jvm.MethodName)) ∈ TB := zTB 671 (by decide +kernel) (by decide +kernel)
theorem wd_673 : (Jvm.Cond.instanceMethod ({ cls := "FoxBurrows$Table", name := "tellBefore", desc := "(IJI)I" } : Jvm.MethodName)) ∈ TB := zTB 673 (by decide +kernel) (by decide +kernel)
theorem wd_674 : (Jvm.Cond.code ({ cls := "FoxBurrows$Table", name := "tellBefore", desc := "(IJI)I" } : Jvm.MethodName) prog_9_method_3_code (13 : Nat) (Option.some Jvm.ClassFile.FieldType.int)) ∈ TB := zTB 674 (by decide +kernel) (by decide +kernel)
theorem wd_676 : (Jvm.Cond.static ({ cls := "FoxBurrows", name := "firstMove", desc := "(J)I" } : Jvm.MethodName)) ∈ TB := zTB 676 (by decide +kernel) (by decide +kernel)
theorem wd_677 : (Jvm.Cond.code ({ cls := "FoxBurrows", name := "firstMove", desc := "(J)I" } : Jvm.MethodName) prog_1_method_70_code (2 : Nat) (Option.some Jvm.ClassFile.FieldType.int)) ∈ TB := zTB 677 (by decide +kernel) (by decide +kernel)
theorem wd_679 : (Jvm.Cond.static ({ cls := "FoxBurrows", name := "withoutFirst", desc := "(J)J" } : Jvm.MethodName)) ∈ TB := zTB 679 (by decide +kernel) (by decide +kernel)
theorem wd_680 : (Jvm.Cond.code ({ cls := "FoxBurrows", name := "withoutFirst", desc := "(J)J" } : Jvm.MethodName) prog_1_method_71_code (2 : Nat) (Option.some Jvm.ClassFile.FieldType.long)) ∈ TB := zTB 680 (by decide +kernel) (by decide +kernel)
theorem wd_684 : (Jvm.Cond.methodLink "FoxBurrows$Table" (83 : Nat) ({ cls := "FoxBurrows$Table", name := "isDecided", desc := "(II)Z" } : Jvm.MethodName)) ∈ TB := zTB 684 (by decide +kernel) (by decide +kernel)
theorem wd_686 : (Jvm.Cond.instanceMethod ({ cls := "FoxBurrows$Table", name := "isDecided", desc := "(II)Z" } : Jvm.MethodName)) ∈ TB := zTB 686 (by decide +kernel) (by decide +kernel)
theorem wd_687 : (Jvm.Cond.code ({ cls := "FoxBurrows$Table", name := "isDecided", desc := "(II)Z" } : Jvm.MethodName) prog_9_method_4_code (4 : Nat) (Option.some Jvm.ClassFile.FieldType.boolean)) ∈ TB := zTB 687 (by decide +kernel) (by decide +kernel)
theorem wd_688 : (Jvm.Cond.methodLink "FoxBurrows" (209 : Nat) ({ cls := "FoxBurrows$Table", name := "bestMove", desc := "(LFoxBurrows$Field;I)I" } : Jvm.MethodName)) ∈ TB := zTB 688 (by decide +kernel) (by decide +kernel)
theorem wd_689 : (Jvm.Cond.instanceMethod ({ cls := "FoxBurrows$Table", name := "bestMove", desc := "(LFoxBurrows$Field;I)I" } : Jvm.MethodName)) ∈ TB := zTB 689 (by decide +kernel) (by decide +kernel)
theorem wd_690 : (Jvm.Cond.selects "FoxBurrows$Table" ({ cls := "FoxBurrows$Table", name := "bestMove", desc := "(LFoxBurrows$Field;I)I" } : Jvm.MethodName) ({ cls := "FoxBurrows$Table", name := "bestMove", desc := "(LFoxBurrows$Field;I)I" } : Jvm.MethodName)) ∈ TB := zTB 690 (by decide +kernel) (by decide +kernel)
theorem wd_691 : (Jvm.Cond.code ({ cls := "FoxBurrows$Table", name := "bestMove", desc := "(LFoxBurrows$Field;I)I" } : Jvm.MethodName) prog_9_method_9_code (10 : Nat) (Option.some Jvm.ClassFile.FieldType.int)) ∈ TB := zTB 691 (by decide +kernel) (by decide +kernel)
theorem wd_699 : (Jvm.Cond.methodLink "FoxBurrows" (115 : Nat) ({ cls := "FoxBurrows", name := "takeBack", desc := "()I" } : Jvm.MethodName)) ∈ TB := zTB 699 (by decide +kernel) (by decide +kernel)
theorem wd_701 : (Jvm.Cond.instanceMethod ({ cls := "FoxBurrows", name := "takeBack", desc := "()I" } : Jvm.MethodName)) ∈ TB := zTB 701 (by decide +kernel) (by decide +kernel)
theorem wd_702 : (Jvm.Cond.code ({ cls := "FoxBurrows", name := "takeBack", desc := "()I" } : Jvm.MethodName) prog_1_method_46_code (2 : Nat) (Option.some Jvm.ClassFile.FieldType.int)) ∈ TB := zTB 702 (by decide +kernel) (by decide +kernel)
theorem wd_711 : (Jvm.Cond.methodLink "FoxBurrows" (141 : Nat) ({ cls := "FoxBurrows$Field", name := "fits", desc := "(III)Z" } : Jvm.MethodName)) ∈ TB := zTB 711 (by decide +kernel) (by decide +kernel)
theorem wd_712 : (Jvm.Cond.classLink "FoxBurrows" (128 : Nat) "java/util/NoSuchElementException") ∈ TB := zTB 712 (by decide +kernel) (by decide +kernel)
theorem wd_736 : (Jvm.Cond.classLink "FoxBurrows" (151 : Nat) "java/lang/IllegalArgumentException") ∈ TB := zTB 736 (by decide +kernel) (by decide +kernel)
theorem wd_752 : (Jvm.Cond.methodLink "FoxBurrows" (156 : Nat) ({ cls := "FoxBurrows", name := "needPosition", desc := "(I)V" } : Jvm.MethodName)) ∈ TB := zTB 752 (by decide +kernel) (by decide +kernel)
theorem wd_754 : (Jvm.Cond.instanceMethod ({ cls := "FoxBurrows", name := "needPosition", desc := "(I)V" } : Jvm.MethodName)) ∈ TB := zTB 754 (by decide +kernel) (by decide +kernel)
theorem wd_755 : (Jvm.Cond.code ({ cls := "FoxBurrows", name := "needPosition", desc := "(I)V" } : Jvm.MethodName) prog_1_method_54_code (2 : Nat) (Option.none : Option Jvm.ClassFile.FieldType)) ∈ TB := zTB 755 (by decide +kernel) (by decide +kernel)
theorem wd_756 : (Jvm.Cond.methodLink "FoxBurrows" (186 : Nat) ({ cls := "FoxBurrows$Table", name := "outcomeOf", desc := "(I)I" } : Jvm.MethodName)) ∈ TB := zTB 756 (by decide +kernel) (by decide +kernel)
theorem wd_757 : (Jvm.Cond.instanceMethod ({ cls := "FoxBurrows$Table", name := "outcomeOf", desc := "(I)I" } : Jvm.MethodName)) ∈ TB := zTB 757 (by decide +kernel) (by decide +kernel)
theorem wd_758 : (Jvm.Cond.selects "FoxBurrows$Table" ({ cls := "FoxBurrows$Table", name := "outcomeOf", desc := "(I)I" } : Jvm.MethodName) ({ cls := "FoxBurrows$Table", name := "outcomeOf", desc := "(I)I" } : Jvm.MethodName)) ∈ TB := zTB 758 (by decide +kernel) (by decide +kernel)
theorem wd_759 : (Jvm.Cond.code ({ cls := "FoxBurrows$Table", name := "outcomeOf", desc := "(I)I" } : Jvm.MethodName) prog_9_method_7_code (3 : Nat) (Option.some Jvm.ClassFile.FieldType.int)) ∈ TB := zTB 759 (by decide +kernel) (by decide +kernel)
theorem wd_760 : (Jvm.Cond.methodLink "FoxBurrows" (189 : Nat) ({ cls := "FoxBurrows$Table", name := "inMoves", desc := "(I)I" } : Jvm.MethodName)) ∈ TB := zTB 760 (by decide +kernel) (by decide +kernel)
theorem wd_761 : (Jvm.Cond.instanceMethod ({ cls := "FoxBurrows$Table", name := "inMoves", desc := "(I)I" } : Jvm.MethodName)) ∈ TB := zTB 761 (by decide +kernel) (by decide +kernel)
theorem wd_762 : (Jvm.Cond.selects "FoxBurrows$Table" ({ cls := "FoxBurrows$Table", name := "inMoves", desc := "(I)I" } : Jvm.MethodName) ({ cls := "FoxBurrows$Table", name := "inMoves", desc := "(I)I" } : Jvm.MethodName)) ∈ TB := zTB 762 (by decide +kernel) (by decide +kernel)
theorem wd_763 : (Jvm.Cond.code ({ cls := "FoxBurrows$Table", name := "inMoves", desc := "(I)I" } : Jvm.MethodName) prog_9_method_6_code (2 : Nat) (Option.some Jvm.ClassFile.FieldType.int)) ∈ TB := zTB 763 (by decide +kernel) (by decide +kernel)
theorem wd_771 : (Jvm.Cond.methodLink "FoxBurrows" (192 : Nat) ({ cls := "FoxBurrows$SecondWay", name := "solve", desc := "(LFoxBurrows$Field;)V" } : Jvm.MethodName)) ∈ TB := zTB 771 (by decide +kernel) (by decide +kernel)
theorem wd_772 : (Jvm.Cond.instanceMethod ({ cls := "FoxBurrows$SecondWay", name := "solve", desc := "(LFoxBurrows$Field;)V" } : Jvm.MethodName)) ∈ TB := zTB 772 (by decide +kernel) (by decide +kernel)
theorem wd_773 : (Jvm.Cond.selects "FoxBurrows$SecondWay" ({ cls := "FoxBurrows$SecondWay", name := "solve", desc := "(LFoxBurrows$Field;)V" } : Jvm.MethodName) ({ cls := "FoxBurrows$SecondWay", name := "solve", desc := "(LFoxBurrows$Field;)V" } : Jvm.MethodName)) ∈ TB := zTB 773 (by decide +kernel) (by decide +kernel)
theorem wd_774 : (Jvm.Cond.code ({ cls := "FoxBurrows$SecondWay", name := "solve", desc := "(LFoxBurrows$Field;)V" } : Jvm.MethodName) prog_7_method_2_code (8 : Nat) (Option.none : Option Jvm.ClassFile.FieldType)) ∈ TB := zTB 774 (by decide +kernel) (by decide +kernel)
theorem wd_775 : (Jvm.Cond.methodLink "FoxBurrows$SecondWay" (27 : Nat) ({ cls := "FoxBurrows$Field", name := "listPositions", desc := "([I)I" } : Jvm.MethodName)) ∈ TB := zTB 775 (by decide +kernel) (by decide +kernel)
theorem wd_778 : (Jvm.Cond.methodLink "FoxBurrows$SecondWay" (39 : Nat) ({ cls := "FoxBurrows$SecondWay", name := "seen", desc := "(LFoxBurrows$Field;I)I" } : Jvm.MethodName)) ∈ TB := zTB 778 (by decide +kernel) (by decide +kernel)
theorem wd_780 : (Jvm.Cond.instanceMethod ({ cls := "FoxBurrows$SecondWay", name := "seen", desc := "(LFoxBurrows$Field;I)I" } : Jvm.MethodName)) ∈ TB := zTB 780 (by decide +kernel) (by decide +kernel)
theorem wd_781 : (Jvm.Cond.code ({ cls := "FoxBurrows$SecondWay", name := "seen", desc := "(LFoxBurrows$Field;I)I" } : Jvm.MethodName) prog_7_method_3_code (10 : Nat) (Option.some Jvm.ClassFile.FieldType.int)) ∈ TB := zTB 781 (by decide +kernel) (by decide +kernel)
theorem wd_782 : (Jvm.Cond.methodLink "FoxBurrows$SecondWay" (43 : Nat) ({ cls := "FoxBurrows$Field", name := "movesOf", desc := "(I)J" } : Jvm.MethodName)) ∈ TB := zTB 782 (by decide +kernel) (by decide +kernel)
theorem wd_783 : (Jvm.Cond.methodLink "FoxBurrows$SecondWay" (47 : Nat) ({ cls := "java/lang/Long", name := "bitCount", desc := "(J)I" } : Jvm.MethodName)) ∈ TB := zTB 783 (by decide +kernel) (by decide +kernel)
theorem wd_789 : (Jvm.Cond.methodLink "FoxBurrows" (193 : Nat) ({ cls := "FoxBurrows$SecondWay", name := "outcomeOf", desc := "(I)I" } : Jvm.MethodName)) ∈ TB := zTB 789 (by decide +kernel) (by decide +kernel)
theorem wd_790 : (Jvm.Cond.instanceMethod ({ cls := "FoxBurrows$SecondWay", name := "outcomeOf", desc := "(I)I" } : Jvm.MethodName)) ∈ TB := zTB 790 (by decide +kernel) (by decide +kernel)
theorem wd_791 : (Jvm.Cond.selects "FoxBurrows$SecondWay" ({ cls := "FoxBurrows$SecondWay", name := "outcomeOf", desc := "(I)I" } : Jvm.MethodName) ({ cls := "FoxBurrows$SecondWay", name := "outcomeOf", desc := "(I)I" } : Jvm.MethodName)) ∈ TB := zTB 791 (by decide +kernel) (by decide +kernel)
theorem wd_792 : (Jvm.Cond.code ({ cls := "FoxBurrows$SecondWay", name := "outcomeOf", desc := "(I)I" } : Jvm.MethodName) prog_7_method_4_code (2 : Nat) (Option.some Jvm.ClassFile.FieldType.int)) ∈ TB := zTB 792 (by decide +kernel) (by decide +kernel)
theorem wd_801 : (Jvm.Cond.methodLink "FoxBurrows" (196 : Nat) ({ cls := "FoxBurrows", name := "withoutFirst", desc := "(J)J" } : Jvm.MethodName)) ∈ TB := zTB 801 (by decide +kernel) (by decide +kernel)
theorem wd_802 : (Jvm.Cond.methodLink "FoxBurrows" (200 : Nat) ({ cls := "FoxBurrows", name := "firstMove", desc := "(J)I" } : Jvm.MethodName)) ∈ TB := zTB 802 (by decide +kernel) (by decide +kernel)
theorem wd_835 : (Jvm.Cond.methodLink "FoxBurrows" (231 : Nat) ({ cls := "FoxBurrows$Table", name := "positionAt", desc := "(I)I" } : Jvm.MethodName)) ∈ TB := zTB 835 (by decide +kernel) (by decide +kernel)
theorem wd_836 : (Jvm.Cond.instanceMethod ({ cls := "FoxBurrows$Table", name := "positionAt", desc := "(I)I" } : Jvm.MethodName)) ∈ TB := zTB 836 (by decide +kernel) (by decide +kernel)
theorem wd_837 : (Jvm.Cond.selects "FoxBurrows$Table" ({ cls := "FoxBurrows$Table", name := "positionAt", desc := "(I)I" } : Jvm.MethodName) ({ cls := "FoxBurrows$Table", name := "positionAt", desc := "(I)I" } : Jvm.MethodName)) ∈ TB := zTB 837 (by decide +kernel) (by decide +kernel)
theorem wd_838 : (Jvm.Cond.code ({ cls := "FoxBurrows$Table", name := "positionAt", desc := "(I)I" } : Jvm.MethodName) prog_9_method_5_code (2 : Nat) (Option.some Jvm.ClassFile.FieldType.int)) ∈ TB := zTB 838 (by decide +kernel) (by decide +kernel)
theorem wd_855 : (Jvm.Cond.methodLink "FoxBurrows" (238 : Nat) ({ cls := "FoxBurrows", name := "positionsIn", desc := "(I)I" } : Jvm.MethodName)) ∈ TB := zTB 855 (by decide +kernel) (by decide +kernel)
theorem wd_857 : (Jvm.Cond.instanceMethod ({ cls := "FoxBurrows", name := "positionsIn", desc := "(I)I" } : Jvm.MethodName)) ∈ TB := zTB 857 (by decide +kernel) (by decide +kernel)
theorem wd_858 : (Jvm.Cond.code ({ cls := "FoxBurrows", name := "positionsIn", desc := "(I)I" } : Jvm.MethodName) prog_1_method_55_code (4 : Nat) (Option.some Jvm.ClassFile.FieldType.int)) ∈ TB := zTB 858 (by decide +kernel) (by decide +kernel)
theorem wd_890 : (Jvm.Cond.classLink "FoxBurrows" (245 : Nat) "java/lang/IndexOutOfBoundsException") ∈ TB := zTB 890 (by decide +kernel) (by decide +kernel)
theorem wd_904 : (Jvm.Cond.methodLink "FoxBurrows" (252 : Nat) ({ cls := "FoxBurrows$Field", name := "become", desc := "(LFoxBurrows$Field;)V" } : Jvm.MethodName)) ∈ TB := zTB 904 (by decide +kernel) (by decide +kernel)
theorem wd_905 : (Jvm.Cond.methodLink "FoxBurrows" (255 : Nat) ({ cls := "FoxBurrows$Field", name := "turnNear", desc := "(II)V" } : Jvm.MethodName)) ∈ TB := zTB 905 (by decide +kernel) (by decide +kernel)
theorem wd_913 : (Jvm.Cond.methodLink "FoxBurrows" (271 : Nat) ({ cls := "FoxBurrows$Table", name := "isFoxWinning", desc := "(I)Z" } : Jvm.MethodName)) ∈ TB := zTB 913 (by decide +kernel) (by decide +kernel)
theorem wd_914 : (Jvm.Cond.instanceMethod ({ cls := "FoxBurrows$Table", name := "isFoxWinning", desc := "(I)Z" } : Jvm.MethodName)) ∈ TB := zTB 914 (by decide +kernel) (by decide +kernel)
theorem wd_915 : (Jvm.Cond.selects "FoxBurrows$Table" ({ cls := "FoxBurrows$Table", name := "isFoxWinning", desc := "(I)Z" } : Jvm.MethodName) ({ cls := "FoxBurrows$Table", name := "isFoxWinning", desc := "(I)Z" } : Jvm.MethodName)) ∈ TB := zTB 915 (by decide +kernel) (by decide +kernel)
theorem wd_916 : (Jvm.Cond.code ({ cls := "FoxBurrows$Table", name := "isFoxWinning", desc := "(I)Z" } : Jvm.MethodName) prog_9_method_8_code (2 : Nat) (Option.some Jvm.ClassFile.FieldType.boolean)) ∈ TB := zTB 916 (by decide +kernel) (by decide +kernel)
theorem wd_917 : (Jvm.Cond.methodLink "FoxBurrows$Table" (87 : Nat) ({ cls := "FoxBurrows$Table", name := "outcomeOf", desc := "(I)I" } : Jvm.MethodName)) ∈ TB := zTB 917 (by decide +kernel) (by decide +kernel)
theorem wd_928 : (Jvm.Cond.methodLink "FoxBurrows" (290 : Nat) ({ cls := "FoxBurrows", name := "above", desc := "(I)I" } : Jvm.MethodName)) ∈ TB := zTB 928 (by decide +kernel) (by decide +kernel)
theorem wd_929 : (Jvm.Cond.methodLink "FoxBurrows" (296 : Nat) ({ cls := "FoxBurrows", name := "winsOfFoxOn", desc := "(I)I" } : Jvm.MethodName)) ∈ TB := zTB 929 (by decide +kernel) (by decide +kernel)
theorem wd_931 : (Jvm.Cond.instanceMethod ({ cls := "FoxBurrows", name := "winsOfFoxOn", desc := "(I)I" } : Jvm.MethodName)) ∈ TB := zTB 931 (by decide +kernel) (by decide +kernel)
theorem wd_932 : (Jvm.Cond.code ({ cls := "FoxBurrows", name := "winsOfFoxOn", desc := "(I)I" } : Jvm.MethodName) prog_1_method_56_code (5 : Nat) (Option.some Jvm.ClassFile.FieldType.int)) ∈ TB := zTB 932 (by decide +kernel) (by decide +kernel)
theorem wd_957 : (Jvm.Cond.classLink "FoxBurrows" (339 : Nat) "java/lang/IllegalStateException") ∈ TB := zTB 957 (by decide +kernel) (by decide +kernel)
theorem wd_980 : (Jvm.Cond.methodLink "FoxBurrows" (348 : Nat) ({ cls := "FoxBurrows$Reader", name := "read", desc := "(LFoxBurrows$Text;)I" } : Jvm.MethodName)) ∈ TB := zTB 980 (by decide +kernel) (by decide +kernel)
theorem wd_981 : (Jvm.Cond.instanceMethod ({ cls := "FoxBurrows$Reader", name := "read", desc := "(LFoxBurrows$Text;)I" } : Jvm.MethodName)) ∈ TB := zTB 981 (by decide +kernel) (by decide +kernel)
theorem wd_982 : (Jvm.Cond.selects "FoxBurrows$Reader" ({ cls := "FoxBurrows$Reader", name := "read", desc := "(LFoxBurrows$Text;)I" } : Jvm.MethodName) ({ cls := "FoxBurrows$Reader", name := "read", desc := "(LFoxBurrows$Text;)I" } : Jvm.MethodName)) ∈ TB := zTB 982 (by decide +kernel) (by decide +kernel)
theorem wd_983 : (Jvm.Cond.code ({ cls := "FoxBurrows$Reader", name := "read", desc := "(LFoxBurrows$Text;)I" } : Jvm.MethodName) prog_5_method_2_code (3 : Nat) (Option.some Jvm.ClassFile.FieldType.int)) ∈ TB := zTB 983 (by decide +kernel) (by decide +kernel)
theorem wd_984 : (Jvm.Cond.methodLink "FoxBurrows$Reader" (28 : Nat) ({ cls := "FoxBurrows$Reader", name := "isCommand", desc := "(LFoxBurrows$Text;)Z" } : Jvm.MethodName)) ∈ TB := zTB 984 (by decide +kernel) (by decide +kernel)
theorem wd_986 : (Jvm.Cond.instanceMethod ({ cls := "FoxBurrows$Reader", name := "isCommand", desc := "(LFoxBurrows$Text;)Z" } : Jvm.MethodName)) ∈ TB := zTB 986 (by decide +kernel) (by decide +kernel)
theorem wd_987 : (Jvm.Cond.code ({ cls := "FoxBurrows$Reader", name := "isCommand", desc := "(LFoxBurrows$Text;)Z" } : Jvm.MethodName) prog_5_method_3_code (7 : Nat) (Option.some Jvm.ClassFile.FieldType.boolean)) ∈ TB := zTB 987 (by decide +kernel) (by decide +kernel)
theorem wd_988 : (Jvm.Cond.methodLink "FoxBurrows$Reader" (37 : Nat) ({ cls := "FoxBurrows$Text", name := "sign", desc := "(I)C" } : Jvm.MethodName)) ∈ TB := zTB 988 (by decide +kernel) (by decide +kernel)
theorem wd_989 : (Jvm.Cond.instanceMethod ({ cls := "FoxBurrows$Text", name := "sign", desc := "(I)C" } : Jvm.MethodName)) ∈ TB := zTB 989 (by decide +kernel) (by decide +kernel)
theorem wd_990 : (Jvm.Cond.selects "FoxBurrows$Text" ({ cls := "FoxBurrows$Text", name := "sign", desc := "(I)C" } : Jvm.MethodName) ({ cls := "FoxBurrows$Text", name := "sign", desc := "(I)C" } : Jvm.MethodName)) ∈ TB := zTB 990 (by decide +kernel) (by decide +kernel)
theorem wd_991 : (Jvm.Cond.code ({ cls := "FoxBurrows$Text", name := "sign", desc := "(I)C" } : Jvm.MethodName) prog_10_method_3_code (2 : Nat) (Option.some Jvm.ClassFile.FieldType.char)) ∈ TB := zTB 991 (by decide +kernel) (by decide +kernel)
theorem wd_992 : (Jvm.Cond.methodLink "FoxBurrows$Reader" (41 : Nat) ({ cls := "FoxBurrows$Reader", name := "digitsOf", desc := "(C)I" } : Jvm.MethodName)) ∈ TB := zTB 992 (by decide +kernel) (by decide +kernel)
theorem wd_993 : (Jvm.Cond.static ({ cls := "FoxBurrows$Reader", name := "digitsOf", desc := "(C)I" } : Jvm.MethodName)) ∈ TB := zTB 993 (by decide +kernel) (by decide +kernel)
theorem wd_994 : (Jvm.Cond.code ({ cls := "FoxBurrows$Reader", name := "digitsOf", desc := "(C)I" } : Jvm.MethodName) prog_5_method_4_code (1 : Nat) (Option.some Jvm.ClassFile.FieldType.int)) ∈ TB := zTB 994 (by decide +kernel) (by decide +kernel)
theorem wd_995 : (Jvm.Cond.methodLink "FoxBurrows$Reader" (45 : Nat) ({ cls := "FoxBurrows$Reader", name := "numberIn", desc := "(LFoxBurrows$Text;I)I" } : Jvm.MethodName)) ∈ TB := zTB 995 (by decide +kernel) (by decide +kernel)
theorem wd_997 : (Jvm.Cond.instanceMethod ({ cls := "FoxBurrows$Reader", name := "numberIn", desc := "(LFoxBurrows$Text;I)I" } : Jvm.MethodName)) ∈ TB := zTB 997 (by decide +kernel) (by decide +kernel)
theorem wd_998 : (Jvm.Cond.code ({ cls := "FoxBurrows$Reader", name := "numberIn", desc := "(LFoxBurrows$Text;I)I" } : Jvm.MethodName) prog_5_method_6_code (6 : Nat) (Option.some Jvm.ClassFile.FieldType.int)) ∈ TB := zTB 998 (by decide +kernel) (by decide +kernel)
theorem wd_999 : (Jvm.Cond.methodLink "FoxBurrows$Reader" (57 : Nat) ({ cls := "java/lang/Math", name := "max", desc := "(II)I" } : Jvm.MethodName)) ∈ TB := zTB 999 (by decide +kernel) (by decide +kernel)
theorem wd_1000 : (Jvm.Cond.methodLink "FoxBurrows$Reader" (49 : Nat) ({ cls := "FoxBurrows$Reader", name := "markOf", desc := "(C)C" } : Jvm.MethodName)) ∈ TB := zTB 1000 (by decide +kernel) (by decide +kernel)
theorem wd_1001 : (Jvm.Cond.static ({ cls := "FoxBurrows$Reader", name := "markOf", desc := "(C)C" } : Jvm.MethodName)) ∈ TB := zTB 1001 (by decide +kernel) (by decide +kernel)
theorem wd_1002 : (Jvm.Cond.code ({ cls := "FoxBurrows$Reader", name := "markOf", desc := "(C)C" } : Jvm.MethodName) prog_5_method_5_code (1 : Nat) (Option.some Jvm.ClassFile.FieldType.char)) ∈ TB := zTB 1002 (by decide +kernel) (by decide +kernel)
theorem wd_1005 : (Jvm.Cond.methodLink "FoxBurrows" (360 : Nat) ({ cls := "FoxBurrows", name := "carriedOut", desc := "(I)I" } : Jvm.MethodName)) ∈ TB := zTB 1005 (by decide +kernel) (by decide +kernel)
theorem wd_1007 : (Jvm.Cond.instanceMethod ({ cls := "FoxBurrows", name := "carriedOut", desc := "(I)I" } : Jvm.MethodName)) ∈ TB := zTB 1007 (by decide +kernel) (by decide +kernel)
theorem wd_1008 : (Jvm.Cond.code ({ cls := "FoxBurrows", name := "carriedOut", desc := "(I)I" } : Jvm.MethodName) prog_1_method_47_code (4 : Nat) (Option.some Jvm.ClassFile.FieldType.int)) ∈ TB := zTB 1008 (by decide +kernel) (by decide +kernel)
theorem wd_1026 : (Jvm.Cond.methodLink "FoxBurrows" (385 : Nat) ({ cls := "FoxBurrows$Text", name := "sign", desc := "(I)C" } : Jvm.MethodName)) ∈ TB := zTB 1026 (by decide +kernel) (by decide +kernel)
theorem wd_1048 : (Jvm.Cond.classLink "FoxBurrows" (310 : Nat) "java/lang/ArithmeticException") ∈ TB := zTB 1048 (by decide +kernel) (by decide +kernel)
theorem wd_1067 : (Jvm.Cond.methodLink "FoxBurrows" (336 : Nat) ({ cls := "FoxBurrows", name := "accountOfPositions", desc := "(I)I" } : Jvm.MethodName)) ∈ TB := zTB 1067 (by decide +kernel) (by decide +kernel)
theorem wd_1069 : (Jvm.Cond.instanceMethod ({ cls := "FoxBurrows", name := "accountOfPositions", desc := "(I)I" } : Jvm.MethodName)) ∈ TB := zTB 1069 (by decide +kernel) (by decide +kernel)
theorem wd_1070 : (Jvm.Cond.code ({ cls := "FoxBurrows", name := "accountOfPositions", desc := "(I)I" } : Jvm.MethodName) prog_1_method_57_code (4 : Nat) (Option.some Jvm.ClassFile.FieldType.int)) ∈ TB := zTB 1070 (by decide +kernel) (by decide +kernel)
theorem wd_1079 : (Jvm.Cond.methodLink "FoxBurrows" (391 : Nat) ({ cls := "FoxBurrows$Changes", name := "takeInto", desc := "(LFoxBurrows$State;)V" } : Jvm.MethodName)) ∈ TB := zTB 1079 (by decide +kernel) (by decide +kernel)
theorem wd_1080 : (Jvm.Cond.instanceMethod ({ cls := "FoxBurrows$Changes", name := "takeInto", desc := "(LFoxBurrows$State;)V" } : Jvm.MethodName)) ∈ TB := zTB 1080 (by decide +kernel) (by decide +kernel)
theorem wd_1081 : (Jvm.Cond.selects "FoxBurrows$Changes" ({ cls := "FoxBurrows$Changes", name := "takeInto", desc := "(LFoxBurrows$State;)V" } : Jvm.MethodName) ({ cls := "FoxBurrows$Changes", name := "takeInto", desc := "(LFoxBurrows$State;)V" } : Jvm.MethodName)) ∈ TB := zTB 1081 (by decide +kernel) (by decide +kernel)
theorem wd_1082 : (Jvm.Cond.code ({ cls := "FoxBurrows$Changes", name := "takeInto", desc := "(LFoxBurrows$State;)V" } : Jvm.MethodName) prog_2_method_3_code (4 : Nat) (Option.none : Option Jvm.ClassFile.FieldType)) ∈ TB := zTB 1082 (by decide +kernel) (by decide +kernel)
theorem wd_1097 : (Jvm.Cond.fieldLink "FoxBurrowsModel" (9 : Nat) "FoxBurrowsModel" "now" "[I") ∈ TB := zTB 1097 (by decide +kernel) (by decide +kernel)
theorem wd_1098 : (Jvm.Cond.fieldLink "FoxBurrowsModel" (13 : Nat) "FoxBurrowsModel" "tried" "[I") ∈ TB := zTB 1098 (by decide +kernel) (by decide +kernel)
theorem wd_1099 : (Jvm.Cond.fieldLink "FoxBurrowsModel" (16 : Nat) "FoxBurrowsModel" "kept" "[I") ∈ TB := zTB 1099 (by decide +kernel) (by decide +kernel)
theorem wd_1100 : (Jvm.Cond.fieldLink "FoxBurrowsModel" (65 : Nat) "FoxBurrowsModel" "undos" "I") ∈ TB := zTB 1100 (by decide +kernel) (by decide +kernel)
theorem wd_1101 : (Jvm.Cond.fieldLink "FoxBurrowsModel" (19 : Nat) "FoxBurrowsModel" "saved" "[I") ∈ TB := zTB 1101 (by decide +kernel) (by decide +kernel)
theorem wd_1102 : (Jvm.Cond.fieldLink "FoxBurrowsModel" (235 : Nat) "FoxBurrowsModel" "isSaved" "Z") ∈ TB := zTB 1102 (by decide +kernel) (by decide +kernel)
theorem wd_1103 : (Jvm.Cond.fieldLink "FoxBurrowsModel" (22 : Nat) "FoxBurrowsModel" "line" "[C") ∈ TB := zTB 1103 (by decide +kernel) (by decide +kernel)
theorem wd_1104 : (Jvm.Cond.fieldLink "FoxBurrowsModel" (229 : Nat) "FoxBurrowsModel" "lined" "I") ∈ TB := zTB 1104 (by decide +kernel) (by decide +kernel)
theorem wd_1105 : (Jvm.Cond.fieldLink "FoxBurrowsModel" (26 : Nat) "FoxBurrowsModel" "text" "[C") ∈ TB := zTB 1105 (by decide +kernel) (by decide +kernel)
theorem wd_1106 : (Jvm.Cond.fieldLink "FoxBurrowsModel" (204 : Nat) "FoxBurrowsModel" "length" "I") ∈ TB := zTB 1106 (by decide +kernel) (by decide +kernel)
theorem wd_1107 : (Jvm.Cond.fieldLink "FoxBurrowsModel" (207 : Nat) "FoxBurrowsModel" "at" "I") ∈ TB := zTB 1107 (by decide +kernel) (by decide +kernel)
theorem wd_1108 : (Jvm.Cond.fieldLink "FoxBurrowsModel" (210 : Nat) "FoxBurrowsModel" "command" "C") ∈ TB := zTB 1108 (by decide +kernel) (by decide +kernel)
theorem wd_1109 : (Jvm.Cond.fieldLink "FoxBurrowsModel" (29 : Nat) "FoxBurrowsModel" "told" "[I") ∈ TB := zTB 1109 (by decide +kernel) (by decide +kernel)
theorem wd_1110 : (Jvm.Cond.fieldLink "FoxBurrowsModel" (32 : Nat) "FoxBurrowsModel" "fault" "I") ∈ TB := zTB 1110 (by decide +kernel) (by decide +kernel)
theorem wd_1111 : (Jvm.Cond.fieldLink "FoxBurrowsModel" (68 : Nat) "FoxBurrowsModel" "reason" "I") ∈ TB := zTB 1111 (by decide +kernel) (by decide +kernel)
theorem wd_1112 : (Jvm.Cond.fieldLink "FoxBurrowsModel" (71 : Nat) "FoxBurrowsModel" "detail" "I") ∈ TB := zTB 1112 (by decide +kernel) (by decide +kernel)
theorem wd_1113 : (Jvm.Cond.fieldLink "FoxBurrowsModel" (74 : Nat) "FoxBurrowsModel" "index" "I") ∈ TB := zTB 1113 (by decide +kernel) (by decide +kernel)
theorem wd_1114 : (Jvm.Cond.fieldLink "FoxBurrowsModel" (54 : Nat) "FoxBurrowsModel" "thrown" "I") ∈ TB := zTB 1114 (by decide +kernel) (by decide +kernel)
theorem wd_1115 : (Jvm.Cond.fieldLink "FoxBurrowsModel" (36 : Nat) "FoxBurrowsModel" "near" "[I") ∈ TB := zTB 1115 (by decide +kernel) (by decide +kernel)
theorem wd_1116 : (Jvm.Cond.fieldLink "FoxBurrowsModel" (39 : Nat) "FoxBurrowsModel" "outcome" "[I") ∈ TB := zTB 1116 (by decide +kernel) (by decide +kernel)
theorem wd_1117 : (Jvm.Cond.fieldLink "FoxBurrowsModel" (42 : Nat) "FoxBurrowsModel" "number" "[I") ∈ TB := zTB 1117 (by decide +kernel) (by decide +kernel)
theorem wd_1118 : (Jvm.Cond.fieldLink "FoxBurrowsModel" (45 : Nat) "FoxBurrowsModel" "before" "[I") ∈ TB := zTB 1118 (by decide +kernel) (by decide +kernel)
theorem wd_1119 : (Jvm.Cond.fieldLink "FoxBurrowsModel" (57 : Nat) "FoxBurrowsModel" "isKnown" "Z") ∈ TB := zTB 1119 (by decide +kernel) (by decide +kernel)
theorem wd_1120 : (Jvm.Cond.fieldLink "FoxBurrowsModel" (48 : Nat) "FoxBurrowsModel" "from" "[I") ∈ TB := zTB 1120 (by decide +kernel) (by decide +kernel)
theorem wd_1121 : (Jvm.Cond.fieldLink "FoxBurrowsModel" (51 : Nat) "FoxBurrowsModel" "to" "[I") ∈ TB := zTB 1121 (by decide +kernel) (by decide +kernel)
theorem wd_1122 : (Jvm.Cond.fieldLink "FoxBurrowsModel" (103 : Nat) "FoxBurrowsModel" "moves" "I") ∈ TB := zTB 1122 (by decide +kernel) (by decide +kernel)
theorem wd_1184 : (Jvm.Cond.methodLink "FoxBurrowsModel" (146 : Nat) ({ cls := "FoxBurrowsModel", name := "tries", desc := "()V" } : Jvm.MethodName)) ∈ TB := zTB 1184 (by decide +kernel) (by decide +kernel)
theorem wd_1186 : (Jvm.Cond.instanceMethod ({ cls := "FoxBurrowsModel", name := "tries", desc := "()V" } : Jvm.MethodName)) ∈ TB := zTB 1186 (by decide +kernel) (by decide +kernel)
theorem wd_1187 : (Jvm.Cond.code ({ cls := "FoxBurrowsModel", name := "tries", desc := "()V" } : Jvm.MethodName) prog_12_method_5_code (2 : Nat) (Option.none : Option Jvm.ClassFile.FieldType)) ∈ TB := zTB 1187 (by decide +kernel) (by decide +kernel)
theorem wd_1188 : (Jvm.Cond.methodLink "FoxBurrowsModel" (149 : Nat) ({ cls := "FoxBurrowsModel", name := "digs", desc := "()I" } : Jvm.MethodName)) ∈ TB := zTB 1188 (by decide +kernel) (by decide +kernel)
theorem wd_1190 : (Jvm.Cond.instanceMethod ({ cls := "FoxBurrowsModel", name := "digs", desc := "()I" } : Jvm.MethodName)) ∈ TB := zTB 1190 (by decide +kernel) (by decide +kernel)
theorem wd_1191 : (Jvm.Cond.code ({ cls := "FoxBurrowsModel", name := "digs", desc := "()I" } : Jvm.MethodName) prog_12_method_26_code (1 : Nat) (Option.some Jvm.ClassFile.FieldType.int)) ∈ TB := zTB 1191 (by decide +kernel) (by decide +kernel)
theorem wd_1192 : (Jvm.Cond.methodLink "FoxBurrowsModel" (140 : Nat) ({ cls := "FoxBurrowsModel", name := "refuses", desc := "(II)I" } : Jvm.MethodName)) ∈ TB := zTB 1192 (by decide +kernel) (by decide +kernel)
theorem wd_1194 : (Jvm.Cond.instanceMethod ({ cls := "FoxBurrowsModel", name := "refuses", desc := "(II)I" } : Jvm.MethodName)) ∈ TB := zTB 1194 (by decide +kernel) (by decide +kernel)
theorem wd_1195 : (Jvm.Cond.code ({ cls := "FoxBurrowsModel", name := "refuses", desc := "(II)I" } : Jvm.MethodName) prog_12_method_7_code (3 : Nat) (Option.some Jvm.ClassFile.FieldType.int)) ∈ TB := zTB 1195 (by decide +kernel) (by decide +kernel)
theorem wd_1196 : (Jvm.Cond.methodLink "FoxBurrowsModel" (143 : Nat) ({ cls := "FoxBurrowsModel", name := "endsGame", desc := "()V" } : Jvm.MethodName)) ∈ TB := zTB 1196 (by decide +kernel) (by decide +kernel)
theorem wd_1198 : (Jvm.Cond.instanceMethod ({ cls := "FoxBurrowsModel", name := "endsGame", desc := "()V" } : Jvm.MethodName)) ∈ TB := zTB 1198 (by decide +kernel) (by decide +kernel)
theorem wd_1199 : (Jvm.Cond.code ({ cls := "FoxBurrowsModel", name := "endsGame", desc := "()V" } : Jvm.MethodName) prog_12_method_25_code (1 : Nat) (Option.none : Option Jvm.ClassFile.FieldType)) ∈ TB := zTB 1199 (by decide +kernel) (by decide +kernel)
theorem wd_1200 : (Jvm.Cond.methodLink "FoxBurrowsModel" (153 : Nat) ({ cls := "FoxBurrowsModel", name := "keeps", desc := "(I)I" } : Jvm.MethodName)) ∈ TB := zTB 1200 (by decide +kernel) (by decide +kernel)
theorem wd_1202 : (Jvm.Cond.instanceMethod ({ cls := "FoxBurrowsModel", name := "keeps", desc := "(I)I" } : Jvm.MethodName)) ∈ TB := zTB 1202 (by decide +kernel) (by decide +kernel)
theorem wd_1203 : (Jvm.Cond.code ({ cls := "FoxBurrowsModel", name := "keeps", desc := "(I)I" } : Jvm.MethodName) prog_12_method_6_code (3 : Nat) (Option.some Jvm.ClassFile.FieldType.int)) ∈ TB := zTB 1203 (by decide +kernel) (by decide +kernel)
theorem wd_1204 : (Jvm.Cond.methodLink "FoxBurrowsModel" (61 : Nat) ({ cls := "FoxBurrowsModel", name := "raises", desc := "(I)I" } : Jvm.MethodName)) ∈ TB := zTB 1204 (by decide +kernel) (by decide +kernel)
theorem wd_1206 : (Jvm.Cond.instanceMethod ({ cls := "FoxBurrowsModel", name := "raises", desc := "(I)I" } : Jvm.MethodName)) ∈ TB := zTB 1206 (by decide +kernel) (by decide +kernel)
theorem wd_1207 : (Jvm.Cond.code ({ cls := "FoxBurrowsModel", name := "raises", desc := "(I)I" } : Jvm.MethodName) prog_12_method_3_code (2 : Nat) (Option.some Jvm.ClassFile.FieldType.int)) ∈ TB := zTB 1207 (by decide +kernel) (by decide +kernel)
theorem wd_1212 : (Jvm.Cond.methodLink "FoxBurrowsModel" (162 : Nat) ({ cls := "FoxBurrowsModel", name := "treads", desc := "(II)I" } : Jvm.MethodName)) ∈ TB := zTB 1212 (by decide +kernel) (by decide +kernel)
theorem wd_1214 : (Jvm.Cond.instanceMethod ({ cls := "FoxBurrowsModel", name := "treads", desc := "(II)I" } : Jvm.MethodName)) ∈ TB := zTB 1214 (by decide +kernel) (by decide +kernel)
theorem wd_1215 : (Jvm.Cond.code ({ cls := "FoxBurrowsModel", name := "treads", desc := "(II)I" } : Jvm.MethodName) prog_12_method_29_code (3 : Nat) (Option.some Jvm.ClassFile.FieldType.int)) ∈ TB := zTB 1215 (by decide +kernel) (by decide +kernel)
theorem wd_1216 : (Jvm.Cond.methodLink "FoxBurrowsModel" (156 : Nat) ({ cls := "FoxBurrowsModel", name := "lacks", desc := "(II)I" } : Jvm.MethodName)) ∈ TB := zTB 1216 (by decide +kernel) (by decide +kernel)
theorem wd_1218 : (Jvm.Cond.instanceMethod ({ cls := "FoxBurrowsModel", name := "lacks", desc := "(II)I" } : Jvm.MethodName)) ∈ TB := zTB 1218 (by decide +kernel) (by decide +kernel)
theorem wd_1219 : (Jvm.Cond.code ({ cls := "FoxBurrowsModel", name := "lacks", desc := "(II)I" } : Jvm.MethodName) prog_12_method_28_code (3 : Nat) (Option.some Jvm.ClassFile.FieldType.int)) ∈ TB := zTB 1219 (by decide +kernel) (by decide +kernel)
theorem wd_1220 : (Jvm.Cond.methodLink "FoxBurrowsModel" (81 : Nat) ({ cls := "FoxBurrowsModel", name := "isBurrow", desc := "(I)Z" } : Jvm.MethodName)) ∈ TB := zTB 1220 (by decide +kernel) (by decide +kernel)
theorem wd_1222 : (Jvm.Cond.instanceMethod ({ cls := "FoxBurrowsModel", name := "isBurrow", desc := "(I)Z" } : Jvm.MethodName)) ∈ TB := zTB 1222 (by decide +kernel) (by decide +kernel)
theorem wd_1223 : (Jvm.Cond.code ({ cls := "FoxBurrowsModel", name := "isBurrow", desc := "(I)Z" } : Jvm.MethodName) prog_12_method_8_code (2 : Nat) (Option.some Jvm.ClassFile.FieldType.boolean)) ∈ TB := zTB 1223 (by decide +kernel) (by decide +kernel)
theorem wd_1224 : (Jvm.Cond.methodLink "FoxBurrowsModel" (77 : Nat) ({ cls := "FoxBurrowsModel", name := "in", desc := "(III)Z" } : Jvm.MethodName)) ∈ TB := zTB 1224 (by decide +kernel) (by decide +kernel)
theorem wd_1225 : (Jvm.Cond.static ({ cls := "FoxBurrowsModel", name := "in", desc := "(III)Z" } : Jvm.MethodName)) ∈ TB := zTB 1225 (by decide +kernel) (by decide +kernel)
theorem wd_1226 : (Jvm.Cond.code ({ cls := "FoxBurrowsModel", name := "in", desc := "(III)Z" } : Jvm.MethodName) prog_12_method_4_code (3 : Nat) (Option.some Jvm.ClassFile.FieldType.boolean)) ∈ TB := zTB 1226 (by decide +kernel) (by decide +kernel)
theorem wd_1227 : (Jvm.Cond.methodLink "FoxBurrowsModel" (159 : Nat) ({ cls := "FoxBurrowsModel", name := "path", desc := "(II)I" } : Jvm.MethodName)) ∈ TB := zTB 1227 (by decide +kernel) (by decide +kernel)
theorem wd_1229 : (Jvm.Cond.instanceMethod ({ cls := "FoxBurrowsModel", name := "path", desc := "(II)I" } : Jvm.MethodName)) ∈ TB := zTB 1229 (by decide +kernel) (by decide +kernel)
theorem wd_1230 : (Jvm.Cond.code ({ cls := "FoxBurrowsModel", name := "path", desc := "(II)I" } : Jvm.MethodName) prog_12_method_9_code (6 : Nat) (Option.some Jvm.ClassFile.FieldType.int)) ∈ TB := zTB 1230 (by decide +kernel) (by decide +kernel)
theorem wd_1235 : (Jvm.Cond.methodLink "FoxBurrowsModel" (165 : Nat) ({ cls := "FoxBurrowsModel", name := "grows", desc := "(II)I" } : Jvm.MethodName)) ∈ TB := zTB 1235 (by decide +kernel) (by decide +kernel)
theorem wd_1237 : (Jvm.Cond.instanceMethod ({ cls := "FoxBurrowsModel", name := "grows", desc := "(II)I" } : Jvm.MethodName)) ∈ TB := zTB 1237 (by decide +kernel) (by decide +kernel)
theorem wd_1238 : (Jvm.Cond.code ({ cls := "FoxBurrowsModel", name := "grows", desc := "(II)I" } : Jvm.MethodName) prog_12_method_31_code (5 : Nat) (Option.some Jvm.ClassFile.FieldType.int)) ∈ TB := zTB 1238 (by decide +kernel) (by decide +kernel)
theorem wd_1243 : (Jvm.Cond.methodLink "FoxBurrowsModel" (173 : Nat) ({ cls := "FoxBurrowsModel", name := "traps", desc := "(IZ)I" } : Jvm.MethodName)) ∈ TB := zTB 1243 (by decide +kernel) (by decide +kernel)
theorem wd_1245 : (Jvm.Cond.instanceMethod ({ cls := "FoxBurrowsModel", name := "traps", desc := "(IZ)I" } : Jvm.MethodName)) ∈ TB := zTB 1245 (by decide +kernel) (by decide +kernel)
theorem wd_1246 : (Jvm.Cond.code ({ cls := "FoxBurrowsModel", name := "traps", desc := "(IZ)I" } : Jvm.MethodName) prog_12_method_33_code (3 : Nat) (Option.some Jvm.ClassFile.FieldType.int)) ∈ TB := zTB 1246 (by decide +kernel) (by decide +kernel)
theorem wd_1247 : (Jvm.Cond.methodLink "FoxBurrowsModel" (97 : Nat) ({ cls := "FoxBurrowsModel", name := "isTrap", desc := "(I)Z" } : Jvm.MethodName)) ∈ TB := zTB 1247 (by decide +kernel) (by decide +kernel)
theorem wd_1249 : (Jvm.Cond.instanceMethod ({ cls := "FoxBurrowsModel", name := "isTrap", desc := "(I)Z" } : Jvm.MethodName)) ∈ TB := zTB 1249 (by decide +kernel) (by decide +kernel)
theorem wd_1250 : (Jvm.Cond.code ({ cls := "FoxBurrowsModel", name := "isTrap", desc := "(I)Z" } : Jvm.MethodName) prog_12_method_10_code (2 : Nat) (Option.some Jvm.ClassFile.FieldType.boolean)) ∈ TB := zTB 1250 (by decide +kernel) (by decide +kernel)
theorem wd_1251 : (Jvm.Cond.methodLink "FoxBurrowsModel" (168 : Nat) ({ cls := "java/lang/Integer", name := "bitCount", desc := "(I)I" } : Jvm.MethodName)) ∈ TB := zTB 1251 (by decide +kernel) (by decide +kernel)
theorem wd_1256 : (Jvm.Cond.methodLink "FoxBurrowsModel" (177 : Nat) ({ cls := "FoxBurrowsModel", name := "flocks", desc := "(I)I" } : Jvm.MethodName)) ∈ TB := zTB 1256 (by decide +kernel) (by decide +kernel)
theorem wd_1258 : (Jvm.Cond.instanceMethod ({ cls := "FoxBurrowsModel", name := "flocks", desc := "(I)I" } : Jvm.MethodName)) ∈ TB := zTB 1258 (by decide +kernel) (by decide +kernel)
theorem wd_1259 : (Jvm.Cond.code ({ cls := "FoxBurrowsModel", name := "flocks", desc := "(I)I" } : Jvm.MethodName) prog_12_method_35_code (2 : Nat) (Option.some Jvm.ClassFile.FieldType.int)) ∈ TB := zTB 1259 (by decide +kernel) (by decide +kernel)
theorem wd_1264 : (Jvm.Cond.methodLink "FoxBurrowsModel" (180 : Nat) ({ cls := "FoxBurrowsModel", name := "begins", desc := "(I)I" } : Jvm.MethodName)) ∈ TB := zTB 1264 (by decide +kernel) (by decide +kernel)
theorem wd_1266 : (Jvm.Cond.instanceMethod ({ cls := "FoxBurrowsModel", name := "begins", desc := "(I)I" } : Jvm.MethodName)) ∈ TB := zTB 1266 (by decide +kernel) (by decide +kernel)
theorem wd_1267 : (Jvm.Cond.code ({ cls := "FoxBurrowsModel", name := "begins", desc := "(I)I" } : Jvm.MethodName) prog_12_method_37_code (2 : Nat) (Option.some Jvm.ClassFile.FieldType.int)) ∈ TB := zTB 1267 (by decide +kernel) (by decide +kernel)
theorem wd_1268 : (Jvm.Cond.methodLink "FoxBurrowsModel" (123 : Nat) ({ cls := "FoxBurrowsModel", name := "isPosition", desc := "(I)Z" } : Jvm.MethodName)) ∈ TB := zTB 1268 (by decide +kernel) (by decide +kernel)
theorem wd_1270 : (Jvm.Cond.instanceMethod ({ cls := "FoxBurrowsModel", name := "isPosition", desc := "(I)Z" } : Jvm.MethodName)) ∈ TB := zTB 1270 (by decide +kernel) (by decide +kernel)
theorem wd_1271 : (Jvm.Cond.code ({ cls := "FoxBurrowsModel", name := "isPosition", desc := "(I)Z" } : Jvm.MethodName) prog_12_method_17_code (2 : Nat) (Option.some Jvm.ClassFile.FieldType.boolean)) ∈ TB := zTB 1271 (by decide +kernel) (by decide +kernel)
theorem wd_1272 : (Jvm.Cond.methodLink "FoxBurrowsModel" (85 : Nat) ({ cls := "FoxBurrowsModel", name := "fox", desc := "(I)I" } : Jvm.MethodName)) ∈ TB := zTB 1272 (by decide +kernel) (by decide +kernel)
theorem wd_1273 : (Jvm.Cond.static ({ cls := "FoxBurrowsModel", name := "fox", desc := "(I)I" } : Jvm.MethodName)) ∈ TB := zTB 1273 (by decide +kernel) (by decide +kernel)
theorem wd_1274 : (Jvm.Cond.code ({ cls := "FoxBurrowsModel", name := "fox", desc := "(I)I" } : Jvm.MethodName) prog_12_method_11_code (1 : Nat) (Option.some Jvm.ClassFile.FieldType.int)) ∈ TB := zTB 1274 (by decide +kernel) (by decide +kernel)
theorem wd_1275 : (Jvm.Cond.methodLink "FoxBurrowsModel" (88 : Nat) ({ cls := "FoxBurrowsModel", name := "first", desc := "(I)I" } : Jvm.MethodName)) ∈ TB := zTB 1275 (by decide +kernel) (by decide +kernel)
theorem wd_1276 : (Jvm.Cond.static ({ cls := "FoxBurrowsModel", name := "first", desc := "(I)I" } : Jvm.MethodName)) ∈ TB := zTB 1276 (by decide +kernel) (by decide +kernel)
theorem wd_1277 : (Jvm.Cond.code ({ cls := "FoxBurrowsModel", name := "first", desc := "(I)I" } : Jvm.MethodName) prog_12_method_12_code (1 : Nat) (Option.some Jvm.ClassFile.FieldType.int)) ∈ TB := zTB 1277 (by decide +kernel) (by decide +kernel)
theorem wd_1278 : (Jvm.Cond.methodLink "FoxBurrowsModel" (91 : Nat) ({ cls := "FoxBurrowsModel", name := "second", desc := "(I)I" } : Jvm.MethodName)) ∈ TB := zTB 1278 (by decide +kernel) (by decide +kernel)
theorem wd_1279 : (Jvm.Cond.static ({ cls := "FoxBurrowsModel", name := "second", desc := "(I)I" } : Jvm.MethodName)) ∈ TB := zTB 1279 (by decide +kernel) (by decide +kernel)
theorem wd_1280 : (Jvm.Cond.code ({ cls := "FoxBurrowsModel", name := "second", desc := "(I)I" } : Jvm.MethodName) prog_12_method_13_code (1 : Nat) (Option.some Jvm.ClassFile.FieldType.int)) ∈ TB := zTB 1280 (by decide +kernel) (by decide +kernel)
theorem wd_1281 : (Jvm.Cond.methodLink "FoxBurrowsModel" (94 : Nat) ({ cls := "FoxBurrowsModel", name := "is", desc := "(III)Z" } : Jvm.MethodName)) ∈ TB := zTB 1281 (by decide +kernel) (by decide +kernel)
theorem wd_1283 : (Jvm.Cond.instanceMethod ({ cls := "FoxBurrowsModel", name := "is", desc := "(III)Z" } : Jvm.MethodName)) ∈ TB := zTB 1283 (by decide +kernel) (by decide +kernel)
theorem wd_1284 : (Jvm.Cond.code ({ cls := "FoxBurrowsModel", name := "is", desc := "(III)Z" } : Jvm.MethodName) prog_12_method_16_code (4 : Nat) (Option.some Jvm.ClassFile.FieldType.boolean)) ∈ TB := zTB 1284 (by decide +kernel) (by decide +kernel)
theorem wd_1285 : (Jvm.Cond.methodLink "FoxBurrowsModel" (134 : Nat) ({ cls := "FoxBurrowsModel", name := "nears", desc := "()V" } : Jvm.MethodName)) ∈ TB := zTB 1285 (by decide +kernel) (by decide +kernel)
theorem wd_1287 : (Jvm.Cond.instanceMethod ({ cls := "FoxBurrowsModel", name := "nears", desc := "()V" } : Jvm.MethodName)) ∈ TB := zTB 1287 (by decide +kernel) (by decide +kernel)
theorem wd_1288 : (Jvm.Cond.code ({ cls := "FoxBurrowsModel", name := "nears", desc := "()V" } : Jvm.MethodName) prog_12_method_18_code (2 : Nat) (Option.none : Option Jvm.ClassFile.FieldType)) ∈ TB := zTB 1288 (by decide +kernel) (by decide +kernel)
theorem wd_1289 : (Jvm.Cond.methodLink "FoxBurrowsModel" (126 : Nat) ({ cls := "FoxBurrowsModel", name := "finds", desc := "(I)V" } : Jvm.MethodName)) ∈ TB := zTB 1289 (by decide +kernel) (by decide +kernel)
theorem wd_1291 : (Jvm.Cond.instanceMethod ({ cls := "FoxBurrowsModel", name := "finds", desc := "(I)V" } : Jvm.MethodName)) ∈ TB := zTB 1291 (by decide +kernel) (by decide +kernel)
theorem wd_1292 : (Jvm.Cond.code ({ cls := "FoxBurrowsModel", name := "finds", desc := "(I)V" } : Jvm.MethodName) prog_12_method_20_code (2 : Nat) (Option.none : Option Jvm.ClassFile.FieldType)) ∈ TB := zTB 1292 (by decide +kernel) (by decide +kernel)
theorem wd_1293 : (Jvm.Cond.methodLink "FoxBurrowsModel" (100 : Nat) ({ cls := "FoxBurrowsModel", name := "isGeese", desc := "(I)Z" } : Jvm.MethodName)) ∈ TB := zTB 1293 (by decide +kernel) (by decide +kernel)
theorem wd_1294 : (Jvm.Cond.static ({ cls := "FoxBurrowsModel", name := "isGeese", desc := "(I)Z" } : Jvm.MethodName)) ∈ TB := zTB 1294 (by decide +kernel) (by decide +kernel)
theorem wd_1295 : (Jvm.Cond.code ({ cls := "FoxBurrowsModel", name := "isGeese", desc := "(I)Z" } : Jvm.MethodName) prog_12_method_14_code (1 : Nat) (Option.some Jvm.ClassFile.FieldType.boolean)) ∈ TB := zTB 1295 (by decide +kernel) (by decide +kernel)
theorem wd_1296 : (Jvm.Cond.methodLink "FoxBurrowsModel" (106 : Nat) ({ cls := "FoxBurrowsModel", name := "comes", desc := "(II)V" } : Jvm.MethodName)) ∈ TB := zTB 1296 (by decide +kernel) (by decide +kernel)
theorem wd_1298 : (Jvm.Cond.instanceMethod ({ cls := "FoxBurrowsModel", name := "comes", desc := "(II)V" } : Jvm.MethodName)) ∈ TB := zTB 1298 (by decide +kernel) (by decide +kernel)
theorem wd_1299 : (Jvm.Cond.code ({ cls := "FoxBurrowsModel", name := "comes", desc := "(II)V" } : Jvm.MethodName) prog_12_method_19_code (5 : Nat) (Option.none : Option Jvm.ClassFile.FieldType)) ∈ TB := zTB 1299 (by decide +kernel) (by decide +kernel)
theorem wd_1304 : (Jvm.Cond.methodLink "FoxBurrowsModel" (186 : Nat) ({ cls := "FoxBurrowsModel", name := "goes", desc := "(II)I" } : Jvm.MethodName)) ∈ TB := zTB 1304 (by decide +kernel) (by decide +kernel)
theorem wd_1306 : (Jvm.Cond.instanceMethod ({ cls := "FoxBurrowsModel", name := "goes", desc := "(II)I" } : Jvm.MethodName)) ∈ TB := zTB 1306 (by decide +kernel) (by decide +kernel)
theorem wd_1307 : (Jvm.Cond.code ({ cls := "FoxBurrowsModel", name := "goes", desc := "(II)I" } : Jvm.MethodName) prog_12_method_40_code (5 : Nat) (Option.some Jvm.ClassFile.FieldType.int)) ∈ TB := zTB 1307 (by decide +kernel) (by decide +kernel)
theorem wd_1308 : (Jvm.Cond.methodLink "FoxBurrowsModel" (183 : Nat) ({ cls := "FoxBurrowsModel", name := "makes", desc := "(II)V" } : Jvm.MethodName)) ∈ TB := zTB 1308 (by decide +kernel) (by decide +kernel)
theorem wd_1310 : (Jvm.Cond.instanceMethod ({ cls := "FoxBurrowsModel", name := "makes", desc := "(II)V" } : Jvm.MethodName)) ∈ TB := zTB 1310 (by decide +kernel) (by decide +kernel)
theorem wd_1311 : (Jvm.Cond.code ({ cls := "FoxBurrowsModel", name := "makes", desc := "(II)V" } : Jvm.MethodName) prog_12_method_39_code (4 : Nat) (Option.none : Option Jvm.ClassFile.FieldType)) ∈ TB := zTB 1311 (by decide +kernel) (by decide +kernel)
theorem wd_1312 : (Jvm.Cond.methodLink "FoxBurrowsModel" (130 : Nat) ({ cls := "FoxBurrowsModel", name := "behind", desc := "(III)I" } : Jvm.MethodName)) ∈ TB := zTB 1312 (by decide +kernel) (by decide +kernel)
theorem wd_1313 : (Jvm.Cond.static ({ cls := "FoxBurrowsModel", name := "behind", desc := "(III)I" } : Jvm.MethodName)) ∈ TB := zTB 1313 (by decide +kernel) (by decide +kernel)
theorem wd_1314 : (Jvm.Cond.code ({ cls := "FoxBurrowsModel", name := "behind", desc := "(III)I" } : Jvm.MethodName) prog_12_method_21_code (5 : Nat) (Option.some Jvm.ClassFile.FieldType.int)) ∈ TB := zTB 1314 (by decide +kernel) (by decide +kernel)
theorem wd_1315 : (Jvm.Cond.methodLink "FoxBurrowsModel" (110 : Nat) ({ cls := "FoxBurrowsModel", name := "numberOf", desc := "(IIIZ)I" } : Jvm.MethodName)) ∈ TB := zTB 1315 (by decide +kernel) (by decide +kernel)
theorem wd_1316 : (Jvm.Cond.static ({ cls := "FoxBurrowsModel", name := "numberOf", desc := "(IIIZ)I" } : Jvm.MethodName)) ∈ TB := zTB 1316 (by decide +kernel) (by decide +kernel)
theorem wd_1317 : (Jvm.Cond.code ({ cls := "FoxBurrowsModel", name := "numberOf", desc := "(IIIZ)I" } : Jvm.MethodName) prog_12_method_15_code (4 : Nat) (Option.some Jvm.ClassFile.FieldType.int)) ∈ TB := zTB 1317 (by decide +kernel) (by decide +kernel)
theorem wd_1318 : (Jvm.Cond.methodLink "FoxBurrowsModel" (114 : Nat) ({ cls := "java/lang/Math", name := "min", desc := "(II)I" } : Jvm.MethodName)) ∈ TB := zTB 1318 (by decide +kernel) (by decide +kernel)
theorem wd_1319 : (Jvm.Cond.methodLink "FoxBurrowsModel" (120 : Nat) ({ cls := "java/lang/Math", name := "max", desc := "(II)I" } : Jvm.MethodName)) ∈ TB := zTB 1319 (by decide +kernel) (by decide +kernel)
theorem wd_1324 : (Jvm.Cond.methodLink "FoxBurrowsModel" (192 : Nat) ({ cls := "FoxBurrowsModel", name := "plays", desc := "(I)I" } : Jvm.MethodName)) ∈ TB := zTB 1324 (by decide +kernel) (by decide +kernel)
theorem wd_1326 : (Jvm.Cond.instanceMethod ({ cls := "FoxBurrowsModel", name := "plays", desc := "(I)I" } : Jvm.MethodName)) ∈ TB := zTB 1326 (by decide +kernel) (by decide +kernel)
theorem wd_1327 : (Jvm.Cond.code ({ cls := "FoxBurrowsModel", name := "plays", desc := "(I)I" } : Jvm.MethodName) prog_12_method_42_code (4 : Nat) (Option.some Jvm.ClassFile.FieldType.int)) ∈ TB := zTB 1327 (by decide +kernel) (by decide +kernel)
theorem wd_1328 : (Jvm.Cond.methodLink "FoxBurrowsModel" (137 : Nat) ({ cls := "FoxBurrowsModel", name := "looks", desc := "()V" } : Jvm.MethodName)) ∈ TB := zTB 1328 (by decide +kernel) (by decide +kernel)
theorem wd_1330 : (Jvm.Cond.instanceMethod ({ cls := "FoxBurrowsModel", name := "looks", desc := "()V" } : Jvm.MethodName)) ∈ TB := zTB 1330 (by decide +kernel) (by decide +kernel)
theorem wd_1331 : (Jvm.Cond.code ({ cls := "FoxBurrowsModel", name := "looks", desc := "()V" } : Jvm.MethodName) prog_12_method_22_code (9 : Nat) (Option.none : Option Jvm.ClassFile.FieldType)) ∈ TB := zTB 1331 (by decide +kernel) (by decide +kernel)
theorem wd_1332 : (Jvm.Cond.methodLink "FoxBurrowsModel" (189 : Nat) ({ cls := "FoxBurrowsModel", name := "bestPlace", desc := "(I)I" } : Jvm.MethodName)) ∈ TB := zTB 1332 (by decide +kernel) (by decide +kernel)
theorem wd_1334 : (Jvm.Cond.instanceMethod ({ cls := "FoxBurrowsModel", name := "bestPlace", desc := "(I)I" } : Jvm.MethodName)) ∈ TB := zTB 1334 (by decide +kernel) (by decide +kernel)
theorem wd_1335 : (Jvm.Cond.code ({ cls := "FoxBurrowsModel", name := "bestPlace", desc := "(I)I" } : Jvm.MethodName) prog_12_method_24_code (7 : Nat) (Option.some Jvm.ClassFile.FieldType.int)) ∈ TB := zTB 1335 (by decide +kernel) (by decide +kernel)
theorem wd_1340 : (Jvm.Cond.methodLink "FoxBurrowsModel" (195 : Nat) ({ cls := "FoxBurrowsModel", name := "takesBack", desc := "()I" } : Jvm.MethodName)) ∈ TB := zTB 1340 (by decide +kernel) (by decide +kernel)
theorem wd_1342 : (Jvm.Cond.instanceMethod ({ cls := "FoxBurrowsModel", name := "takesBack", desc := "()I" } : Jvm.MethodName)) ∈ TB := zTB 1342 (by decide +kernel) (by decide +kernel)
theorem wd_1343 : (Jvm.Cond.code ({ cls := "FoxBurrowsModel", name := "takesBack", desc := "()I" } : Jvm.MethodName) prog_12_method_44_code (1 : Nat) (Option.some Jvm.ClassFile.FieldType.int)) ∈ TB := zTB 1343 (by decide +kernel) (by decide +kernel)
theorem wd_1352 : (Jvm.Cond.methodLink "FoxBurrowsModel" (198 : Nat) ({ cls := "FoxBurrowsModel", name := "knows", desc := "()V" } : Jvm.MethodName)) ∈ TB := zTB 1352 (by decide +kernel) (by decide +kernel)
theorem wd_1354 : (Jvm.Cond.instanceMethod ({ cls := "FoxBurrowsModel", name := "knows", desc := "()V" } : Jvm.MethodName)) ∈ TB := zTB 1354 (by decide +kernel) (by decide +kernel)
theorem wd_1355 : (Jvm.Cond.code ({ cls := "FoxBurrowsModel", name := "knows", desc := "()V" } : Jvm.MethodName) prog_12_method_23_code (1 : Nat) (Option.none : Option Jvm.ClassFile.FieldType)) ∈ TB := zTB 1355 (by decide +kernel) (by decide +kernel)
theorem wd_1396 : (Jvm.Cond.methodLink "FoxBurrowsModel" (201 : Nat) ({ cls := "FoxBurrowsModel", name := "isForFox", desc := "(I)Z" } : Jvm.MethodName)) ∈ TB := zTB 1396 (by decide +kernel) (by decide +kernel)
theorem wd_1398 : (Jvm.Cond.instanceMethod ({ cls := "FoxBurrowsModel", name := "isForFox", desc := "(I)Z" } : Jvm.MethodName)) ∈ TB := zTB 1398 (by decide +kernel) (by decide +kernel)
theorem wd_1399 : (Jvm.Cond.code ({ cls := "FoxBurrowsModel", name := "isForFox", desc := "(I)Z" } : Jvm.MethodName) prog_12_method_57_code (2 : Nat) (Option.some Jvm.ClassFile.FieldType.boolean)) ∈ TB := zTB 1399 (by decide +kernel) (by decide +kernel)
theorem wd_1420 : (Jvm.Cond.methodLink "FoxBurrowsModel" (222 : Nat) ({ cls := "FoxBurrowsModel", name := "isCommand", desc := "()Z" } : Jvm.MethodName)) ∈ TB := zTB 1420 (by decide +kernel) (by decide +kernel)
theorem wd_1422 : (Jvm.Cond.instanceMethod ({ cls := "FoxBurrowsModel", name := "isCommand", desc := "()Z" } : Jvm.MethodName)) ∈ TB := zTB 1422 (by decide +kernel) (by decide +kernel)
theorem wd_1423 : (Jvm.Cond.code ({ cls := "FoxBurrowsModel", name := "isCommand", desc := "()Z" } : Jvm.MethodName) prog_12_method_65_code (1 : Nat) (Option.some Jvm.ClassFile.FieldType.boolean)) ∈ TB := zTB 1423 (by decide +kernel) (by decide +kernel)
theorem wd_1424 : (Jvm.Cond.methodLink "FoxBurrowsModel" (214 : Nat) ({ cls := "FoxBurrowsModel", name := "digits", desc := "(II)Z" } : Jvm.MethodName)) ∈ TB := zTB 1424 (by decide +kernel) (by decide +kernel)
theorem wd_1426 : (Jvm.Cond.instanceMethod ({ cls := "FoxBurrowsModel", name := "digits", desc := "(II)Z" } : Jvm.MethodName)) ∈ TB := zTB 1426 (by decide +kernel) (by decide +kernel)
theorem wd_1427 : (Jvm.Cond.code ({ cls := "FoxBurrowsModel", name := "digits", desc := "(II)Z" } : Jvm.MethodName) prog_12_method_64_code (4 : Nat) (Option.some Jvm.ClassFile.FieldType.boolean)) ∈ TB := zTB 1427 (by decide +kernel) (by decide +kernel)
theorem wd_1428 : (Jvm.Cond.methodLink "FoxBurrowsModel" (218 : Nat) ({ cls := "FoxBurrowsModel", name := "takes", desc := "(C)Z" } : Jvm.MethodName)) ∈ TB := zTB 1428 (by decide +kernel) (by decide +kernel)
theorem wd_1430 : (Jvm.Cond.instanceMethod ({ cls := "FoxBurrowsModel", name := "takes", desc := "(C)Z" } : Jvm.MethodName)) ∈ TB := zTB 1430 (by decide +kernel) (by decide +kernel)
theorem wd_1431 : (Jvm.Cond.code ({ cls := "FoxBurrowsModel", name := "takes", desc := "(C)Z" } : Jvm.MethodName) prog_12_method_63_code (2 : Nat) (Option.some Jvm.ClassFile.FieldType.boolean)) ∈ TB := zTB 1431 (by decide +kernel) (by decide +kernel)
theorem wd_1432 : (Jvm.Cond.methodLink "FoxBurrowsModel" (226 : Nat) ({ cls := "FoxBurrowsModel", name := "carries", desc := "()I" } : Jvm.MethodName)) ∈ TB := zTB 1432 (by decide +kernel) (by decide +kernel)
theorem wd_1434 : (Jvm.Cond.instanceMethod ({ cls := "FoxBurrowsModel", name := "carries", desc := "()I" } : Jvm.MethodName)) ∈ TB := zTB 1434 (by decide +kernel) (by decide +kernel)
theorem wd_1435 : (Jvm.Cond.code ({ cls := "FoxBurrowsModel", name := "carries", desc := "()I" } : Jvm.MethodName) prog_12_method_66_code (1 : Nat) (Option.some Jvm.ClassFile.FieldType.int)) ∈ TB := zTB 1435 (by decide +kernel) (by decide +kernel)
theorem wd_1460 : (Jvm.Cond.methodLink "FoxBurrowsModel" (232 : Nat) ({ cls := "FoxBurrowsModel", name := "positions", desc := "()I" } : Jvm.MethodName)) ∈ TB := zTB 1460 (by decide +kernel) (by decide +kernel)
theorem wd_1462 : (Jvm.Cond.instanceMethod ({ cls := "FoxBurrowsModel", name := "positions", desc := "()I" } : Jvm.MethodName)) ∈ TB := zTB 1462 (by decide +kernel) (by decide +kernel)
theorem wd_1463 : (Jvm.Cond.code ({ cls := "FoxBurrowsModel", name := "positions", desc := "()I" } : Jvm.MethodName) prog_12_method_72_code (3 : Nat) (Option.some Jvm.ClassFile.FieldType.int)) ∈ TB := zTB 1463 (by decide +kernel) (by decide +kernel)
theorem kd_0 : zkd 0 = 1 := rfl
theorem ln_0 : zln 0 = 0 := rfl
theorem kd_1 : zkd 1 = 2 := rfl
theorem ln_1 : zln 1 = 0 := rfl
theorem kd_2 : zkd 2 = 3 := rfl
theorem ln_2 : zln 2 = 0 := rfl
theorem kd_3 : zkd 3 = 5 := rfl
theorem ln_3 : zln 3 = 16 := rfl
theorem kd_4 : zkd 4 = 5 := rfl
theorem ln_4 : zln 4 = 16 := rfl
theorem kd_5 : zkd 5 = 5 := rfl
theorem ln_5 : zln 5 = 8 := rfl
theorem kd_6 : zkd 6 = 4 := rfl
theorem ln_6 : zln 6 = 0 := rfl
theorem kd_7 : zkd 7 = 5 := rfl
theorem ln_7 : zln 7 = 41 := rfl
theorem kd_8 : zkd 8 = 5 := rfl
theorem ln_8 : zln 8 = 40 := rfl
theorem kd_9 : zkd 9 = 2 := rfl
theorem ln_9 : zln 9 = 0 := rfl
theorem kd_10 : zkd 10 = 3 := rfl
theorem ln_10 : zln 10 = 0 := rfl
theorem kd_11 : zkd 11 = 5 := rfl
theorem ln_11 : zln 11 = 16 := rfl
theorem kd_12 : zkd 12 = 5 := rfl
theorem ln_12 : zln 12 = 16 := rfl
theorem kd_13 : zkd 13 = 5 := rfl
theorem ln_13 : zln 13 = 8 := rfl
theorem kd_14 : zkd 14 = 4 := rfl
theorem ln_14 : zln 14 = 0 := rfl
theorem kd_15 : zkd 15 = 5 := rfl
theorem ln_15 : zln 15 = 41 := rfl
theorem kd_16 : zkd 16 = 5 := rfl
theorem ln_16 : zln 16 = 40 := rfl
theorem kd_17 : zkd 17 = 2 := rfl
theorem ln_17 : zln 17 = 0 := rfl
theorem kd_18 : zkd 18 = 3 := rfl
theorem ln_18 : zln 18 = 0 := rfl
theorem kd_19 : zkd 19 = 5 := rfl
theorem ln_19 : zln 19 = 16 := rfl
theorem kd_20 : zkd 20 = 5 := rfl
theorem ln_20 : zln 20 = 16 := rfl
theorem kd_21 : zkd 21 = 5 := rfl
theorem ln_21 : zln 21 = 8 := rfl
theorem kd_22 : zkd 22 = 4 := rfl
theorem ln_22 : zln 22 = 0 := rfl
theorem kd_23 : zkd 23 = 5 := rfl
theorem ln_23 : zln 23 = 41 := rfl
theorem kd_24 : zkd 24 = 5 := rfl
theorem ln_24 : zln 24 = 40 := rfl
theorem kd_25 : zkd 25 = 7 := rfl
theorem ln_25 : zln 25 = 0 := rfl
theorem kd_26 : zkd 26 = 8 := rfl
theorem ln_26 : zln 26 = 8 := rfl
theorem kd_27 : zkd 27 = 2 := rfl
theorem ln_27 : zln 27 = 0 := rfl
theorem kd_28 : zkd 28 = 3 := rfl
theorem ln_28 : zln 28 = 0 := rfl
theorem kd_29 : zkd 29 = 5 := rfl
theorem ln_29 : zln 29 = 16 := rfl
theorem kd_30 : zkd 30 = 5 := rfl
theorem ln_30 : zln 30 = 16 := rfl
theorem kd_31 : zkd 31 = 5 := rfl
theorem ln_31 : zln 31 = 8 := rfl
theorem kd_32 : zkd 32 = 4 := rfl
theorem ln_32 : zln 32 = 0 := rfl
theorem kd_33 : zkd 33 = 5 := rfl
theorem ln_33 : zln 33 = 41 := rfl
theorem kd_34 : zkd 34 = 5 := rfl
theorem ln_34 : zln 34 = 40 := rfl
theorem kd_35 : zkd 35 = 2 := rfl
theorem ln_35 : zln 35 = 0 := rfl
theorem kd_36 : zkd 36 = 3 := rfl
theorem ln_36 : zln 36 = 0 := rfl
theorem kd_37 : zkd 37 = 5 := rfl
theorem ln_37 : zln 37 = 16 := rfl
theorem kd_38 : zkd 38 = 5 := rfl
theorem ln_38 : zln 38 = 16 := rfl
theorem kd_39 : zkd 39 = 5 := rfl
theorem ln_39 : zln 39 = 8 := rfl
theorem kd_40 : zkd 40 = 4 := rfl
theorem ln_40 : zln 40 = 0 := rfl
theorem kd_41 : zkd 41 = 5 := rfl
theorem ln_41 : zln 41 = 41 := rfl
theorem kd_42 : zkd 42 = 5 := rfl
theorem ln_42 : zln 42 = 40 := rfl
theorem kd_43 : zkd 43 = 2 := rfl
theorem ln_43 : zln 43 = 0 := rfl
theorem kd_44 : zkd 44 = 3 := rfl
theorem ln_44 : zln 44 = 0 := rfl
theorem kd_45 : zkd 45 = 5 := rfl
theorem ln_45 : zln 45 = 16 := rfl
theorem kd_46 : zkd 46 = 5 := rfl
theorem ln_46 : zln 46 = 16 := rfl
theorem kd_47 : zkd 47 = 5 := rfl
theorem ln_47 : zln 47 = 8 := rfl
theorem kd_48 : zkd 48 = 4 := rfl
theorem ln_48 : zln 48 = 0 := rfl
theorem kd_49 : zkd 49 = 5 := rfl
theorem ln_49 : zln 49 = 41 := rfl
theorem kd_50 : zkd 50 = 5 := rfl
theorem ln_50 : zln 50 = 40 := rfl
theorem kd_51 : zkd 51 = 2 := rfl
theorem ln_51 : zln 51 = 0 := rfl
theorem kd_52 : zkd 52 = 3 := rfl
theorem ln_52 : zln 52 = 0 := rfl
theorem kd_53 : zkd 53 = 5 := rfl
theorem ln_53 : zln 53 = 16 := rfl
theorem kd_54 : zkd 54 = 5 := rfl
theorem ln_54 : zln 54 = 16 := rfl
theorem kd_55 : zkd 55 = 5 := rfl
theorem ln_55 : zln 55 = 8 := rfl
theorem kd_56 : zkd 56 = 4 := rfl
theorem ln_56 : zln 56 = 0 := rfl
theorem kd_57 : zkd 57 = 5 := rfl
theorem ln_57 : zln 57 = 41 := rfl
theorem kd_58 : zkd 58 = 5 := rfl
theorem ln_58 : zln 58 = 40 := rfl
theorem kd_59 : zkd 59 = 2 := rfl
theorem ln_59 : zln 59 = 0 := rfl
theorem kd_60 : zkd 60 = 3 := rfl
theorem ln_60 : zln 60 = 0 := rfl
theorem kd_61 : zkd 61 = 5 := rfl
theorem ln_61 : zln 61 = 16 := rfl
theorem kd_62 : zkd 62 = 5 := rfl
theorem ln_62 : zln 62 = 16 := rfl
theorem kd_63 : zkd 63 = 5 := rfl
theorem ln_63 : zln 63 = 8 := rfl
theorem kd_64 : zkd 64 = 4 := rfl
theorem ln_64 : zln 64 = 0 := rfl
theorem kd_65 : zkd 65 = 5 := rfl
theorem ln_65 : zln 65 = 41 := rfl
theorem kd_66 : zkd 66 = 5 := rfl
theorem ln_66 : zln 66 = 40 := rfl
theorem kd_67 : zkd 67 = 2 := rfl
theorem ln_67 : zln 67 = 0 := rfl
theorem kd_68 : zkd 68 = 3 := rfl
theorem ln_68 : zln 68 = 0 := rfl
theorem kd_69 : zkd 69 = 5 := rfl
theorem ln_69 : zln 69 = 16 := rfl
theorem kd_70 : zkd 70 = 5 := rfl
theorem ln_70 : zln 70 = 16 := rfl
theorem kd_71 : zkd 71 = 5 := rfl
theorem ln_71 : zln 71 = 8 := rfl
theorem kd_72 : zkd 72 = 4 := rfl
theorem ln_72 : zln 72 = 0 := rfl
theorem kd_73 : zkd 73 = 5 := rfl
theorem ln_73 : zln 73 = 41 := rfl
theorem kd_74 : zkd 74 = 5 := rfl
theorem ln_74 : zln 74 = 40 := rfl
theorem kd_75 : zkd 75 = 2 := rfl
theorem ln_75 : zln 75 = 0 := rfl
theorem kd_76 : zkd 76 = 3 := rfl
theorem ln_76 : zln 76 = 0 := rfl
theorem kd_77 : zkd 77 = 5 := rfl
theorem ln_77 : zln 77 = 16 := rfl
theorem kd_78 : zkd 78 = 5 := rfl
theorem ln_78 : zln 78 = 16 := rfl
theorem kd_79 : zkd 79 = 5 := rfl
theorem ln_79 : zln 79 = 8 := rfl
theorem kd_80 : zkd 80 = 4 := rfl
theorem ln_80 : zln 80 = 0 := rfl
theorem kd_81 : zkd 81 = 5 := rfl
theorem ln_81 : zln 81 = 41 := rfl
theorem kd_82 : zkd 82 = 5 := rfl
theorem ln_82 : zln 82 = 40 := rfl
theorem kd_83 : zkd 83 = 2 := rfl
theorem ln_83 : zln 83 = 0 := rfl
theorem kd_84 : zkd 84 = 3 := rfl
theorem ln_84 : zln 84 = 0 := rfl
theorem kd_85 : zkd 85 = 5 := rfl
theorem ln_85 : zln 85 = 16 := rfl
theorem kd_86 : zkd 86 = 5 := rfl
theorem ln_86 : zln 86 = 16 := rfl
theorem kd_87 : zkd 87 = 5 := rfl
theorem ln_87 : zln 87 = 8 := rfl
theorem kd_88 : zkd 88 = 4 := rfl
theorem ln_88 : zln 88 = 0 := rfl
theorem kd_89 : zkd 89 = 5 := rfl
theorem ln_89 : zln 89 = 41 := rfl
theorem kd_90 : zkd 90 = 5 := rfl
theorem ln_90 : zln 90 = 40 := rfl
theorem kd_91 : zkd 91 = 3 := rfl
theorem ln_91 : zln 91 = 0 := rfl
theorem kd_92 : zkd 92 = 5 := rfl
theorem ln_92 : zln 92 = 16 := rfl
theorem kd_93 : zkd 93 = 5 := rfl
theorem ln_93 : zln 93 = 16 := rfl
theorem kd_94 : zkd 94 = 5 := rfl
theorem ln_94 : zln 94 = 8 := rfl
theorem kd_95 : zkd 95 = 9 := rfl
theorem ln_95 : zln 95 = 0 := rfl
theorem kd_96 : zkd 96 = 5 := rfl
theorem ln_96 : zln 96 = 336 := rfl
theorem kd_97 : zkd 97 = 5 := rfl
theorem ln_97 : zln 97 = 336 := rfl
theorem kd_98 : zkd 98 = 5 := rfl
theorem ln_98 : zln 98 = 1296 := rfl
theorem kd_99 : zkd 99 = 5 := rfl
theorem ln_99 : zln 99 = 1296 := rfl
theorem kd_100 : zkd 100 = 9 := rfl
theorem ln_100 : zln 100 = 0 := rfl
theorem kd_101 : zkd 101 = 5 := rfl
theorem ln_101 : zln 101 = 336 := rfl
theorem kd_102 : zkd 102 = 5 := rfl
theorem ln_102 : zln 102 = 336 := rfl
theorem kd_103 : zkd 103 = 5 := rfl
theorem ln_103 : zln 103 = 1296 := rfl
theorem kd_104 : zkd 104 = 5 := rfl
theorem ln_104 : zln 104 = 1296 := rfl
theorem kd_105 : zkd 105 = 10 := rfl
theorem ln_105 : zln 105 = 0 := rfl
theorem kd_106 : zkd 106 = 5 := rfl
theorem ln_106 : zln 106 = 336 := rfl
theorem kd_107 : zkd 107 = 5 := rfl
theorem ln_107 : zln 107 = 1296 := rfl
theorem kd_108 : zkd 108 = 11 := rfl
theorem ln_108 : zln 108 = 0 := rfl
theorem kd_109 : zkd 109 = 6 := rfl
theorem ln_109 : zln 109 = 160 := rfl
theorem kd_110 : zkd 110 = 11 := rfl
theorem ln_110 : zln 110 = 0 := rfl
theorem kd_111 : zkd 111 = 6 := rfl
theorem ln_111 : zln 111 = 160 := rfl
theorem kd_112 : zkd 112 = 12 := rfl
theorem ln_112 : zln 112 = 0 := rfl
theorem kd_113 : zkd 113 = 5 := rfl
theorem ln_113 : zln 113 = 30 := rfl
theorem kd_114 : zkd 114 = 5 := rfl
theorem ln_114 : zln 114 = 30 := rfl
theorem kd_115 : zkd 115 = 5 := rfl
theorem ln_115 : zln 115 = 30 := rfl
theorem kd_116 : zkd 116 = 13 := rfl
theorem ln_116 : zln 116 = 0 := rfl
theorem kd_117 : zkd 117 = 14 := rfl
theorem ln_117 : zln 117 = 0 := rfl
theorem kd_118 : zkd 118 = 15 := rfl
theorem ln_118 : zln 118 = 119 := rfl
theorem kd_119 : zkd 119 = 15 := rfl
theorem ln_119 : zln 119 = 119 := rfl
theorem kd_120 : zkd 120 = 15 := rfl
theorem ln_120 : zln 120 = 952 := rfl
theorem kd_121 : zkd 121 = 15 := rfl
theorem ln_121 : zln 121 = 119 := rfl
theorem kd_122 : zkd 122 = 16 := rfl
theorem ln_122 : zln 122 = 200 := rfl
theorem kd_123 : zkd 123 = 16 := rfl
theorem ln_123 : zln 123 = 60 := rfl
theorem kd_124 : zkd 124 = 15 := rfl
theorem ln_124 : zln 124 = 2 := rfl
theorem kd_125 : zkd 125 = 15 := rfl
theorem ln_125 : zln 125 = 8 := rfl
theorem kd_126 : zkd 126 = 15 := rfl
theorem ln_126 : zln 126 = 1296 := rfl
theorem kd_127 : zkd 127 = 15 := rfl
theorem ln_127 : zln 127 = 1296 := rfl
theorem kd_128 : zkd 128 = 15 := rfl
theorem ln_128 : zln 128 = 1296 := rfl
theorem kd_129 : zkd 129 = 15 := rfl
theorem ln_129 : zln 129 = 24 := rfl
theorem kd_130 : zkd 130 = 15 := rfl
theorem ln_130 : zln 130 = 24 := rfl
theorem kd_131 : zkd 131 = 17 := rfl
theorem ln_131 : zln 131 = 1 := rfl
theorem kd_132 : zkd 132 = 18 := rfl
theorem ln_132 : zln 132 = 1 := rfl
theorem zk2_1 {k : Nat} (h : zkd k = 2) : zkd (k + 1) = 3 := zAll (P := fun k => zkd k = 2 → zkd (k + 1) = 3) (by decide +kernel) h (by decide) h
theorem zk2_5 {k : Nat} (h : zkd k = 2) : zkd (k + 5) = 4 := zAll (P := fun k => zkd k = 2 → zkd (k + 5) = 4) (by decide +kernel) h (by decide) h
theorem zk3_1 {k : Nat} (h : zkd k = 3) : zkd (k + 1) = 5 := zAll (P := fun k => zkd k = 3 → zkd (k + 1) = 5) (by decide +kernel) h (by decide) h
theorem zl3_1 {k : Nat} (h : zkd k = 3) : zln (k + 1) = 16 := zAll (P := fun k => zkd k = 3 → zln (k + 1) = 16) (by decide +kernel) h (by decide) h
theorem zk3_2 {k : Nat} (h : zkd k = 3) : zkd (k + 2) = 5 := zAll (P := fun k => zkd k = 3 → zkd (k + 2) = 5) (by decide +kernel) h (by decide) h
theorem zl3_2 {k : Nat} (h : zkd k = 3) : zln (k + 2) = 16 := zAll (P := fun k => zkd k = 3 → zln (k + 2) = 16) (by decide +kernel) h (by decide) h
theorem zk3_3 {k : Nat} (h : zkd k = 3) : zkd (k + 3) = 5 := zAll (P := fun k => zkd k = 3 → zkd (k + 3) = 5) (by decide +kernel) h (by decide) h
theorem zl3_3 {k : Nat} (h : zkd k = 3) : zln (k + 3) = 8 := zAll (P := fun k => zkd k = 3 → zln (k + 3) = 8) (by decide +kernel) h (by decide) h
theorem zk4_1 {k : Nat} (h : zkd k = 4) : zkd (k + 1) = 5 := zAll (P := fun k => zkd k = 4 → zkd (k + 1) = 5) (by decide +kernel) h (by decide) h
theorem zl4_1 {k : Nat} (h : zkd k = 4) : zln (k + 1) = 41 := zAll (P := fun k => zkd k = 4 → zln (k + 1) = 41) (by decide +kernel) h (by decide) h
theorem zk4_2 {k : Nat} (h : zkd k = 4) : zkd (k + 2) = 5 := zAll (P := fun k => zkd k = 4 → zkd (k + 2) = 5) (by decide +kernel) h (by decide) h
theorem zl4_2 {k : Nat} (h : zkd k = 4) : zln (k + 2) = 40 := zAll (P := fun k => zkd k = 4 → zln (k + 2) = 40) (by decide +kernel) h (by decide) h
theorem zk7_1 {k : Nat} (h : zkd k = 7) : zkd (k + 1) = 8 := zAll (P := fun k => zkd k = 7 → zkd (k + 1) = 8) (by decide +kernel) h (by decide) h
theorem zk9_1 {k : Nat} (h : zkd k = 9) : zkd (k + 1) = 5 := zAll (P := fun k => zkd k = 9 → zkd (k + 1) = 5) (by decide +kernel) h (by decide) h
theorem zl9_1 {k : Nat} (h : zkd k = 9) : zln (k + 1) = 336 := zAll (P := fun k => zkd k = 9 → zln (k + 1) = 336) (by decide +kernel) h (by decide) h
theorem zk9_2 {k : Nat} (h : zkd k = 9) : zkd (k + 2) = 5 := zAll (P := fun k => zkd k = 9 → zkd (k + 2) = 5) (by decide +kernel) h (by decide) h
theorem zl9_2 {k : Nat} (h : zkd k = 9) : zln (k + 2) = 336 := zAll (P := fun k => zkd k = 9 → zln (k + 2) = 336) (by decide +kernel) h (by decide) h
theorem zk9_3 {k : Nat} (h : zkd k = 9) : zkd (k + 3) = 5 := zAll (P := fun k => zkd k = 9 → zkd (k + 3) = 5) (by decide +kernel) h (by decide) h
theorem zl9_3 {k : Nat} (h : zkd k = 9) : zln (k + 3) = 1296 := zAll (P := fun k => zkd k = 9 → zln (k + 3) = 1296) (by decide +kernel) h (by decide) h
theorem zk9_4 {k : Nat} (h : zkd k = 9) : zkd (k + 4) = 5 := zAll (P := fun k => zkd k = 9 → zkd (k + 4) = 5) (by decide +kernel) h (by decide) h
theorem zl9_4 {k : Nat} (h : zkd k = 9) : zln (k + 4) = 1296 := zAll (P := fun k => zkd k = 9 → zln (k + 4) = 1296) (by decide +kernel) h (by decide) h
theorem zk10_1 {k : Nat} (h : zkd k = 10) : zkd (k + 1) = 5 := zAll (P := fun k => zkd k = 10 → zkd (k + 1) = 5) (by decide +kernel) h (by decide) h
theorem zk10_2 {k : Nat} (h : zkd k = 10) : zkd (k + 2) = 5 := zAll (P := fun k => zkd k = 10 → zkd (k + 2) = 5) (by decide +kernel) h (by decide) h
theorem zk11_1 {k : Nat} (h : zkd k = 11) : zkd (k + 1) = 6 := zAll (P := fun k => zkd k = 11 → zkd (k + 1) = 6) (by decide +kernel) h (by decide) h
theorem zl11_1 {k : Nat} (h : zkd k = 11) : zln (k + 1) = 160 := zAll (P := fun k => zkd k = 11 → zln (k + 1) = 160) (by decide +kernel) h (by decide) h
theorem zk12_1 {k : Nat} (h : zkd k = 12) : zkd (k + 1) = 5 := zAll (P := fun k => zkd k = 12 → zkd (k + 1) = 5) (by decide +kernel) h (by decide) h
theorem zk12_2 {k : Nat} (h : zkd k = 12) : zkd (k + 2) = 5 := zAll (P := fun k => zkd k = 12 → zkd (k + 2) = 5) (by decide +kernel) h (by decide) h
theorem zk12_3 {k : Nat} (h : zkd k = 12) : zkd (k + 3) = 5 := zAll (P := fun k => zkd k = 12 → zkd (k + 3) = 5) (by decide +kernel) h (by decide) h
theorem iX0 : ∀ w ∈ u_ws RX0 TX0 3, w ∈ TB := fun w hw => by
  have h := List.all_eq_true.mp (show (u_ws RX0 TX0 3).all (fun w => decide (w ∈ lw_tbl) && goodWord w) = true by decide +kernel) w hw
  simp only [Bool.and_eq_true, decide_eq_true_eq] at h
  exact List.mem_filter.mpr h
theorem iX1 : ∀ w ∈ u_ws RX1 TX1 8, w ∈ TB := fun w hw => by
  have h := List.all_eq_true.mp (show (u_ws RX1 TX1 8).all (fun w => decide (w ∈ lw_tbl) && goodWord w) = true by decide +kernel) w hw
  simp only [Bool.and_eq_true, decide_eq_true_eq] at h
  exact List.mem_filter.mpr h
theorem iX2 : ∀ w ∈ u_ws RX2 TX2 4, w ∈ TB := fun w hw => by
  have h := List.all_eq_true.mp (show (u_ws RX2 TX2 4).all (fun w => decide (w ∈ lw_tbl) && goodWord w) = true by decide +kernel) w hw
  simp only [Bool.and_eq_true, decide_eq_true_eq] at h
  exact List.mem_filter.mpr h
theorem iX3 : ∀ w ∈ u_ws RX3 TX3 5, w ∈ TB := fun w hw => by
  have h := List.all_eq_true.mp (show (u_ws RX3 TX3 5).all (fun w => decide (w ∈ lw_tbl) && goodWord w) = true by decide +kernel) w hw
  simp only [Bool.and_eq_true, decide_eq_true_eq] at h
  exact List.mem_filter.mpr h
theorem iX4 : ∀ w ∈ u_ws RX4 TX4 4, w ∈ TB := fun w hw => by
  have h := List.all_eq_true.mp (show (u_ws RX4 TX4 4).all (fun w => decide (w ∈ lw_tbl) && goodWord w) = true by decide +kernel) w hw
  simp only [Bool.and_eq_true, decide_eq_true_eq] at h
  exact List.mem_filter.mpr h
theorem iX5 : ∀ w ∈ u_ws RX5 TX5 3, w ∈ TB := fun w hw => by
  have h := List.all_eq_true.mp (show (u_ws RX5 TX5 3).all (fun w => decide (w ∈ lw_tbl) && goodWord w) = true by decide +kernel) w hw
  simp only [Bool.and_eq_true, decide_eq_true_eq] at h
  exact List.mem_filter.mpr h
theorem iX6 : ∀ w ∈ u_ws RX6 TX6 3, w ∈ TB := fun w hw => by
  have h := List.all_eq_true.mp (show (u_ws RX6 TX6 3).all (fun w => decide (w ∈ lw_tbl) && goodWord w) = true by decide +kernel) w hw
  simp only [Bool.and_eq_true, decide_eq_true_eq] at h
  exact List.mem_filter.mpr h
theorem iX7 : ∀ w ∈ u_ws RX7 TX7 6, w ∈ TB := fun w hw => by
  have h := List.all_eq_true.mp (show (u_ws RX7 TX7 6).all (fun w => decide (w ∈ lw_tbl) && goodWord w) = true by decide +kernel) w hw
  simp only [Bool.and_eq_true, decide_eq_true_eq] at h
  exact List.mem_filter.mpr h
theorem iX8 : ∀ w ∈ u_ws RX8 TX8 2, w ∈ TB := fun w hw => by
  have h := List.all_eq_true.mp (show (u_ws RX8 TX8 2).all (fun w => decide (w ∈ lw_tbl) && goodWord w) = true by decide +kernel) w hw
  simp only [Bool.and_eq_true, decide_eq_true_eq] at h
  exact List.mem_filter.mpr h
theorem iX9 : ∀ w ∈ u_ws RX9 TX9 16, w ∈ TB := fun w hw => by
  have h := List.all_eq_true.mp (show (u_ws RX9 TX9 16).all (fun w => decide (w ∈ lw_tbl) && goodWord w) = true by decide +kernel) w hw
  simp only [Bool.and_eq_true, decide_eq_true_eq] at h
  exact List.mem_filter.mpr h
theorem iX10 : ∀ w ∈ u_ws RX10 TX10 26, w ∈ TB := fun w hw => by
  have h := List.all_eq_true.mp (show (u_ws RX10 TX10 26).all (fun w => decide (w ∈ lw_tbl) && goodWord w) = true by decide +kernel) w hw
  simp only [Bool.and_eq_true, decide_eq_true_eq] at h
  exact List.mem_filter.mpr h
theorem zHat {L : List Cond} (h : L.all (fun w => decide (w ∈ lw_tbl) && (goodWord w || zIsN w)) = true) : ∀ w ∈ L, w ∈ TB ∨ w ∈ TN := fun w hw => by
  have h1 := List.all_eq_true.mp h w hw
  simp only [Bool.and_eq_true, decide_eq_true_eq, Bool.or_eq_true] at h1
  rcases h1 with ⟨a, b | b⟩
  · exact Or.inl (List.mem_filter.mpr ⟨a, b⟩)
  · exact Or.inr (List.mem_filter.mpr ⟨a, b⟩)
theorem fit_UnsupportedOperationException : Bundle.fit "java/lang/UnsupportedOperationException" = true := by decide +kernel
theorem fit_IllegalArgumentException : Bundle.fit "java/lang/IllegalArgumentException" = true := by decide +kernel
theorem fit_IllegalStateException : Bundle.fit "java/lang/IllegalStateException" = true := by decide +kernel
theorem fit_IndexOutOfBoundsException : Bundle.fit "java/lang/IndexOutOfBoundsException" = true := by decide +kernel
theorem fit_ArithmeticException : Bundle.fit "java/lang/ArithmeticException" = true := by decide +kernel
theorem fit_NoSuchElementException : Bundle.fit "java/util/NoSuchElementException" = true := by decide +kernel
theorem fit_names : ∀ n ∈ ["java/lang/RuntimeException", "java/lang/Exception"], Bundle.fit n = true := by decide +kernel
theorem hat_ArithmeticException_314 : ∀ w ∈ vx_atS RX9 314 "java/lang/ArithmeticException" ["java/lang/RuntimeException", "java/lang/Exception"], w ∈ TB ∨ w ∈ TN := zHat (by decide +kernel)
theorem hgd_ArithmeticException_314_310 : ∀ w ∈ Cond.classLink RX9 310 "java/lang/ArithmeticException" :: Cond.initialized "java/lang/ArithmeticException" :: vx_atS RX9 314 "java/lang/ArithmeticException" ["java/lang/RuntimeException", "java/lang/Exception"], vx_ot w = true := fun w hw => List.all_eq_true.mp (by decide +kernel) w hw
theorem hat_IllegalArgumentException_155 : ∀ w ∈ vx_atS RX9 155 "java/lang/IllegalArgumentException" ["java/lang/RuntimeException", "java/lang/Exception"], w ∈ TB ∨ w ∈ TN := zHat (by decide +kernel)
theorem hgd_IllegalArgumentException_155_151 : ∀ w ∈ Cond.classLink RX9 151 "java/lang/IllegalArgumentException" :: Cond.initialized "java/lang/IllegalArgumentException" :: vx_atS RX9 155 "java/lang/IllegalArgumentException" ["java/lang/RuntimeException", "java/lang/Exception"], vx_ot w = true := fun w hw => List.all_eq_true.mp (by decide +kernel) w hw
theorem hat_IllegalStateException_343 : ∀ w ∈ vx_atS RX9 343 "java/lang/IllegalStateException" ["java/lang/RuntimeException", "java/lang/Exception"], w ∈ TB ∨ w ∈ TN := zHat (by decide +kernel)
theorem hgd_IllegalStateException_343_339 : ∀ w ∈ Cond.classLink RX9 339 "java/lang/IllegalStateException" :: Cond.initialized "java/lang/IllegalStateException" :: vx_atS RX9 343 "java/lang/IllegalStateException" ["java/lang/RuntimeException", "java/lang/Exception"], vx_ot w = true := fun w hw => List.all_eq_true.mp (by decide +kernel) w hw
theorem hat_IndexOutOfBoundsException_249 : ∀ w ∈ vx_atS RX9 249 "java/lang/IndexOutOfBoundsException" ["java/lang/RuntimeException", "java/lang/Exception"], w ∈ TB ∨ w ∈ TN := zHat (by decide +kernel)
theorem hgd_IndexOutOfBoundsException_249_245 : ∀ w ∈ Cond.classLink RX9 245 "java/lang/IndexOutOfBoundsException" :: Cond.initialized "java/lang/IndexOutOfBoundsException" :: vx_atS RX9 249 "java/lang/IndexOutOfBoundsException" ["java/lang/RuntimeException", "java/lang/Exception"], vx_ot w = true := fun w hw => List.all_eq_true.mp (by decide +kernel) w hw
theorem hat_NoSuchElementException_132 : ∀ w ∈ zAtN RX9 132, w ∈ TB ∨ w ∈ TN := zHat (by decide +kernel)
theorem hgd_NoSuchElementException_132_128 : ∀ w ∈ Cond.classLink RX9 128 "java/util/NoSuchElementException" :: Cond.initialized "java/util/NoSuchElementException" :: zAtN RX9 132, vx_ot w = true := fun w hw => List.all_eq_true.mp (by decide +kernel) w hw
theorem hat_UnsupportedOperationException_437 : ∀ w ∈ vx_atS RX9 437 "java/lang/UnsupportedOperationException" ["java/lang/RuntimeException", "java/lang/Exception"], w ∈ TB ∨ w ∈ TN := zHat (by decide +kernel)
theorem hgd_UnsupportedOperationException_437_433 : ∀ w ∈ Cond.classLink RX9 433 "java/lang/UnsupportedOperationException" :: Cond.initialized "java/lang/UnsupportedOperationException" :: vx_atS RX9 437 "java/lang/UnsupportedOperationException" ["java/lang/RuntimeException", "java/lang/Exception"], vx_ot w = true := fun w hw => List.all_eq_true.mp (by decide +kernel) w hw
theorem hz_J13_bitCount_95d88 : (yJ13_bitCount_95d88.cls ≠ "java/lang/invoke/MethodHandle" ∧ yJ13_bitCount_95d88.cls ≠ "java/lang/invoke/VarHandle" ∧ (parseMethodDescriptor yJ13_bitCount_95d88.desc).map (fun d => d.parameters.length) = some 1) := ⟨by decide +kernel, by decide +kernel, by decide +kernel⟩
theorem hy_J13_bitCount_95d88 : yJ13_bitCount_95d88.cls = RJ13 ∧ (yJ13_bitCount_95d88.cls ≠ "java/lang/invoke/MethodHandle" ∧ yJ13_bitCount_95d88.cls ≠ "java/lang/invoke/VarHandle" ∧ (parseMethodDescriptor yJ13_bitCount_95d88.desc).map (fun d => d.parameters.length) = some 1) := ⟨rfl, hz_J13_bitCount_95d88⟩
theorem hz_J6_bitCount_0f7a4 : (yJ6_bitCount_0f7a4.cls ≠ "java/lang/invoke/MethodHandle" ∧ yJ6_bitCount_0f7a4.cls ≠ "java/lang/invoke/VarHandle" ∧ (parseMethodDescriptor yJ6_bitCount_0f7a4.desc).map (fun d => d.parameters.length) = some 1) := ⟨by decide +kernel, by decide +kernel, by decide +kernel⟩
theorem hy_J6_bitCount_0f7a4 : yJ6_bitCount_0f7a4.cls = RJ6 ∧ (yJ6_bitCount_0f7a4.cls ≠ "java/lang/invoke/MethodHandle" ∧ yJ6_bitCount_0f7a4.cls ≠ "java/lang/invoke/VarHandle" ∧ (parseMethodDescriptor yJ6_bitCount_0f7a4.desc).map (fun d => d.parameters.length) = some 1) := ⟨rfl, hz_J6_bitCount_0f7a4⟩
theorem hz_X0_keep : (yX0_keep.cls ≠ "java/lang/invoke/MethodHandle" ∧ yX0_keep.cls ≠ "java/lang/invoke/VarHandle" ∧ (parseMethodDescriptor yX0_keep.desc).map (fun d => d.parameters.length) = some 1) := ⟨by decide +kernel, by decide +kernel, by decide +kernel⟩
theorem hy_X0_keep : yX0_keep.cls = RX0 ∧ (yX0_keep.cls ≠ "java/lang/invoke/MethodHandle" ∧ yX0_keep.cls ≠ "java/lang/invoke/VarHandle" ∧ (parseMethodDescriptor yX0_keep.desc).map (fun d => d.parameters.length) = some 1) := ⟨rfl, hz_X0_keep⟩
theorem hz_X0_placeAt : (yX0_placeAt.cls ≠ "java/lang/invoke/MethodHandle" ∧ yX0_placeAt.cls ≠ "java/lang/invoke/VarHandle" ∧ (parseMethodDescriptor yX0_placeAt.desc).map (fun d => d.parameters.length) = some 1) := ⟨by decide +kernel, by decide +kernel, by decide +kernel⟩
theorem hy_X0_placeAt : yX0_placeAt.cls = RX0 ∧ (yX0_placeAt.cls ≠ "java/lang/invoke/MethodHandle" ∧ yX0_placeAt.cls ≠ "java/lang/invoke/VarHandle" ∧ (parseMethodDescriptor yX0_placeAt.desc).map (fun d => d.parameters.length) = some 1) := ⟨rfl, hz_X0_placeAt⟩
theorem hz_X0_takeInto : (yX0_takeInto.cls ≠ "java/lang/invoke/MethodHandle" ∧ yX0_takeInto.cls ≠ "java/lang/invoke/VarHandle" ∧ (parseMethodDescriptor yX0_takeInto.desc).map (fun d => d.parameters.length) = some 1) := ⟨by decide +kernel, by decide +kernel, by decide +kernel⟩
theorem hy_X0_takeInto : yX0_takeInto.cls = RX0 ∧ (yX0_takeInto.cls ≠ "java/lang/invoke/MethodHandle" ∧ yX0_takeInto.cls ≠ "java/lang/invoke/VarHandle" ∧ (parseMethodDescriptor yX0_takeInto.desc).map (fun d => d.parameters.length) = some 1) := ⟨rfl, hz_X0_takeInto⟩
theorem hz_X10_begins : (yX10_begins.cls ≠ "java/lang/invoke/MethodHandle" ∧ yX10_begins.cls ≠ "java/lang/invoke/VarHandle" ∧ (parseMethodDescriptor yX10_begins.desc).map (fun d => d.parameters.length) = some 1) := ⟨by decide +kernel, by decide +kernel, by decide +kernel⟩
theorem hy_X10_begins : yX10_begins.cls = RX10 ∧ (yX10_begins.cls ≠ "java/lang/invoke/MethodHandle" ∧ yX10_begins.cls ≠ "java/lang/invoke/VarHandle" ∧ (parseMethodDescriptor yX10_begins.desc).map (fun d => d.parameters.length) = some 1) := ⟨rfl, hz_X10_begins⟩
theorem hz_X10_behind : (yX10_behind.cls ≠ "java/lang/invoke/MethodHandle" ∧ yX10_behind.cls ≠ "java/lang/invoke/VarHandle" ∧ (parseMethodDescriptor yX10_behind.desc).map (fun d => d.parameters.length) = some 3) := ⟨by decide +kernel, by decide +kernel, by decide +kernel⟩
theorem hy_X10_behind : yX10_behind.cls = RX10 ∧ (yX10_behind.cls ≠ "java/lang/invoke/MethodHandle" ∧ yX10_behind.cls ≠ "java/lang/invoke/VarHandle" ∧ (parseMethodDescriptor yX10_behind.desc).map (fun d => d.parameters.length) = some 3) := ⟨rfl, hz_X10_behind⟩
theorem hz_X10_bestPlace : (yX10_bestPlace.cls ≠ "java/lang/invoke/MethodHandle" ∧ yX10_bestPlace.cls ≠ "java/lang/invoke/VarHandle" ∧ (parseMethodDescriptor yX10_bestPlace.desc).map (fun d => d.parameters.length) = some 1) := ⟨by decide +kernel, by decide +kernel, by decide +kernel⟩
theorem hy_X10_bestPlace : yX10_bestPlace.cls = RX10 ∧ (yX10_bestPlace.cls ≠ "java/lang/invoke/MethodHandle" ∧ yX10_bestPlace.cls ≠ "java/lang/invoke/VarHandle" ∧ (parseMethodDescriptor yX10_bestPlace.desc).map (fun d => d.parameters.length) = some 1) := ⟨rfl, hz_X10_bestPlace⟩
theorem hz_X10_carries : (yX10_carries.cls ≠ "java/lang/invoke/MethodHandle" ∧ yX10_carries.cls ≠ "java/lang/invoke/VarHandle" ∧ (parseMethodDescriptor yX10_carries.desc).map (fun d => d.parameters.length) = some 0) := ⟨by decide +kernel, by decide +kernel, by decide +kernel⟩
theorem hy_X10_carries : yX10_carries.cls = RX10 ∧ (yX10_carries.cls ≠ "java/lang/invoke/MethodHandle" ∧ yX10_carries.cls ≠ "java/lang/invoke/VarHandle" ∧ (parseMethodDescriptor yX10_carries.desc).map (fun d => d.parameters.length) = some 0) := ⟨rfl, hz_X10_carries⟩
theorem hz_X10_comes : (yX10_comes.cls ≠ "java/lang/invoke/MethodHandle" ∧ yX10_comes.cls ≠ "java/lang/invoke/VarHandle" ∧ (parseMethodDescriptor yX10_comes.desc).map (fun d => d.parameters.length) = some 2) := ⟨by decide +kernel, by decide +kernel, by decide +kernel⟩
theorem hy_X10_comes : yX10_comes.cls = RX10 ∧ (yX10_comes.cls ≠ "java/lang/invoke/MethodHandle" ∧ yX10_comes.cls ≠ "java/lang/invoke/VarHandle" ∧ (parseMethodDescriptor yX10_comes.desc).map (fun d => d.parameters.length) = some 2) := ⟨rfl, hz_X10_comes⟩
theorem hz_X10_digits : (yX10_digits.cls ≠ "java/lang/invoke/MethodHandle" ∧ yX10_digits.cls ≠ "java/lang/invoke/VarHandle" ∧ (parseMethodDescriptor yX10_digits.desc).map (fun d => d.parameters.length) = some 2) := ⟨by decide +kernel, by decide +kernel, by decide +kernel⟩
theorem hy_X10_digits : yX10_digits.cls = RX10 ∧ (yX10_digits.cls ≠ "java/lang/invoke/MethodHandle" ∧ yX10_digits.cls ≠ "java/lang/invoke/VarHandle" ∧ (parseMethodDescriptor yX10_digits.desc).map (fun d => d.parameters.length) = some 2) := ⟨rfl, hz_X10_digits⟩
theorem hz_X10_digs : (yX10_digs.cls ≠ "java/lang/invoke/MethodHandle" ∧ yX10_digs.cls ≠ "java/lang/invoke/VarHandle" ∧ (parseMethodDescriptor yX10_digs.desc).map (fun d => d.parameters.length) = some 0) := ⟨by decide +kernel, by decide +kernel, by decide +kernel⟩
theorem hy_X10_digs : yX10_digs.cls = RX10 ∧ (yX10_digs.cls ≠ "java/lang/invoke/MethodHandle" ∧ yX10_digs.cls ≠ "java/lang/invoke/VarHandle" ∧ (parseMethodDescriptor yX10_digs.desc).map (fun d => d.parameters.length) = some 0) := ⟨rfl, hz_X10_digs⟩
theorem hz_X10_endsGame : (yX10_endsGame.cls ≠ "java/lang/invoke/MethodHandle" ∧ yX10_endsGame.cls ≠ "java/lang/invoke/VarHandle" ∧ (parseMethodDescriptor yX10_endsGame.desc).map (fun d => d.parameters.length) = some 0) := ⟨by decide +kernel, by decide +kernel, by decide +kernel⟩
theorem hy_X10_endsGame : yX10_endsGame.cls = RX10 ∧ (yX10_endsGame.cls ≠ "java/lang/invoke/MethodHandle" ∧ yX10_endsGame.cls ≠ "java/lang/invoke/VarHandle" ∧ (parseMethodDescriptor yX10_endsGame.desc).map (fun d => d.parameters.length) = some 0) := ⟨rfl, hz_X10_endsGame⟩
theorem hz_X10_finds : (yX10_finds.cls ≠ "java/lang/invoke/MethodHandle" ∧ yX10_finds.cls ≠ "java/lang/invoke/VarHandle" ∧ (parseMethodDescriptor yX10_finds.desc).map (fun d => d.parameters.length) = some 1) := ⟨by decide +kernel, by decide +kernel, by decide +kernel⟩
theorem hy_X10_finds : yX10_finds.cls = RX10 ∧ (yX10_finds.cls ≠ "java/lang/invoke/MethodHandle" ∧ yX10_finds.cls ≠ "java/lang/invoke/VarHandle" ∧ (parseMethodDescriptor yX10_finds.desc).map (fun d => d.parameters.length) = some 1) := ⟨rfl, hz_X10_finds⟩
theorem hz_X10_first : (yX10_first.cls ≠ "java/lang/invoke/MethodHandle" ∧ yX10_first.cls ≠ "java/lang/invoke/VarHandle" ∧ (parseMethodDescriptor yX10_first.desc).map (fun d => d.parameters.length) = some 1) := ⟨by decide +kernel, by decide +kernel, by decide +kernel⟩
theorem hy_X10_first : yX10_first.cls = RX10 ∧ (yX10_first.cls ≠ "java/lang/invoke/MethodHandle" ∧ yX10_first.cls ≠ "java/lang/invoke/VarHandle" ∧ (parseMethodDescriptor yX10_first.desc).map (fun d => d.parameters.length) = some 1) := ⟨rfl, hz_X10_first⟩
theorem hz_X10_flocks : (yX10_flocks.cls ≠ "java/lang/invoke/MethodHandle" ∧ yX10_flocks.cls ≠ "java/lang/invoke/VarHandle" ∧ (parseMethodDescriptor yX10_flocks.desc).map (fun d => d.parameters.length) = some 1) := ⟨by decide +kernel, by decide +kernel, by decide +kernel⟩
theorem hy_X10_flocks : yX10_flocks.cls = RX10 ∧ (yX10_flocks.cls ≠ "java/lang/invoke/MethodHandle" ∧ yX10_flocks.cls ≠ "java/lang/invoke/VarHandle" ∧ (parseMethodDescriptor yX10_flocks.desc).map (fun d => d.parameters.length) = some 1) := ⟨rfl, hz_X10_flocks⟩
theorem hz_X10_fox : (yX10_fox.cls ≠ "java/lang/invoke/MethodHandle" ∧ yX10_fox.cls ≠ "java/lang/invoke/VarHandle" ∧ (parseMethodDescriptor yX10_fox.desc).map (fun d => d.parameters.length) = some 1) := ⟨by decide +kernel, by decide +kernel, by decide +kernel⟩
theorem hy_X10_fox : yX10_fox.cls = RX10 ∧ (yX10_fox.cls ≠ "java/lang/invoke/MethodHandle" ∧ yX10_fox.cls ≠ "java/lang/invoke/VarHandle" ∧ (parseMethodDescriptor yX10_fox.desc).map (fun d => d.parameters.length) = some 1) := ⟨rfl, hz_X10_fox⟩
theorem hz_X10_goes : (yX10_goes.cls ≠ "java/lang/invoke/MethodHandle" ∧ yX10_goes.cls ≠ "java/lang/invoke/VarHandle" ∧ (parseMethodDescriptor yX10_goes.desc).map (fun d => d.parameters.length) = some 2) := ⟨by decide +kernel, by decide +kernel, by decide +kernel⟩
theorem hy_X10_goes : yX10_goes.cls = RX10 ∧ (yX10_goes.cls ≠ "java/lang/invoke/MethodHandle" ∧ yX10_goes.cls ≠ "java/lang/invoke/VarHandle" ∧ (parseMethodDescriptor yX10_goes.desc).map (fun d => d.parameters.length) = some 2) := ⟨rfl, hz_X10_goes⟩
theorem hz_X10_grows : (yX10_grows.cls ≠ "java/lang/invoke/MethodHandle" ∧ yX10_grows.cls ≠ "java/lang/invoke/VarHandle" ∧ (parseMethodDescriptor yX10_grows.desc).map (fun d => d.parameters.length) = some 2) := ⟨by decide +kernel, by decide +kernel, by decide +kernel⟩
theorem hy_X10_grows : yX10_grows.cls = RX10 ∧ (yX10_grows.cls ≠ "java/lang/invoke/MethodHandle" ∧ yX10_grows.cls ≠ "java/lang/invoke/VarHandle" ∧ (parseMethodDescriptor yX10_grows.desc).map (fun d => d.parameters.length) = some 2) := ⟨rfl, hz_X10_grows⟩
theorem hz_X10_in : (yX10_in.cls ≠ "java/lang/invoke/MethodHandle" ∧ yX10_in.cls ≠ "java/lang/invoke/VarHandle" ∧ (parseMethodDescriptor yX10_in.desc).map (fun d => d.parameters.length) = some 3) := ⟨by decide +kernel, by decide +kernel, by decide +kernel⟩
theorem hy_X10_in : yX10_in.cls = RX10 ∧ (yX10_in.cls ≠ "java/lang/invoke/MethodHandle" ∧ yX10_in.cls ≠ "java/lang/invoke/VarHandle" ∧ (parseMethodDescriptor yX10_in.desc).map (fun d => d.parameters.length) = some 3) := ⟨rfl, hz_X10_in⟩
theorem hz_X10_is : (yX10_is.cls ≠ "java/lang/invoke/MethodHandle" ∧ yX10_is.cls ≠ "java/lang/invoke/VarHandle" ∧ (parseMethodDescriptor yX10_is.desc).map (fun d => d.parameters.length) = some 3) := ⟨by decide +kernel, by decide +kernel, by decide +kernel⟩
theorem hy_X10_is : yX10_is.cls = RX10 ∧ (yX10_is.cls ≠ "java/lang/invoke/MethodHandle" ∧ yX10_is.cls ≠ "java/lang/invoke/VarHandle" ∧ (parseMethodDescriptor yX10_is.desc).map (fun d => d.parameters.length) = some 3) := ⟨rfl, hz_X10_is⟩
theorem hz_X10_isBurrow : (yX10_isBurrow.cls ≠ "java/lang/invoke/MethodHandle" ∧ yX10_isBurrow.cls ≠ "java/lang/invoke/VarHandle" ∧ (parseMethodDescriptor yX10_isBurrow.desc).map (fun d => d.parameters.length) = some 1) := ⟨by decide +kernel, by decide +kernel, by decide +kernel⟩
theorem hy_X10_isBurrow : yX10_isBurrow.cls = RX10 ∧ (yX10_isBurrow.cls ≠ "java/lang/invoke/MethodHandle" ∧ yX10_isBurrow.cls ≠ "java/lang/invoke/VarHandle" ∧ (parseMethodDescriptor yX10_isBurrow.desc).map (fun d => d.parameters.length) = some 1) := ⟨rfl, hz_X10_isBurrow⟩
theorem hz_X10_isCommand : (yX10_isCommand.cls ≠ "java/lang/invoke/MethodHandle" ∧ yX10_isCommand.cls ≠ "java/lang/invoke/VarHandle" ∧ (parseMethodDescriptor yX10_isCommand.desc).map (fun d => d.parameters.length) = some 0) := ⟨by decide +kernel, by decide +kernel, by decide +kernel⟩
theorem hy_X10_isCommand : yX10_isCommand.cls = RX10 ∧ (yX10_isCommand.cls ≠ "java/lang/invoke/MethodHandle" ∧ yX10_isCommand.cls ≠ "java/lang/invoke/VarHandle" ∧ (parseMethodDescriptor yX10_isCommand.desc).map (fun d => d.parameters.length) = some 0) := ⟨rfl, hz_X10_isCommand⟩
theorem hz_X10_isForFox : (yX10_isForFox.cls ≠ "java/lang/invoke/MethodHandle" ∧ yX10_isForFox.cls ≠ "java/lang/invoke/VarHandle" ∧ (parseMethodDescriptor yX10_isForFox.desc).map (fun d => d.parameters.length) = some 1) := ⟨by decide +kernel, by decide +kernel, by decide +kernel⟩
theorem hy_X10_isForFox : yX10_isForFox.cls = RX10 ∧ (yX10_isForFox.cls ≠ "java/lang/invoke/MethodHandle" ∧ yX10_isForFox.cls ≠ "java/lang/invoke/VarHandle" ∧ (parseMethodDescriptor yX10_isForFox.desc).map (fun d => d.parameters.length) = some 1) := ⟨rfl, hz_X10_isForFox⟩
theorem hz_X10_isGeese : (yX10_isGeese.cls ≠ "java/lang/invoke/MethodHandle" ∧ yX10_isGeese.cls ≠ "java/lang/invoke/VarHandle" ∧ (parseMethodDescriptor yX10_isGeese.desc).map (fun d => d.parameters.length) = some 1) := ⟨by decide +kernel, by decide +kernel, by decide +kernel⟩
theorem hy_X10_isGeese : yX10_isGeese.cls = RX10 ∧ (yX10_isGeese.cls ≠ "java/lang/invoke/MethodHandle" ∧ yX10_isGeese.cls ≠ "java/lang/invoke/VarHandle" ∧ (parseMethodDescriptor yX10_isGeese.desc).map (fun d => d.parameters.length) = some 1) := ⟨rfl, hz_X10_isGeese⟩
theorem hz_X10_isPosition : (yX10_isPosition.cls ≠ "java/lang/invoke/MethodHandle" ∧ yX10_isPosition.cls ≠ "java/lang/invoke/VarHandle" ∧ (parseMethodDescriptor yX10_isPosition.desc).map (fun d => d.parameters.length) = some 1) := ⟨by decide +kernel, by decide +kernel, by decide +kernel⟩
theorem hy_X10_isPosition : yX10_isPosition.cls = RX10 ∧ (yX10_isPosition.cls ≠ "java/lang/invoke/MethodHandle" ∧ yX10_isPosition.cls ≠ "java/lang/invoke/VarHandle" ∧ (parseMethodDescriptor yX10_isPosition.desc).map (fun d => d.parameters.length) = some 1) := ⟨rfl, hz_X10_isPosition⟩
theorem hz_X10_isTrap : (yX10_isTrap.cls ≠ "java/lang/invoke/MethodHandle" ∧ yX10_isTrap.cls ≠ "java/lang/invoke/VarHandle" ∧ (parseMethodDescriptor yX10_isTrap.desc).map (fun d => d.parameters.length) = some 1) := ⟨by decide +kernel, by decide +kernel, by decide +kernel⟩
theorem hy_X10_isTrap : yX10_isTrap.cls = RX10 ∧ (yX10_isTrap.cls ≠ "java/lang/invoke/MethodHandle" ∧ yX10_isTrap.cls ≠ "java/lang/invoke/VarHandle" ∧ (parseMethodDescriptor yX10_isTrap.desc).map (fun d => d.parameters.length) = some 1) := ⟨rfl, hz_X10_isTrap⟩
theorem hz_X10_keeps : (yX10_keeps.cls ≠ "java/lang/invoke/MethodHandle" ∧ yX10_keeps.cls ≠ "java/lang/invoke/VarHandle" ∧ (parseMethodDescriptor yX10_keeps.desc).map (fun d => d.parameters.length) = some 1) := ⟨by decide +kernel, by decide +kernel, by decide +kernel⟩
theorem hy_X10_keeps : yX10_keeps.cls = RX10 ∧ (yX10_keeps.cls ≠ "java/lang/invoke/MethodHandle" ∧ yX10_keeps.cls ≠ "java/lang/invoke/VarHandle" ∧ (parseMethodDescriptor yX10_keeps.desc).map (fun d => d.parameters.length) = some 1) := ⟨rfl, hz_X10_keeps⟩
theorem hz_X10_knows : (yX10_knows.cls ≠ "java/lang/invoke/MethodHandle" ∧ yX10_knows.cls ≠ "java/lang/invoke/VarHandle" ∧ (parseMethodDescriptor yX10_knows.desc).map (fun d => d.parameters.length) = some 0) := ⟨by decide +kernel, by decide +kernel, by decide +kernel⟩
theorem hy_X10_knows : yX10_knows.cls = RX10 ∧ (yX10_knows.cls ≠ "java/lang/invoke/MethodHandle" ∧ yX10_knows.cls ≠ "java/lang/invoke/VarHandle" ∧ (parseMethodDescriptor yX10_knows.desc).map (fun d => d.parameters.length) = some 0) := ⟨rfl, hz_X10_knows⟩
theorem hz_X10_lacks : (yX10_lacks.cls ≠ "java/lang/invoke/MethodHandle" ∧ yX10_lacks.cls ≠ "java/lang/invoke/VarHandle" ∧ (parseMethodDescriptor yX10_lacks.desc).map (fun d => d.parameters.length) = some 2) := ⟨by decide +kernel, by decide +kernel, by decide +kernel⟩
theorem hy_X10_lacks : yX10_lacks.cls = RX10 ∧ (yX10_lacks.cls ≠ "java/lang/invoke/MethodHandle" ∧ yX10_lacks.cls ≠ "java/lang/invoke/VarHandle" ∧ (parseMethodDescriptor yX10_lacks.desc).map (fun d => d.parameters.length) = some 2) := ⟨rfl, hz_X10_lacks⟩
theorem hz_X10_looks : (yX10_looks.cls ≠ "java/lang/invoke/MethodHandle" ∧ yX10_looks.cls ≠ "java/lang/invoke/VarHandle" ∧ (parseMethodDescriptor yX10_looks.desc).map (fun d => d.parameters.length) = some 0) := ⟨by decide +kernel, by decide +kernel, by decide +kernel⟩
theorem hy_X10_looks : yX10_looks.cls = RX10 ∧ (yX10_looks.cls ≠ "java/lang/invoke/MethodHandle" ∧ yX10_looks.cls ≠ "java/lang/invoke/VarHandle" ∧ (parseMethodDescriptor yX10_looks.desc).map (fun d => d.parameters.length) = some 0) := ⟨rfl, hz_X10_looks⟩
theorem hz_X10_makes : (yX10_makes.cls ≠ "java/lang/invoke/MethodHandle" ∧ yX10_makes.cls ≠ "java/lang/invoke/VarHandle" ∧ (parseMethodDescriptor yX10_makes.desc).map (fun d => d.parameters.length) = some 2) := ⟨by decide +kernel, by decide +kernel, by decide +kernel⟩
theorem hy_X10_makes : yX10_makes.cls = RX10 ∧ (yX10_makes.cls ≠ "java/lang/invoke/MethodHandle" ∧ yX10_makes.cls ≠ "java/lang/invoke/VarHandle" ∧ (parseMethodDescriptor yX10_makes.desc).map (fun d => d.parameters.length) = some 2) := ⟨rfl, hz_X10_makes⟩
theorem hz_X10_nears : (yX10_nears.cls ≠ "java/lang/invoke/MethodHandle" ∧ yX10_nears.cls ≠ "java/lang/invoke/VarHandle" ∧ (parseMethodDescriptor yX10_nears.desc).map (fun d => d.parameters.length) = some 0) := ⟨by decide +kernel, by decide +kernel, by decide +kernel⟩
theorem hy_X10_nears : yX10_nears.cls = RX10 ∧ (yX10_nears.cls ≠ "java/lang/invoke/MethodHandle" ∧ yX10_nears.cls ≠ "java/lang/invoke/VarHandle" ∧ (parseMethodDescriptor yX10_nears.desc).map (fun d => d.parameters.length) = some 0) := ⟨rfl, hz_X10_nears⟩
theorem hz_X10_numberOf : (yX10_numberOf.cls ≠ "java/lang/invoke/MethodHandle" ∧ yX10_numberOf.cls ≠ "java/lang/invoke/VarHandle" ∧ (parseMethodDescriptor yX10_numberOf.desc).map (fun d => d.parameters.length) = some 4) := ⟨by decide +kernel, by decide +kernel, by decide +kernel⟩
theorem hy_X10_numberOf : yX10_numberOf.cls = RX10 ∧ (yX10_numberOf.cls ≠ "java/lang/invoke/MethodHandle" ∧ yX10_numberOf.cls ≠ "java/lang/invoke/VarHandle" ∧ (parseMethodDescriptor yX10_numberOf.desc).map (fun d => d.parameters.length) = some 4) := ⟨rfl, hz_X10_numberOf⟩
theorem hz_X10_path : (yX10_path.cls ≠ "java/lang/invoke/MethodHandle" ∧ yX10_path.cls ≠ "java/lang/invoke/VarHandle" ∧ (parseMethodDescriptor yX10_path.desc).map (fun d => d.parameters.length) = some 2) := ⟨by decide +kernel, by decide +kernel, by decide +kernel⟩
theorem hy_X10_path : yX10_path.cls = RX10 ∧ (yX10_path.cls ≠ "java/lang/invoke/MethodHandle" ∧ yX10_path.cls ≠ "java/lang/invoke/VarHandle" ∧ (parseMethodDescriptor yX10_path.desc).map (fun d => d.parameters.length) = some 2) := ⟨rfl, hz_X10_path⟩
theorem hz_X10_plays : (yX10_plays.cls ≠ "java/lang/invoke/MethodHandle" ∧ yX10_plays.cls ≠ "java/lang/invoke/VarHandle" ∧ (parseMethodDescriptor yX10_plays.desc).map (fun d => d.parameters.length) = some 1) := ⟨by decide +kernel, by decide +kernel, by decide +kernel⟩
theorem hy_X10_plays : yX10_plays.cls = RX10 ∧ (yX10_plays.cls ≠ "java/lang/invoke/MethodHandle" ∧ yX10_plays.cls ≠ "java/lang/invoke/VarHandle" ∧ (parseMethodDescriptor yX10_plays.desc).map (fun d => d.parameters.length) = some 1) := ⟨rfl, hz_X10_plays⟩
theorem hz_X10_positions : (yX10_positions.cls ≠ "java/lang/invoke/MethodHandle" ∧ yX10_positions.cls ≠ "java/lang/invoke/VarHandle" ∧ (parseMethodDescriptor yX10_positions.desc).map (fun d => d.parameters.length) = some 0) := ⟨by decide +kernel, by decide +kernel, by decide +kernel⟩
theorem hy_X10_positions : yX10_positions.cls = RX10 ∧ (yX10_positions.cls ≠ "java/lang/invoke/MethodHandle" ∧ yX10_positions.cls ≠ "java/lang/invoke/VarHandle" ∧ (parseMethodDescriptor yX10_positions.desc).map (fun d => d.parameters.length) = some 0) := ⟨rfl, hz_X10_positions⟩
theorem hz_X10_raises : (yX10_raises.cls ≠ "java/lang/invoke/MethodHandle" ∧ yX10_raises.cls ≠ "java/lang/invoke/VarHandle" ∧ (parseMethodDescriptor yX10_raises.desc).map (fun d => d.parameters.length) = some 1) := ⟨by decide +kernel, by decide +kernel, by decide +kernel⟩
theorem hy_X10_raises : yX10_raises.cls = RX10 ∧ (yX10_raises.cls ≠ "java/lang/invoke/MethodHandle" ∧ yX10_raises.cls ≠ "java/lang/invoke/VarHandle" ∧ (parseMethodDescriptor yX10_raises.desc).map (fun d => d.parameters.length) = some 1) := ⟨rfl, hz_X10_raises⟩
theorem hz_X10_refuses : (yX10_refuses.cls ≠ "java/lang/invoke/MethodHandle" ∧ yX10_refuses.cls ≠ "java/lang/invoke/VarHandle" ∧ (parseMethodDescriptor yX10_refuses.desc).map (fun d => d.parameters.length) = some 2) := ⟨by decide +kernel, by decide +kernel, by decide +kernel⟩
theorem hy_X10_refuses : yX10_refuses.cls = RX10 ∧ (yX10_refuses.cls ≠ "java/lang/invoke/MethodHandle" ∧ yX10_refuses.cls ≠ "java/lang/invoke/VarHandle" ∧ (parseMethodDescriptor yX10_refuses.desc).map (fun d => d.parameters.length) = some 2) := ⟨rfl, hz_X10_refuses⟩
theorem hz_X10_second : (yX10_second.cls ≠ "java/lang/invoke/MethodHandle" ∧ yX10_second.cls ≠ "java/lang/invoke/VarHandle" ∧ (parseMethodDescriptor yX10_second.desc).map (fun d => d.parameters.length) = some 1) := ⟨by decide +kernel, by decide +kernel, by decide +kernel⟩
theorem hy_X10_second : yX10_second.cls = RX10 ∧ (yX10_second.cls ≠ "java/lang/invoke/MethodHandle" ∧ yX10_second.cls ≠ "java/lang/invoke/VarHandle" ∧ (parseMethodDescriptor yX10_second.desc).map (fun d => d.parameters.length) = some 1) := ⟨rfl, hz_X10_second⟩
theorem hz_X10_takes : (yX10_takes.cls ≠ "java/lang/invoke/MethodHandle" ∧ yX10_takes.cls ≠ "java/lang/invoke/VarHandle" ∧ (parseMethodDescriptor yX10_takes.desc).map (fun d => d.parameters.length) = some 1) := ⟨by decide +kernel, by decide +kernel, by decide +kernel⟩
theorem hy_X10_takes : yX10_takes.cls = RX10 ∧ (yX10_takes.cls ≠ "java/lang/invoke/MethodHandle" ∧ yX10_takes.cls ≠ "java/lang/invoke/VarHandle" ∧ (parseMethodDescriptor yX10_takes.desc).map (fun d => d.parameters.length) = some 1) := ⟨rfl, hz_X10_takes⟩
theorem hz_X10_takesBack : (yX10_takesBack.cls ≠ "java/lang/invoke/MethodHandle" ∧ yX10_takesBack.cls ≠ "java/lang/invoke/VarHandle" ∧ (parseMethodDescriptor yX10_takesBack.desc).map (fun d => d.parameters.length) = some 0) := ⟨by decide +kernel, by decide +kernel, by decide +kernel⟩
theorem hy_X10_takesBack : yX10_takesBack.cls = RX10 ∧ (yX10_takesBack.cls ≠ "java/lang/invoke/MethodHandle" ∧ yX10_takesBack.cls ≠ "java/lang/invoke/VarHandle" ∧ (parseMethodDescriptor yX10_takesBack.desc).map (fun d => d.parameters.length) = some 0) := ⟨rfl, hz_X10_takesBack⟩
theorem hz_X10_traps : (yX10_traps.cls ≠ "java/lang/invoke/MethodHandle" ∧ yX10_traps.cls ≠ "java/lang/invoke/VarHandle" ∧ (parseMethodDescriptor yX10_traps.desc).map (fun d => d.parameters.length) = some 2) := ⟨by decide +kernel, by decide +kernel, by decide +kernel⟩
theorem hy_X10_traps : yX10_traps.cls = RX10 ∧ (yX10_traps.cls ≠ "java/lang/invoke/MethodHandle" ∧ yX10_traps.cls ≠ "java/lang/invoke/VarHandle" ∧ (parseMethodDescriptor yX10_traps.desc).map (fun d => d.parameters.length) = some 2) := ⟨rfl, hz_X10_traps⟩
theorem hz_X10_treads : (yX10_treads.cls ≠ "java/lang/invoke/MethodHandle" ∧ yX10_treads.cls ≠ "java/lang/invoke/VarHandle" ∧ (parseMethodDescriptor yX10_treads.desc).map (fun d => d.parameters.length) = some 2) := ⟨by decide +kernel, by decide +kernel, by decide +kernel⟩
theorem hy_X10_treads : yX10_treads.cls = RX10 ∧ (yX10_treads.cls ≠ "java/lang/invoke/MethodHandle" ∧ yX10_treads.cls ≠ "java/lang/invoke/VarHandle" ∧ (parseMethodDescriptor yX10_treads.desc).map (fun d => d.parameters.length) = some 2) := ⟨rfl, hz_X10_treads⟩
theorem hz_X10_tries : (yX10_tries.cls ≠ "java/lang/invoke/MethodHandle" ∧ yX10_tries.cls ≠ "java/lang/invoke/VarHandle" ∧ (parseMethodDescriptor yX10_tries.desc).map (fun d => d.parameters.length) = some 0) := ⟨by decide +kernel, by decide +kernel, by decide +kernel⟩
theorem hy_X10_tries : yX10_tries.cls = RX10 ∧ (yX10_tries.cls ≠ "java/lang/invoke/MethodHandle" ∧ yX10_tries.cls ≠ "java/lang/invoke/VarHandle" ∧ (parseMethodDescriptor yX10_tries.desc).map (fun d => d.parameters.length) = some 0) := ⟨rfl, hz_X10_tries⟩
theorem hz_X1_allows : (yX1_allows.cls ≠ "java/lang/invoke/MethodHandle" ∧ yX1_allows.cls ≠ "java/lang/invoke/VarHandle" ∧ (parseMethodDescriptor yX1_allows.desc).map (fun d => d.parameters.length) = some 3) := ⟨by decide +kernel, by decide +kernel, by decide +kernel⟩
theorem hy_X1_allows : yX1_allows.cls = RX1 ∧ (yX1_allows.cls ≠ "java/lang/invoke/MethodHandle" ∧ yX1_allows.cls ≠ "java/lang/invoke/VarHandle" ∧ (parseMethodDescriptor yX1_allows.desc).map (fun d => d.parameters.length) = some 3) := ⟨rfl, hz_X1_allows⟩
theorem hz_X1_become : (yX1_become.cls ≠ "java/lang/invoke/MethodHandle" ∧ yX1_become.cls ≠ "java/lang/invoke/VarHandle" ∧ (parseMethodDescriptor yX1_become.desc).map (fun d => d.parameters.length) = some 1) := ⟨by decide +kernel, by decide +kernel, by decide +kernel⟩
theorem hy_X1_become : yX1_become.cls = RX1 ∧ (yX1_become.cls ≠ "java/lang/invoke/MethodHandle" ∧ yX1_become.cls ≠ "java/lang/invoke/VarHandle" ∧ (parseMethodDescriptor yX1_become.desc).map (fun d => d.parameters.length) = some 1) := ⟨rfl, hz_X1_become⟩
theorem hz_X1_fits : (yX1_fits.cls ≠ "java/lang/invoke/MethodHandle" ∧ yX1_fits.cls ≠ "java/lang/invoke/VarHandle" ∧ (parseMethodDescriptor yX1_fits.desc).map (fun d => d.parameters.length) = some 3) := ⟨by decide +kernel, by decide +kernel, by decide +kernel⟩
theorem hy_X1_fits : yX1_fits.cls = RX1 ∧ (yX1_fits.cls ≠ "java/lang/invoke/MethodHandle" ∧ yX1_fits.cls ≠ "java/lang/invoke/VarHandle" ∧ (parseMethodDescriptor yX1_fits.desc).map (fun d => d.parameters.length) = some 3) := ⟨rfl, hz_X1_fits⟩
theorem hz_X1_has : (yX1_has.cls ≠ "java/lang/invoke/MethodHandle" ∧ yX1_has.cls ≠ "java/lang/invoke/VarHandle" ∧ (parseMethodDescriptor yX1_has.desc).map (fun d => d.parameters.length) = some 1) := ⟨by decide +kernel, by decide +kernel, by decide +kernel⟩
theorem hy_X1_has : yX1_has.cls = RX1 ∧ (yX1_has.cls ≠ "java/lang/invoke/MethodHandle" ∧ yX1_has.cls ≠ "java/lang/invoke/VarHandle" ∧ (parseMethodDescriptor yX1_has.desc).map (fun d => d.parameters.length) = some 1) := ⟨rfl, hz_X1_has⟩
theorem hz_X1_holds : (yX1_holds.cls ≠ "java/lang/invoke/MethodHandle" ∧ yX1_holds.cls ≠ "java/lang/invoke/VarHandle" ∧ (parseMethodDescriptor yX1_holds.desc).map (fun d => d.parameters.length) = some 1) := ⟨by decide +kernel, by decide +kernel, by decide +kernel⟩
theorem hy_X1_holds : yX1_holds.cls = RX1 ∧ (yX1_holds.cls ≠ "java/lang/invoke/MethodHandle" ∧ yX1_holds.cls ≠ "java/lang/invoke/VarHandle" ∧ (parseMethodDescriptor yX1_holds.desc).map (fun d => d.parameters.length) = some 1) := ⟨rfl, hz_X1_holds⟩
theorem hz_X1_isTrap : (yX1_isTrap.cls ≠ "java/lang/invoke/MethodHandle" ∧ yX1_isTrap.cls ≠ "java/lang/invoke/VarHandle" ∧ (parseMethodDescriptor yX1_isTrap.desc).map (fun d => d.parameters.length) = some 1) := ⟨by decide +kernel, by decide +kernel, by decide +kernel⟩
theorem hy_X1_isTrap : yX1_isTrap.cls = RX1 ∧ (yX1_isTrap.cls ≠ "java/lang/invoke/MethodHandle" ∧ yX1_isTrap.cls ≠ "java/lang/invoke/VarHandle" ∧ (parseMethodDescriptor yX1_isTrap.desc).map (fun d => d.parameters.length) = some 1) := ⟨rfl, hz_X1_isTrap⟩
theorem hz_X1_join : (yX1_join.cls ≠ "java/lang/invoke/MethodHandle" ∧ yX1_join.cls ≠ "java/lang/invoke/VarHandle" ∧ (parseMethodDescriptor yX1_join.desc).map (fun d => d.parameters.length) = some 2) := ⟨by decide +kernel, by decide +kernel, by decide +kernel⟩
theorem hy_X1_join : yX1_join.cls = RX1 ∧ (yX1_join.cls ≠ "java/lang/invoke/MethodHandle" ∧ yX1_join.cls ≠ "java/lang/invoke/VarHandle" ∧ (parseMethodDescriptor yX1_join.desc).map (fun d => d.parameters.length) = some 2) := ⟨rfl, hz_X1_join⟩
theorem hz_X1_listPositions : (yX1_listPositions.cls ≠ "java/lang/invoke/MethodHandle" ∧ yX1_listPositions.cls ≠ "java/lang/invoke/VarHandle" ∧ (parseMethodDescriptor yX1_listPositions.desc).map (fun d => d.parameters.length) = some 1) := ⟨by decide +kernel, by decide +kernel, by decide +kernel⟩
theorem hy_X1_listPositions : yX1_listPositions.cls = RX1 ∧ (yX1_listPositions.cls ≠ "java/lang/invoke/MethodHandle" ∧ yX1_listPositions.cls ≠ "java/lang/invoke/VarHandle" ∧ (parseMethodDescriptor yX1_listPositions.desc).map (fun d => d.parameters.length) = some 1) := ⟨rfl, hz_X1_listPositions⟩
theorem hz_X1_moves : (yX1_moves.cls ≠ "java/lang/invoke/MethodHandle" ∧ yX1_moves.cls ≠ "java/lang/invoke/VarHandle" ∧ (parseMethodDescriptor yX1_moves.desc).map (fun d => d.parameters.length) = some 2) := ⟨by decide +kernel, by decide +kernel, by decide +kernel⟩
theorem hy_X1_moves : yX1_moves.cls = RX1 ∧ (yX1_moves.cls ≠ "java/lang/invoke/MethodHandle" ∧ yX1_moves.cls ≠ "java/lang/invoke/VarHandle" ∧ (parseMethodDescriptor yX1_moves.desc).map (fun d => d.parameters.length) = some 2) := ⟨rfl, hz_X1_moves⟩
theorem hz_X1_movesOf : (yX1_movesOf.cls ≠ "java/lang/invoke/MethodHandle" ∧ yX1_movesOf.cls ≠ "java/lang/invoke/VarHandle" ∧ (parseMethodDescriptor yX1_movesOf.desc).map (fun d => d.parameters.length) = some 1) := ⟨by decide +kernel, by decide +kernel, by decide +kernel⟩
theorem hy_X1_movesOf : yX1_movesOf.cls = RX1 ∧ (yX1_movesOf.cls ≠ "java/lang/invoke/MethodHandle" ∧ yX1_movesOf.cls ≠ "java/lang/invoke/VarHandle" ∧ (parseMethodDescriptor yX1_movesOf.desc).map (fun d => d.parameters.length) = some 1) := ⟨rfl, hz_X1_movesOf⟩
theorem hz_X1_part : (yX1_part.cls ≠ "java/lang/invoke/MethodHandle" ∧ yX1_part.cls ≠ "java/lang/invoke/VarHandle" ∧ (parseMethodDescriptor yX1_part.desc).map (fun d => d.parameters.length) = some 1) := ⟨by decide +kernel, by decide +kernel, by decide +kernel⟩
theorem hy_X1_part : yX1_part.cls = RX1 ∧ (yX1_part.cls ≠ "java/lang/invoke/MethodHandle" ∧ yX1_part.cls ≠ "java/lang/invoke/VarHandle" ∧ (parseMethodDescriptor yX1_part.desc).map (fun d => d.parameters.length) = some 1) := ⟨rfl, hz_X1_part⟩
theorem hz_X1_pathBetween : (yX1_pathBetween.cls ≠ "java/lang/invoke/MethodHandle" ∧ yX1_pathBetween.cls ≠ "java/lang/invoke/VarHandle" ∧ (parseMethodDescriptor yX1_pathBetween.desc).map (fun d => d.parameters.length) = some 2) := ⟨by decide +kernel, by decide +kernel, by decide +kernel⟩
theorem hy_X1_pathBetween : yX1_pathBetween.cls = RX1 ∧ (yX1_pathBetween.cls ≠ "java/lang/invoke/MethodHandle" ∧ yX1_pathBetween.cls ≠ "java/lang/invoke/VarHandle" ∧ (parseMethodDescriptor yX1_pathBetween.desc).map (fun d => d.parameters.length) = some 2) := ⟨rfl, hz_X1_pathBetween⟩
theorem hz_X1_taken : (yX1_taken.cls ≠ "java/lang/invoke/MethodHandle" ∧ yX1_taken.cls ≠ "java/lang/invoke/VarHandle" ∧ (parseMethodDescriptor yX1_taken.desc).map (fun d => d.parameters.length) = some 1) := ⟨by decide +kernel, by decide +kernel, by decide +kernel⟩
theorem hy_X1_taken : yX1_taken.cls = RX1 ∧ (yX1_taken.cls ≠ "java/lang/invoke/MethodHandle" ∧ yX1_taken.cls ≠ "java/lang/invoke/VarHandle" ∧ (parseMethodDescriptor yX1_taken.desc).map (fun d => d.parameters.length) = some 1) := ⟨rfl, hz_X1_taken⟩
theorem hz_X1_turnNear : (yX1_turnNear.cls ≠ "java/lang/invoke/MethodHandle" ∧ yX1_turnNear.cls ≠ "java/lang/invoke/VarHandle" ∧ (parseMethodDescriptor yX1_turnNear.desc).map (fun d => d.parameters.length) = some 2) := ⟨by decide +kernel, by decide +kernel, by decide +kernel⟩
theorem hy_X1_turnNear : yX1_turnNear.cls = RX1 ∧ (yX1_turnNear.cls ≠ "java/lang/invoke/MethodHandle" ∧ yX1_turnNear.cls ≠ "java/lang/invoke/VarHandle" ∧ (parseMethodDescriptor yX1_turnNear.desc).map (fun d => d.parameters.length) = some 2) := ⟨rfl, hz_X1_turnNear⟩
theorem hz_X1_waysBack : (yX1_waysBack.cls ≠ "java/lang/invoke/MethodHandle" ∧ yX1_waysBack.cls ≠ "java/lang/invoke/VarHandle" ∧ (parseMethodDescriptor yX1_waysBack.desc).map (fun d => d.parameters.length) = some 1) := ⟨by decide +kernel, by decide +kernel, by decide +kernel⟩
theorem hy_X1_waysBack : yX1_waysBack.cls = RX1 ∧ (yX1_waysBack.cls ≠ "java/lang/invoke/MethodHandle" ∧ yX1_waysBack.cls ≠ "java/lang/invoke/VarHandle" ∧ (parseMethodDescriptor yX1_waysBack.desc).map (fun d => d.parameters.length) = some 1) := ⟨rfl, hz_X1_waysBack⟩
theorem hz_X2_add : (yX2_add.cls ≠ "java/lang/invoke/MethodHandle" ∧ yX2_add.cls ≠ "java/lang/invoke/VarHandle" ∧ (parseMethodDescriptor yX2_add.desc).map (fun d => d.parameters.length) = some 2) := ⟨by decide +kernel, by decide +kernel, by decide +kernel⟩
theorem hy_X2_add : yX2_add.cls = RX2 ∧ (yX2_add.cls ≠ "java/lang/invoke/MethodHandle" ∧ yX2_add.cls ≠ "java/lang/invoke/VarHandle" ∧ (parseMethodDescriptor yX2_add.desc).map (fun d => d.parameters.length) = some 2) := ⟨rfl, hz_X2_add⟩
theorem hz_X2_become : (yX2_become.cls ≠ "java/lang/invoke/MethodHandle" ∧ yX2_become.cls ≠ "java/lang/invoke/VarHandle" ∧ (parseMethodDescriptor yX2_become.desc).map (fun d => d.parameters.length) = some 1) := ⟨by decide +kernel, by decide +kernel, by decide +kernel⟩
theorem hy_X2_become : yX2_become.cls = RX2 ∧ (yX2_become.cls ≠ "java/lang/invoke/MethodHandle" ∧ yX2_become.cls ≠ "java/lang/invoke/VarHandle" ∧ (parseMethodDescriptor yX2_become.desc).map (fun d => d.parameters.length) = some 1) := ⟨rfl, hz_X2_become⟩
theorem hz_X2_lastPosition : (yX2_lastPosition.cls ≠ "java/lang/invoke/MethodHandle" ∧ yX2_lastPosition.cls ≠ "java/lang/invoke/VarHandle" ∧ (parseMethodDescriptor yX2_lastPosition.desc).map (fun d => d.parameters.length) = some 0) := ⟨by decide +kernel, by decide +kernel, by decide +kernel⟩
theorem hy_X2_lastPosition : yX2_lastPosition.cls = RX2 ∧ (yX2_lastPosition.cls ≠ "java/lang/invoke/MethodHandle" ∧ yX2_lastPosition.cls ≠ "java/lang/invoke/VarHandle" ∧ (parseMethodDescriptor yX2_lastPosition.desc).map (fun d => d.parameters.length) = some 0) := ⟨rfl, hz_X2_lastPosition⟩
theorem hz_X2_start : (yX2_start.cls ≠ "java/lang/invoke/MethodHandle" ∧ yX2_start.cls ≠ "java/lang/invoke/VarHandle" ∧ (parseMethodDescriptor yX2_start.desc).map (fun d => d.parameters.length) = some 1) := ⟨by decide +kernel, by decide +kernel, by decide +kernel⟩
theorem hy_X2_start : yX2_start.cls = RX2 ∧ (yX2_start.cls ≠ "java/lang/invoke/MethodHandle" ∧ yX2_start.cls ≠ "java/lang/invoke/VarHandle" ∧ (parseMethodDescriptor yX2_start.desc).map (fun d => d.parameters.length) = some 1) := ⟨rfl, hz_X2_start⟩
theorem hz_X3_digitsOf : (yX3_digitsOf.cls ≠ "java/lang/invoke/MethodHandle" ∧ yX3_digitsOf.cls ≠ "java/lang/invoke/VarHandle" ∧ (parseMethodDescriptor yX3_digitsOf.desc).map (fun d => d.parameters.length) = some 1) := ⟨by decide +kernel, by decide +kernel, by decide +kernel⟩
theorem hy_X3_digitsOf : yX3_digitsOf.cls = RX3 ∧ (yX3_digitsOf.cls ≠ "java/lang/invoke/MethodHandle" ∧ yX3_digitsOf.cls ≠ "java/lang/invoke/VarHandle" ∧ (parseMethodDescriptor yX3_digitsOf.desc).map (fun d => d.parameters.length) = some 1) := ⟨rfl, hz_X3_digitsOf⟩
theorem hz_X3_isCommand : (yX3_isCommand.cls ≠ "java/lang/invoke/MethodHandle" ∧ yX3_isCommand.cls ≠ "java/lang/invoke/VarHandle" ∧ (parseMethodDescriptor yX3_isCommand.desc).map (fun d => d.parameters.length) = some 1) := ⟨by decide +kernel, by decide +kernel, by decide +kernel⟩
theorem hy_X3_isCommand : yX3_isCommand.cls = RX3 ∧ (yX3_isCommand.cls ≠ "java/lang/invoke/MethodHandle" ∧ yX3_isCommand.cls ≠ "java/lang/invoke/VarHandle" ∧ (parseMethodDescriptor yX3_isCommand.desc).map (fun d => d.parameters.length) = some 1) := ⟨rfl, hz_X3_isCommand⟩
theorem hz_X3_markOf : (yX3_markOf.cls ≠ "java/lang/invoke/MethodHandle" ∧ yX3_markOf.cls ≠ "java/lang/invoke/VarHandle" ∧ (parseMethodDescriptor yX3_markOf.desc).map (fun d => d.parameters.length) = some 1) := ⟨by decide +kernel, by decide +kernel, by decide +kernel⟩
theorem hy_X3_markOf : yX3_markOf.cls = RX3 ∧ (yX3_markOf.cls ≠ "java/lang/invoke/MethodHandle" ∧ yX3_markOf.cls ≠ "java/lang/invoke/VarHandle" ∧ (parseMethodDescriptor yX3_markOf.desc).map (fun d => d.parameters.length) = some 1) := ⟨rfl, hz_X3_markOf⟩
theorem hz_X3_numberIn : (yX3_numberIn.cls ≠ "java/lang/invoke/MethodHandle" ∧ yX3_numberIn.cls ≠ "java/lang/invoke/VarHandle" ∧ (parseMethodDescriptor yX3_numberIn.desc).map (fun d => d.parameters.length) = some 2) := ⟨by decide +kernel, by decide +kernel, by decide +kernel⟩
theorem hy_X3_numberIn : yX3_numberIn.cls = RX3 ∧ (yX3_numberIn.cls ≠ "java/lang/invoke/MethodHandle" ∧ yX3_numberIn.cls ≠ "java/lang/invoke/VarHandle" ∧ (parseMethodDescriptor yX3_numberIn.desc).map (fun d => d.parameters.length) = some 2) := ⟨rfl, hz_X3_numberIn⟩
theorem hz_X3_read : (yX3_read.cls ≠ "java/lang/invoke/MethodHandle" ∧ yX3_read.cls ≠ "java/lang/invoke/VarHandle" ∧ (parseMethodDescriptor yX3_read.desc).map (fun d => d.parameters.length) = some 1) := ⟨by decide +kernel, by decide +kernel, by decide +kernel⟩
theorem hy_X3_read : yX3_read.cls = RX3 ∧ (yX3_read.cls ≠ "java/lang/invoke/MethodHandle" ∧ yX3_read.cls ≠ "java/lang/invoke/VarHandle" ∧ (parseMethodDescriptor yX3_read.desc).map (fun d => d.parameters.length) = some 1) := ⟨rfl, hz_X3_read⟩
theorem hz_X5_outcomeOf : (yX5_outcomeOf.cls ≠ "java/lang/invoke/MethodHandle" ∧ yX5_outcomeOf.cls ≠ "java/lang/invoke/VarHandle" ∧ (parseMethodDescriptor yX5_outcomeOf.desc).map (fun d => d.parameters.length) = some 1) := ⟨by decide +kernel, by decide +kernel, by decide +kernel⟩
theorem hy_X5_outcomeOf : yX5_outcomeOf.cls = RX5 ∧ (yX5_outcomeOf.cls ≠ "java/lang/invoke/MethodHandle" ∧ yX5_outcomeOf.cls ≠ "java/lang/invoke/VarHandle" ∧ (parseMethodDescriptor yX5_outcomeOf.desc).map (fun d => d.parameters.length) = some 1) := ⟨rfl, hz_X5_outcomeOf⟩
theorem hz_X5_seen : (yX5_seen.cls ≠ "java/lang/invoke/MethodHandle" ∧ yX5_seen.cls ≠ "java/lang/invoke/VarHandle" ∧ (parseMethodDescriptor yX5_seen.desc).map (fun d => d.parameters.length) = some 2) := ⟨by decide +kernel, by decide +kernel, by decide +kernel⟩
theorem hy_X5_seen : yX5_seen.cls = RX5 ∧ (yX5_seen.cls ≠ "java/lang/invoke/MethodHandle" ∧ yX5_seen.cls ≠ "java/lang/invoke/VarHandle" ∧ (parseMethodDescriptor yX5_seen.desc).map (fun d => d.parameters.length) = some 2) := ⟨rfl, hz_X5_seen⟩
theorem hz_X5_solve : (yX5_solve.cls ≠ "java/lang/invoke/MethodHandle" ∧ yX5_solve.cls ≠ "java/lang/invoke/VarHandle" ∧ (parseMethodDescriptor yX5_solve.desc).map (fun d => d.parameters.length) = some 1) := ⟨by decide +kernel, by decide +kernel, by decide +kernel⟩
theorem hy_X5_solve : yX5_solve.cls = RX5 ∧ (yX5_solve.cls ≠ "java/lang/invoke/MethodHandle" ∧ yX5_solve.cls ≠ "java/lang/invoke/VarHandle" ∧ (parseMethodDescriptor yX5_solve.desc).map (fun d => d.parameters.length) = some 1) := ⟨rfl, hz_X5_solve⟩
theorem hz_X6_become : (yX6_become.cls ≠ "java/lang/invoke/MethodHandle" ∧ yX6_become.cls ≠ "java/lang/invoke/VarHandle" ∧ (parseMethodDescriptor yX6_become.desc).map (fun d => d.parameters.length) = some 1) := ⟨by decide +kernel, by decide +kernel, by decide +kernel⟩
theorem hy_X6_become : yX6_become.cls = RX6 ∧ (yX6_become.cls ≠ "java/lang/invoke/MethodHandle" ∧ yX6_become.cls ≠ "java/lang/invoke/VarHandle" ∧ (parseMethodDescriptor yX6_become.desc).map (fun d => d.parameters.length) = some 1) := ⟨rfl, hz_X6_become⟩
theorem hz_X7_bestMove : (yX7_bestMove.cls ≠ "java/lang/invoke/MethodHandle" ∧ yX7_bestMove.cls ≠ "java/lang/invoke/VarHandle" ∧ (parseMethodDescriptor yX7_bestMove.desc).map (fun d => d.parameters.length) = some 2) := ⟨by decide +kernel, by decide +kernel, by decide +kernel⟩
theorem hy_X7_bestMove : yX7_bestMove.cls = RX7 ∧ (yX7_bestMove.cls ≠ "java/lang/invoke/MethodHandle" ∧ yX7_bestMove.cls ≠ "java/lang/invoke/VarHandle" ∧ (parseMethodDescriptor yX7_bestMove.desc).map (fun d => d.parameters.length) = some 2) := ⟨rfl, hz_X7_bestMove⟩
theorem hz_X7_inMoves : (yX7_inMoves.cls ≠ "java/lang/invoke/MethodHandle" ∧ yX7_inMoves.cls ≠ "java/lang/invoke/VarHandle" ∧ (parseMethodDescriptor yX7_inMoves.desc).map (fun d => d.parameters.length) = some 1) := ⟨by decide +kernel, by decide +kernel, by decide +kernel⟩
theorem hy_X7_inMoves : yX7_inMoves.cls = RX7 ∧ (yX7_inMoves.cls ≠ "java/lang/invoke/MethodHandle" ∧ yX7_inMoves.cls ≠ "java/lang/invoke/VarHandle" ∧ (parseMethodDescriptor yX7_inMoves.desc).map (fun d => d.parameters.length) = some 1) := ⟨rfl, hz_X7_inMoves⟩
theorem hz_X7_isDecided : (yX7_isDecided.cls ≠ "java/lang/invoke/MethodHandle" ∧ yX7_isDecided.cls ≠ "java/lang/invoke/VarHandle" ∧ (parseMethodDescriptor yX7_isDecided.desc).map (fun d => d.parameters.length) = some 2) := ⟨by decide +kernel, by decide +kernel, by decide +kernel⟩
theorem hy_X7_isDecided : yX7_isDecided.cls = RX7 ∧ (yX7_isDecided.cls ≠ "java/lang/invoke/MethodHandle" ∧ yX7_isDecided.cls ≠ "java/lang/invoke/VarHandle" ∧ (parseMethodDescriptor yX7_isDecided.desc).map (fun d => d.parameters.length) = some 2) := ⟨rfl, hz_X7_isDecided⟩
theorem hz_X7_isFoxWinning : (yX7_isFoxWinning.cls ≠ "java/lang/invoke/MethodHandle" ∧ yX7_isFoxWinning.cls ≠ "java/lang/invoke/VarHandle" ∧ (parseMethodDescriptor yX7_isFoxWinning.desc).map (fun d => d.parameters.length) = some 1) := ⟨by decide +kernel, by decide +kernel, by decide +kernel⟩
theorem hy_X7_isFoxWinning : yX7_isFoxWinning.cls = RX7 ∧ (yX7_isFoxWinning.cls ≠ "java/lang/invoke/MethodHandle" ∧ yX7_isFoxWinning.cls ≠ "java/lang/invoke/VarHandle" ∧ (parseMethodDescriptor yX7_isFoxWinning.desc).map (fun d => d.parameters.length) = some 1) := ⟨rfl, hz_X7_isFoxWinning⟩
theorem hz_X7_outcomeOf : (yX7_outcomeOf.cls ≠ "java/lang/invoke/MethodHandle" ∧ yX7_outcomeOf.cls ≠ "java/lang/invoke/VarHandle" ∧ (parseMethodDescriptor yX7_outcomeOf.desc).map (fun d => d.parameters.length) = some 1) := ⟨by decide +kernel, by decide +kernel, by decide +kernel⟩
theorem hy_X7_outcomeOf : yX7_outcomeOf.cls = RX7 ∧ (yX7_outcomeOf.cls ≠ "java/lang/invoke/MethodHandle" ∧ yX7_outcomeOf.cls ≠ "java/lang/invoke/VarHandle" ∧ (parseMethodDescriptor yX7_outcomeOf.desc).map (fun d => d.parameters.length) = some 1) := ⟨rfl, hz_X7_outcomeOf⟩
theorem hz_X7_positionAt : (yX7_positionAt.cls ≠ "java/lang/invoke/MethodHandle" ∧ yX7_positionAt.cls ≠ "java/lang/invoke/VarHandle" ∧ (parseMethodDescriptor yX7_positionAt.desc).map (fun d => d.parameters.length) = some 1) := ⟨by decide +kernel, by decide +kernel, by decide +kernel⟩
theorem hy_X7_positionAt : yX7_positionAt.cls = RX7 ∧ (yX7_positionAt.cls ≠ "java/lang/invoke/MethodHandle" ∧ yX7_positionAt.cls ≠ "java/lang/invoke/VarHandle" ∧ (parseMethodDescriptor yX7_positionAt.desc).map (fun d => d.parameters.length) = some 1) := ⟨rfl, hz_X7_positionAt⟩
theorem hz_X7_solve : (yX7_solve.cls ≠ "java/lang/invoke/MethodHandle" ∧ yX7_solve.cls ≠ "java/lang/invoke/VarHandle" ∧ (parseMethodDescriptor yX7_solve.desc).map (fun d => d.parameters.length) = some 1) := ⟨by decide +kernel, by decide +kernel, by decide +kernel⟩
theorem hy_X7_solve : yX7_solve.cls = RX7 ∧ (yX7_solve.cls ≠ "java/lang/invoke/MethodHandle" ∧ yX7_solve.cls ≠ "java/lang/invoke/VarHandle" ∧ (parseMethodDescriptor yX7_solve.desc).map (fun d => d.parameters.length) = some 1) := ⟨rfl, hz_X7_solve⟩
theorem hz_X7_tellBefore : (yX7_tellBefore.cls ≠ "java/lang/invoke/MethodHandle" ∧ yX7_tellBefore.cls ≠ "java/lang/invoke/VarHandle" ∧ (parseMethodDescriptor yX7_tellBefore.desc).map (fun d => d.parameters.length) = some 3) := ⟨by decide +kernel, by decide +kernel, by decide +kernel⟩
theorem hy_X7_tellBefore : yX7_tellBefore.cls = RX7 ∧ (yX7_tellBefore.cls ≠ "java/lang/invoke/MethodHandle" ∧ yX7_tellBefore.cls ≠ "java/lang/invoke/VarHandle" ∧ (parseMethodDescriptor yX7_tellBefore.desc).map (fun d => d.parameters.length) = some 3) := ⟨rfl, hz_X7_tellBefore⟩
theorem hz_X8_add : (yX8_add.cls ≠ "java/lang/invoke/MethodHandle" ∧ yX8_add.cls ≠ "java/lang/invoke/VarHandle" ∧ (parseMethodDescriptor yX8_add.desc).map (fun d => d.parameters.length) = some 1) := ⟨by decide +kernel, by decide +kernel, by decide +kernel⟩
theorem hy_X8_add : yX8_add.cls = RX8 ∧ (yX8_add.cls ≠ "java/lang/invoke/MethodHandle" ∧ yX8_add.cls ≠ "java/lang/invoke/VarHandle" ∧ (parseMethodDescriptor yX8_add.desc).map (fun d => d.parameters.length) = some 1) := ⟨rfl, hz_X8_add⟩
theorem hz_X8_sign : (yX8_sign.cls ≠ "java/lang/invoke/MethodHandle" ∧ yX8_sign.cls ≠ "java/lang/invoke/VarHandle" ∧ (parseMethodDescriptor yX8_sign.desc).map (fun d => d.parameters.length) = some 1) := ⟨by decide +kernel, by decide +kernel, by decide +kernel⟩
theorem hy_X8_sign : yX8_sign.cls = RX8 ∧ (yX8_sign.cls ≠ "java/lang/invoke/MethodHandle" ∧ yX8_sign.cls ≠ "java/lang/invoke/VarHandle" ∧ (parseMethodDescriptor yX8_sign.desc).map (fun d => d.parameters.length) = some 1) := ⟨rfl, hz_X8_sign⟩
theorem hz_X9_above : (yX9_above.cls ≠ "java/lang/invoke/MethodHandle" ∧ yX9_above.cls ≠ "java/lang/invoke/VarHandle" ∧ (parseMethodDescriptor yX9_above.desc).map (fun d => d.parameters.length) = some 1) := ⟨by decide +kernel, by decide +kernel, by decide +kernel⟩
theorem hy_X9_above : yX9_above.cls = RX9 ∧ (yX9_above.cls ≠ "java/lang/invoke/MethodHandle" ∧ yX9_above.cls ≠ "java/lang/invoke/VarHandle" ∧ (parseMethodDescriptor yX9_above.desc).map (fun d => d.parameters.length) = some 1) := ⟨rfl, hz_X9_above⟩
theorem hz_X9_accountOfPositions : (yX9_accountOfPositions.cls ≠ "java/lang/invoke/MethodHandle" ∧ yX9_accountOfPositions.cls ≠ "java/lang/invoke/VarHandle" ∧ (parseMethodDescriptor yX9_accountOfPositions.desc).map (fun d => d.parameters.length) = some 1) := ⟨by decide +kernel, by decide +kernel, by decide +kernel⟩
theorem hy_X9_accountOfPositions : yX9_accountOfPositions.cls = RX9 ∧ (yX9_accountOfPositions.cls ≠ "java/lang/invoke/MethodHandle" ∧ yX9_accountOfPositions.cls ≠ "java/lang/invoke/VarHandle" ∧ (parseMethodDescriptor yX9_accountOfPositions.desc).map (fun d => d.parameters.length) = some 1) := ⟨rfl, hz_X9_accountOfPositions⟩
theorem hz_X9_addBurrow : (yX9_addBurrow.cls ≠ "java/lang/invoke/MethodHandle" ∧ yX9_addBurrow.cls ≠ "java/lang/invoke/VarHandle" ∧ (parseMethodDescriptor yX9_addBurrow.desc).map (fun d => d.parameters.length) = some 0) := ⟨by decide +kernel, by decide +kernel, by decide +kernel⟩
theorem hy_X9_addBurrow : yX9_addBurrow.cls = RX9 ∧ (yX9_addBurrow.cls ≠ "java/lang/invoke/MethodHandle" ∧ yX9_addBurrow.cls ≠ "java/lang/invoke/VarHandle" ∧ (parseMethodDescriptor yX9_addBurrow.desc).map (fun d => d.parameters.length) = some 0) := ⟨rfl, hz_X9_addBurrow⟩
theorem hz_X9_addPath : (yX9_addPath.cls ≠ "java/lang/invoke/MethodHandle" ∧ yX9_addPath.cls ≠ "java/lang/invoke/VarHandle" ∧ (parseMethodDescriptor yX9_addPath.desc).map (fun d => d.parameters.length) = some 2) := ⟨by decide +kernel, by decide +kernel, by decide +kernel⟩
theorem hy_X9_addPath : yX9_addPath.cls = RX9 ∧ (yX9_addPath.cls ≠ "java/lang/invoke/MethodHandle" ∧ yX9_addPath.cls ≠ "java/lang/invoke/VarHandle" ∧ (parseMethodDescriptor yX9_addPath.desc).map (fun d => d.parameters.length) = some 2) := ⟨rfl, hz_X9_addPath⟩
theorem hz_X9_at : (yX9_at.cls ≠ "java/lang/invoke/MethodHandle" ∧ yX9_at.cls ≠ "java/lang/invoke/VarHandle" ∧ (parseMethodDescriptor yX9_at.desc).map (fun d => d.parameters.length) = some 2) := ⟨by decide +kernel, by decide +kernel, by decide +kernel⟩
theorem hy_X9_at : yX9_at.cls = RX9 ∧ (yX9_at.cls ≠ "java/lang/invoke/MethodHandle" ∧ yX9_at.cls ≠ "java/lang/invoke/VarHandle" ∧ (parseMethodDescriptor yX9_at.desc).map (fun d => d.parameters.length) = some 2) := ⟨rfl, hz_X9_at⟩
theorem hz_X9_below : (yX9_below.cls ≠ "java/lang/invoke/MethodHandle" ∧ yX9_below.cls ≠ "java/lang/invoke/VarHandle" ∧ (parseMethodDescriptor yX9_below.desc).map (fun d => d.parameters.length) = some 1) := ⟨by decide +kernel, by decide +kernel, by decide +kernel⟩
theorem hy_X9_below : yX9_below.cls = RX9 ∧ (yX9_below.cls ≠ "java/lang/invoke/MethodHandle" ∧ yX9_below.cls ≠ "java/lang/invoke/VarHandle" ∧ (parseMethodDescriptor yX9_below.desc).map (fun d => d.parameters.length) = some 1) := ⟨rfl, hz_X9_below⟩
theorem hz_X9_bitOf : (yX9_bitOf.cls ≠ "java/lang/invoke/MethodHandle" ∧ yX9_bitOf.cls ≠ "java/lang/invoke/VarHandle" ∧ (parseMethodDescriptor yX9_bitOf.desc).map (fun d => d.parameters.length) = some 1) := ⟨by decide +kernel, by decide +kernel, by decide +kernel⟩
theorem hy_X9_bitOf : yX9_bitOf.cls = RX9 ∧ (yX9_bitOf.cls ≠ "java/lang/invoke/MethodHandle" ∧ yX9_bitOf.cls ≠ "java/lang/invoke/VarHandle" ∧ (parseMethodDescriptor yX9_bitOf.desc).map (fun d => d.parameters.length) = some 1) := ⟨rfl, hz_X9_bitOf⟩
theorem hz_X9_carriedOut : (yX9_carriedOut.cls ≠ "java/lang/invoke/MethodHandle" ∧ yX9_carriedOut.cls ≠ "java/lang/invoke/VarHandle" ∧ (parseMethodDescriptor yX9_carriedOut.desc).map (fun d => d.parameters.length) = some 1) := ⟨by decide +kernel, by decide +kernel, by decide +kernel⟩
theorem hy_X9_carriedOut : yX9_carriedOut.cls = RX9 ∧ (yX9_carriedOut.cls ≠ "java/lang/invoke/MethodHandle" ∧ yX9_carriedOut.cls ≠ "java/lang/invoke/VarHandle" ∧ (parseMethodDescriptor yX9_carriedOut.desc).map (fun d => d.parameters.length) = some 1) := ⟨rfl, hz_X9_carriedOut⟩
theorem hz_X9_copy : (yX9_copy.cls ≠ "java/lang/invoke/MethodHandle" ∧ yX9_copy.cls ≠ "java/lang/invoke/VarHandle" ∧ (parseMethodDescriptor yX9_copy.desc).map (fun d => d.parameters.length) = some 2) := ⟨by decide +kernel, by decide +kernel, by decide +kernel⟩
theorem hy_X9_copy : yX9_copy.cls = RX9 ∧ (yX9_copy.cls ≠ "java/lang/invoke/MethodHandle" ∧ yX9_copy.cls ≠ "java/lang/invoke/VarHandle" ∧ (parseMethodDescriptor yX9_copy.desc).map (fun d => d.parameters.length) = some 2) := ⟨rfl, hz_X9_copy⟩
theorem hz_X9_dropPath : (yX9_dropPath.cls ≠ "java/lang/invoke/MethodHandle" ∧ yX9_dropPath.cls ≠ "java/lang/invoke/VarHandle" ∧ (parseMethodDescriptor yX9_dropPath.desc).map (fun d => d.parameters.length) = some 2) := ⟨by decide +kernel, by decide +kernel, by decide +kernel⟩
theorem hy_X9_dropPath : yX9_dropPath.cls = RX9 ∧ (yX9_dropPath.cls ≠ "java/lang/invoke/MethodHandle" ∧ yX9_dropPath.cls ≠ "java/lang/invoke/VarHandle" ∧ (parseMethodDescriptor yX9_dropPath.desc).map (fun d => d.parameters.length) = some 2) := ⟨rfl, hz_X9_dropPath⟩
theorem hz_X9_firstMove : (yX9_firstMove.cls ≠ "java/lang/invoke/MethodHandle" ∧ yX9_firstMove.cls ≠ "java/lang/invoke/VarHandle" ∧ (parseMethodDescriptor yX9_firstMove.desc).map (fun d => d.parameters.length) = some 1) := ⟨by decide +kernel, by decide +kernel, by decide +kernel⟩
theorem hy_X9_firstMove : yX9_firstMove.cls = RX9 ∧ (yX9_firstMove.cls ≠ "java/lang/invoke/MethodHandle" ∧ yX9_firstMove.cls ≠ "java/lang/invoke/VarHandle" ∧ (parseMethodDescriptor yX9_firstMove.desc).map (fun d => d.parameters.length) = some 1) := ⟨rfl, hz_X9_firstMove⟩
theorem hz_X9_firstOf : (yX9_firstOf.cls ≠ "java/lang/invoke/MethodHandle" ∧ yX9_firstOf.cls ≠ "java/lang/invoke/VarHandle" ∧ (parseMethodDescriptor yX9_firstOf.desc).map (fun d => d.parameters.length) = some 1) := ⟨by decide +kernel, by decide +kernel, by decide +kernel⟩
theorem hy_X9_firstOf : yX9_firstOf.cls = RX9 ∧ (yX9_firstOf.cls ≠ "java/lang/invoke/MethodHandle" ∧ yX9_firstOf.cls ≠ "java/lang/invoke/VarHandle" ∧ (parseMethodDescriptor yX9_firstOf.desc).map (fun d => d.parameters.length) = some 1) := ⟨rfl, hz_X9_firstOf⟩
theorem hz_X9_foxOf : (yX9_foxOf.cls ≠ "java/lang/invoke/MethodHandle" ∧ yX9_foxOf.cls ≠ "java/lang/invoke/VarHandle" ∧ (parseMethodDescriptor yX9_foxOf.desc).map (fun d => d.parameters.length) = some 1) := ⟨by decide +kernel, by decide +kernel, by decide +kernel⟩
theorem hy_X9_foxOf : yX9_foxOf.cls = RX9 ∧ (yX9_foxOf.cls ≠ "java/lang/invoke/MethodHandle" ∧ yX9_foxOf.cls ≠ "java/lang/invoke/VarHandle" ∧ (parseMethodDescriptor yX9_foxOf.desc).map (fun d => d.parameters.length) = some 1) := ⟨rfl, hz_X9_foxOf⟩
theorem hz_X9_fromOf : (yX9_fromOf.cls ≠ "java/lang/invoke/MethodHandle" ∧ yX9_fromOf.cls ≠ "java/lang/invoke/VarHandle" ∧ (parseMethodDescriptor yX9_fromOf.desc).map (fun d => d.parameters.length) = some 1) := ⟨by decide +kernel, by decide +kernel, by decide +kernel⟩
theorem hy_X9_fromOf : yX9_fromOf.cls = RX9 ∧ (yX9_fromOf.cls ≠ "java/lang/invoke/MethodHandle" ∧ yX9_fromOf.cls ≠ "java/lang/invoke/VarHandle" ∧ (parseMethodDescriptor yX9_fromOf.desc).map (fun d => d.parameters.length) = some 1) := ⟨rfl, hz_X9_fromOf⟩
theorem hz_X9_isRefusedFor : (yX9_isRefusedFor.cls ≠ "java/lang/invoke/MethodHandle" ∧ yX9_isRefusedFor.cls ≠ "java/lang/invoke/VarHandle" ∧ (parseMethodDescriptor yX9_isRefusedFor.desc).map (fun d => d.parameters.length) = some 1) := ⟨by decide +kernel, by decide +kernel, by decide +kernel⟩
theorem hy_X9_isRefusedFor : yX9_isRefusedFor.cls = RX9 ∧ (yX9_isRefusedFor.cls ≠ "java/lang/invoke/MethodHandle" ∧ yX9_isRefusedFor.cls ≠ "java/lang/invoke/VarHandle" ∧ (parseMethodDescriptor yX9_isRefusedFor.desc).map (fun d => d.parameters.length) = some 1) := ⟨rfl, hz_X9_isRefusedFor⟩
theorem hz_X9_letPlay : (yX9_letPlay.cls ≠ "java/lang/invoke/MethodHandle" ∧ yX9_letPlay.cls ≠ "java/lang/invoke/VarHandle" ∧ (parseMethodDescriptor yX9_letPlay.desc).map (fun d => d.parameters.length) = some 1) := ⟨by decide +kernel, by decide +kernel, by decide +kernel⟩
theorem hy_X9_letPlay : yX9_letPlay.cls = RX9 ∧ (yX9_letPlay.cls ≠ "java/lang/invoke/MethodHandle" ∧ yX9_letPlay.cls ≠ "java/lang/invoke/VarHandle" ∧ (parseMethodDescriptor yX9_letPlay.desc).map (fun d => d.parameters.length) = some 1) := ⟨rfl, hz_X9_letPlay⟩
theorem hz_X9_makeMove : (yX9_makeMove.cls ≠ "java/lang/invoke/MethodHandle" ∧ yX9_makeMove.cls ≠ "java/lang/invoke/VarHandle" ∧ (parseMethodDescriptor yX9_makeMove.desc).map (fun d => d.parameters.length) = some 2) := ⟨by decide +kernel, by decide +kernel, by decide +kernel⟩
theorem hy_X9_makeMove : yX9_makeMove.cls = RX9 ∧ (yX9_makeMove.cls ≠ "java/lang/invoke/MethodHandle" ∧ yX9_makeMove.cls ≠ "java/lang/invoke/VarHandle" ∧ (parseMethodDescriptor yX9_makeMove.desc).map (fun d => d.parameters.length) = some 2) := ⟨rfl, hz_X9_makeMove⟩
theorem hz_X9_markChanged : (yX9_markChanged.cls ≠ "java/lang/invoke/MethodHandle" ∧ yX9_markChanged.cls ≠ "java/lang/invoke/VarHandle" ∧ (parseMethodDescriptor yX9_markChanged.desc).map (fun d => d.parameters.length) = some 0) := ⟨by decide +kernel, by decide +kernel, by decide +kernel⟩
theorem hy_X9_markChanged : yX9_markChanged.cls = RX9 ∧ (yX9_markChanged.cls ≠ "java/lang/invoke/MethodHandle" ∧ yX9_markChanged.cls ≠ "java/lang/invoke/VarHandle" ∧ (parseMethodDescriptor yX9_markChanged.desc).map (fun d => d.parameters.length) = some 0) := ⟨rfl, hz_X9_markChanged⟩
theorem hz_X9_moveNumber : (yX9_moveNumber.cls ≠ "java/lang/invoke/MethodHandle" ∧ yX9_moveNumber.cls ≠ "java/lang/invoke/VarHandle" ∧ (parseMethodDescriptor yX9_moveNumber.desc).map (fun d => d.parameters.length) = some 2) := ⟨by decide +kernel, by decide +kernel, by decide +kernel⟩
theorem hy_X9_moveNumber : yX9_moveNumber.cls = RX9 ∧ (yX9_moveNumber.cls ≠ "java/lang/invoke/MethodHandle" ∧ yX9_moveNumber.cls ≠ "java/lang/invoke/VarHandle" ∧ (parseMethodDescriptor yX9_moveNumber.desc).map (fun d => d.parameters.length) = some 2) := ⟨rfl, hz_X9_moveNumber⟩
theorem hz_X9_needPosition : (yX9_needPosition.cls ≠ "java/lang/invoke/MethodHandle" ∧ yX9_needPosition.cls ≠ "java/lang/invoke/VarHandle" ∧ (parseMethodDescriptor yX9_needPosition.desc).map (fun d => d.parameters.length) = some 1) := ⟨by decide +kernel, by decide +kernel, by decide +kernel⟩
theorem hy_X9_needPosition : yX9_needPosition.cls = RX9 ∧ (yX9_needPosition.cls ≠ "java/lang/invoke/MethodHandle" ∧ yX9_needPosition.cls ≠ "java/lang/invoke/VarHandle" ∧ (parseMethodDescriptor yX9_needPosition.desc).map (fun d => d.parameters.length) = some 1) := ⟨rfl, hz_X9_needPosition⟩
theorem hz_X9_newVersion : (yX9_newVersion.cls ≠ "java/lang/invoke/MethodHandle" ∧ yX9_newVersion.cls ≠ "java/lang/invoke/VarHandle" ∧ (parseMethodDescriptor yX9_newVersion.desc).map (fun d => d.parameters.length) = some 0) := ⟨by decide +kernel, by decide +kernel, by decide +kernel⟩
theorem hy_X9_newVersion : yX9_newVersion.cls = RX9 ∧ (yX9_newVersion.cls ≠ "java/lang/invoke/MethodHandle" ∧ yX9_newVersion.cls ≠ "java/lang/invoke/VarHandle" ∧ (parseMethodDescriptor yX9_newVersion.desc).map (fun d => d.parameters.length) = some 0) := ⟨rfl, hz_X9_newVersion⟩
theorem hz_X9_numberOf : (yX9_numberOf.cls ≠ "java/lang/invoke/MethodHandle" ∧ yX9_numberOf.cls ≠ "java/lang/invoke/VarHandle" ∧ (parseMethodDescriptor yX9_numberOf.desc).map (fun d => d.parameters.length) = some 4) := ⟨by decide +kernel, by decide +kernel, by decide +kernel⟩
theorem hy_X9_numberOf : yX9_numberOf.cls = RX9 ∧ (yX9_numberOf.cls ≠ "java/lang/invoke/MethodHandle" ∧ yX9_numberOf.cls ≠ "java/lang/invoke/VarHandle" ∧ (parseMethodDescriptor yX9_numberOf.desc).map (fun d => d.parameters.length) = some 4) := ⟨rfl, hz_X9_numberOf⟩
theorem hz_X9_positionsIn : (yX9_positionsIn.cls ≠ "java/lang/invoke/MethodHandle" ∧ yX9_positionsIn.cls ≠ "java/lang/invoke/VarHandle" ∧ (parseMethodDescriptor yX9_positionsIn.desc).map (fun d => d.parameters.length) = some 1) := ⟨by decide +kernel, by decide +kernel, by decide +kernel⟩
theorem hy_X9_positionsIn : yX9_positionsIn.cls = RX9 ∧ (yX9_positionsIn.cls ≠ "java/lang/invoke/MethodHandle" ∧ yX9_positionsIn.cls ≠ "java/lang/invoke/VarHandle" ∧ (parseMethodDescriptor yX9_positionsIn.desc).map (fun d => d.parameters.length) = some 1) := ⟨rfl, hz_X9_positionsIn⟩
theorem hz_X9_put : (yX9_put.cls ≠ "java/lang/invoke/MethodHandle" ∧ yX9_put.cls ≠ "java/lang/invoke/VarHandle" ∧ (parseMethodDescriptor yX9_put.desc).map (fun d => d.parameters.length) = some 3) := ⟨by decide +kernel, by decide +kernel, by decide +kernel⟩
theorem hy_X9_put : yX9_put.cls = RX9 ∧ (yX9_put.cls ≠ "java/lang/invoke/MethodHandle" ∧ yX9_put.cls ≠ "java/lang/invoke/VarHandle" ∧ (parseMethodDescriptor yX9_put.desc).map (fun d => d.parameters.length) = some 3) := ⟨rfl, hz_X9_put⟩
theorem hz_X9_refused : (yX9_refused.cls ≠ "java/lang/invoke/MethodHandle" ∧ yX9_refused.cls ≠ "java/lang/invoke/VarHandle" ∧ (parseMethodDescriptor yX9_refused.desc).map (fun d => d.parameters.length) = some 2) := ⟨by decide +kernel, by decide +kernel, by decide +kernel⟩
theorem hy_X9_refused : yX9_refused.cls = RX9 ∧ (yX9_refused.cls ≠ "java/lang/invoke/MethodHandle" ∧ yX9_refused.cls ≠ "java/lang/invoke/VarHandle" ∧ (parseMethodDescriptor yX9_refused.desc).map (fun d => d.parameters.length) = some 2) := ⟨rfl, hz_X9_refused⟩
theorem hz_X9_secondOf : (yX9_secondOf.cls ≠ "java/lang/invoke/MethodHandle" ∧ yX9_secondOf.cls ≠ "java/lang/invoke/VarHandle" ∧ (parseMethodDescriptor yX9_secondOf.desc).map (fun d => d.parameters.length) = some 1) := ⟨by decide +kernel, by decide +kernel, by decide +kernel⟩
theorem hy_X9_secondOf : yX9_secondOf.cls = RX9 ∧ (yX9_secondOf.cls ≠ "java/lang/invoke/MethodHandle" ∧ yX9_secondOf.cls ≠ "java/lang/invoke/VarHandle" ∧ (parseMethodDescriptor yX9_secondOf.desc).map (fun d => d.parameters.length) = some 1) := ⟨rfl, hz_X9_secondOf⟩
theorem hz_X9_setAside : (yX9_setAside.cls ≠ "java/lang/invoke/MethodHandle" ∧ yX9_setAside.cls ≠ "java/lang/invoke/VarHandle" ∧ (parseMethodDescriptor yX9_setAside.desc).map (fun d => d.parameters.length) = some 0) := ⟨by decide +kernel, by decide +kernel, by decide +kernel⟩
theorem hy_X9_setAside : yX9_setAside.cls = RX9 ∧ (yX9_setAside.cls ≠ "java/lang/invoke/MethodHandle" ∧ yX9_setAside.cls ≠ "java/lang/invoke/VarHandle" ∧ (parseMethodDescriptor yX9_setAside.desc).map (fun d => d.parameters.length) = some 0) := ⟨rfl, hz_X9_setAside⟩
theorem hz_X9_setGeese : (yX9_setGeese.cls ≠ "java/lang/invoke/MethodHandle" ∧ yX9_setGeese.cls ≠ "java/lang/invoke/VarHandle" ∧ (parseMethodDescriptor yX9_setGeese.desc).map (fun d => d.parameters.length) = some 1) := ⟨by decide +kernel, by decide +kernel, by decide +kernel⟩
theorem hy_X9_setGeese : yX9_setGeese.cls = RX9 ∧ (yX9_setGeese.cls ≠ "java/lang/invoke/MethodHandle" ∧ yX9_setGeese.cls ≠ "java/lang/invoke/VarHandle" ∧ (parseMethodDescriptor yX9_setGeese.desc).map (fun d => d.parameters.length) = some 1) := ⟨rfl, hz_X9_setGeese⟩
theorem hz_X9_settled : (yX9_settled.cls ≠ "java/lang/invoke/MethodHandle" ∧ yX9_settled.cls ≠ "java/lang/invoke/VarHandle" ∧ (parseMethodDescriptor yX9_settled.desc).map (fun d => d.parameters.length) = some 1) := ⟨by decide +kernel, by decide +kernel, by decide +kernel⟩
theorem hy_X9_settled : yX9_settled.cls = RX9 ∧ (yX9_settled.cls ≠ "java/lang/invoke/MethodHandle" ∧ yX9_settled.cls ≠ "java/lang/invoke/VarHandle" ∧ (parseMethodDescriptor yX9_settled.desc).map (fun d => d.parameters.length) = some 1) := ⟨rfl, hz_X9_settled⟩
theorem hz_X9_shifted : (yX9_shifted.cls ≠ "java/lang/invoke/MethodHandle" ∧ yX9_shifted.cls ≠ "java/lang/invoke/VarHandle" ∧ (parseMethodDescriptor yX9_shifted.desc).map (fun d => d.parameters.length) = some 3) := ⟨by decide +kernel, by decide +kernel, by decide +kernel⟩
theorem hy_X9_shifted : yX9_shifted.cls = RX9 ∧ (yX9_shifted.cls ≠ "java/lang/invoke/MethodHandle" ∧ yX9_shifted.cls ≠ "java/lang/invoke/VarHandle" ∧ (parseMethodDescriptor yX9_shifted.desc).map (fun d => d.parameters.length) = some 3) := ⟨rfl, hz_X9_shifted⟩
theorem hz_X9_startGame : (yX9_startGame.cls ≠ "java/lang/invoke/MethodHandle" ∧ yX9_startGame.cls ≠ "java/lang/invoke/VarHandle" ∧ (parseMethodDescriptor yX9_startGame.desc).map (fun d => d.parameters.length) = some 1) := ⟨by decide +kernel, by decide +kernel, by decide +kernel⟩
theorem hy_X9_startGame : yX9_startGame.cls = RX9 ∧ (yX9_startGame.cls ≠ "java/lang/invoke/MethodHandle" ∧ yX9_startGame.cls ≠ "java/lang/invoke/VarHandle" ∧ (parseMethodDescriptor yX9_startGame.desc).map (fun d => d.parameters.length) = some 1) := ⟨rfl, hz_X9_startGame⟩
theorem hz_X9_takeBack : (yX9_takeBack.cls ≠ "java/lang/invoke/MethodHandle" ∧ yX9_takeBack.cls ≠ "java/lang/invoke/VarHandle" ∧ (parseMethodDescriptor yX9_takeBack.desc).map (fun d => d.parameters.length) = some 0) := ⟨by decide +kernel, by decide +kernel, by decide +kernel⟩
theorem hy_X9_takeBack : yX9_takeBack.cls = RX9 ∧ (yX9_takeBack.cls ≠ "java/lang/invoke/MethodHandle" ∧ yX9_takeBack.cls ≠ "java/lang/invoke/VarHandle" ∧ (parseMethodDescriptor yX9_takeBack.desc).map (fun d => d.parameters.length) = some 0) := ⟨rfl, hz_X9_takeBack⟩
theorem hz_X9_toOf : (yX9_toOf.cls ≠ "java/lang/invoke/MethodHandle" ∧ yX9_toOf.cls ≠ "java/lang/invoke/VarHandle" ∧ (parseMethodDescriptor yX9_toOf.desc).map (fun d => d.parameters.length) = some 1) := ⟨by decide +kernel, by decide +kernel, by decide +kernel⟩
theorem hy_X9_toOf : yX9_toOf.cls = RX9 ∧ (yX9_toOf.cls ≠ "java/lang/invoke/MethodHandle" ∧ yX9_toOf.cls ≠ "java/lang/invoke/VarHandle" ∧ (parseMethodDescriptor yX9_toOf.desc).map (fun d => d.parameters.length) = some 1) := ⟨rfl, hz_X9_toOf⟩
theorem hz_X9_turnOf : (yX9_turnOf.cls ≠ "java/lang/invoke/MethodHandle" ∧ yX9_turnOf.cls ≠ "java/lang/invoke/VarHandle" ∧ (parseMethodDescriptor yX9_turnOf.desc).map (fun d => d.parameters.length) = some 1) := ⟨by decide +kernel, by decide +kernel, by decide +kernel⟩
theorem hy_X9_turnOf : yX9_turnOf.cls = RX9 ∧ (yX9_turnOf.cls ≠ "java/lang/invoke/MethodHandle" ∧ yX9_turnOf.cls ≠ "java/lang/invoke/VarHandle" ∧ (parseMethodDescriptor yX9_turnOf.desc).map (fun d => d.parameters.length) = some 1) := ⟨rfl, hz_X9_turnOf⟩
theorem hz_X9_turnTrap : (yX9_turnTrap.cls ≠ "java/lang/invoke/MethodHandle" ∧ yX9_turnTrap.cls ≠ "java/lang/invoke/VarHandle" ∧ (parseMethodDescriptor yX9_turnTrap.desc).map (fun d => d.parameters.length) = some 2) := ⟨by decide +kernel, by decide +kernel, by decide +kernel⟩
theorem hy_X9_turnTrap : yX9_turnTrap.cls = RX9 ∧ (yX9_turnTrap.cls ≠ "java/lang/invoke/MethodHandle" ∧ yX9_turnTrap.cls ≠ "java/lang/invoke/VarHandle" ∧ (parseMethodDescriptor yX9_turnTrap.desc).map (fun d => d.parameters.length) = some 2) := ⟨rfl, hz_X9_turnTrap⟩
theorem hz_X9_winsOfFoxOn : (yX9_winsOfFoxOn.cls ≠ "java/lang/invoke/MethodHandle" ∧ yX9_winsOfFoxOn.cls ≠ "java/lang/invoke/VarHandle" ∧ (parseMethodDescriptor yX9_winsOfFoxOn.desc).map (fun d => d.parameters.length) = some 1) := ⟨by decide +kernel, by decide +kernel, by decide +kernel⟩
theorem hy_X9_winsOfFoxOn : yX9_winsOfFoxOn.cls = RX9 ∧ (yX9_winsOfFoxOn.cls ≠ "java/lang/invoke/MethodHandle" ∧ yX9_winsOfFoxOn.cls ≠ "java/lang/invoke/VarHandle" ∧ (parseMethodDescriptor yX9_winsOfFoxOn.desc).map (fun d => d.parameters.length) = some 1) := ⟨rfl, hz_X9_winsOfFoxOn⟩
theorem hz_X9_withoutFirst : (yX9_withoutFirst.cls ≠ "java/lang/invoke/MethodHandle" ∧ yX9_withoutFirst.cls ≠ "java/lang/invoke/VarHandle" ∧ (parseMethodDescriptor yX9_withoutFirst.desc).map (fun d => d.parameters.length) = some 1) := ⟨by decide +kernel, by decide +kernel, by decide +kernel⟩
theorem hy_X9_withoutFirst : yX9_withoutFirst.cls = RX9 ∧ (yX9_withoutFirst.cls ≠ "java/lang/invoke/MethodHandle" ∧ yX9_withoutFirst.cls ≠ "java/lang/invoke/VarHandle" ∧ (parseMethodDescriptor yX9_withoutFirst.desc).map (fun d => d.parameters.length) = some 1) := ⟨rfl, hz_X9_withoutFirst⟩
