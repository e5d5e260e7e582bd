theorem wd_515 : (Jvm.Cond.methodLink "FoxBurrowsLaw" (198 : Nat) ({ cls := "FoxBurrowsLaw", name := "burrowOf", desc := "(LFoxBurrows;II)I" } : Jvm.MethodName)) ∈ TB := zTB 515 (by decide +kernel) (by decide +kernel)
theorem wd_516 : (Jvm.Cond.static ({ cls := "FoxBurrowsLaw", name := "burrowOf", desc := "(LFoxBurrows;II)I" } : Jvm.MethodName)) ∈ TB := zTB 516 (by decide +kernel) (by decide +kernel)
theorem wd_517 : (Jvm.Cond.codeWith ({ cls := "FoxBurrowsLaw", name := "burrowOf", desc := "(LFoxBurrows;II)I" } : Jvm.MethodName) method_25_code (4 : Nat) (Option.some Jvm.ClassFile.FieldType.int) [((0 : Nat), (6 : Nat), (7 : Nat), (83 : Nat)), ((0 : Nat), (6 : Nat), (12 : Nat), (51 : Nat))]) ∈ TB := zTB 517 (by decide +kernel) (by decide +kernel)
theorem wd_696 : (Jvm.Cond.methodLink "FoxBurrowsLaw" (200 : Nat) ({ cls := "FoxBurrowsLaw", name := "pathOf", desc := "(LFoxBurrows;IZ)I" } : Jvm.MethodName)) ∈ TB := zTB 696 (by decide +kernel) (by decide +kernel)
theorem wd_697 : (Jvm.Cond.static ({ cls := "FoxBurrowsLaw", name := "pathOf", desc := "(LFoxBurrows;IZ)I" } : Jvm.MethodName)) ∈ TB := zTB 697 (by decide +kernel) (by decide +kernel)
theorem wd_698 : (Jvm.Cond.codeWith ({ cls := "FoxBurrowsLaw", name := "pathOf", desc := "(LFoxBurrows;IZ)I" } : Jvm.MethodName) method_26_code (4 : Nat) (Option.some Jvm.ClassFile.FieldType.int) [((0 : Nat), (6 : Nat), (7 : Nat), (83 : Nat))]) ∈ TB := zTB 698 (by decide +kernel) (by decide +kernel)
theorem wd_823 : (Jvm.Cond.methodLink "FoxBurrowsLaw" (196 : Nat) ({ cls := "FoxBurrowsLaw", name := "account", desc := "(LFoxBurrows;I)I" } : Jvm.MethodName)) ∈ TB := zTB 823 (by decide +kernel) (by decide +kernel)
theorem wd_824 : (Jvm.Cond.static ({ cls := "FoxBurrowsLaw", name := "account", desc := "(LFoxBurrows;I)I" } : Jvm.MethodName)) ∈ TB := zTB 824 (by decide +kernel) (by decide +kernel)
theorem wd_825 : (Jvm.Cond.codeWith ({ cls := "FoxBurrowsLaw", name := "account", desc := "(LFoxBurrows;I)I" } : Jvm.MethodName) method_34_code (3 : Nat) (Option.some Jvm.ClassFile.FieldType.int) [((0 : Nat), (5 : Nat), (6 : Nat), (51 : Nat))]) ∈ TB := zTB 825 (by decide +kernel) (by decide +kernel)
theorem wd_907 : (Jvm.Cond.constantLong "FoxBurrowsLaw" (176 : Nat) (31 : Int64)) ∈ TB := zTB 907 (by decide +kernel) (by decide +kernel)
theorem wd_908 : (Jvm.Cond.methodLink "FoxBurrowsLaw" (178 : Nat) ({ cls := "FoxBurrowsLaw", name := "meanMoves", desc := "(LFoxBurrows;)D" } : Jvm.MethodName)) ∈ TB := zTB 908 (by decide +kernel) (by decide +kernel)
theorem wd_909 : (Jvm.Cond.static ({ cls := "FoxBurrowsLaw", name := "meanMoves", desc := "(LFoxBurrows;)D" } : Jvm.MethodName)) ∈ TB := zTB 909 (by decide +kernel) (by decide +kernel)
theorem wd_910 : (Jvm.Cond.codeWith ({ cls := "FoxBurrowsLaw", name := "meanMoves", desc := "(LFoxBurrows;)D" } : Jvm.MethodName) method_32_code (2 : Nat) (Option.some Jvm.ClassFile.FieldType.double) [((0 : Nat), (4 : Nat), (5 : Nat), (117 : Nat))]) ∈ TB := zTB 910 (by decide +kernel) (by decide +kernel)
theorem wd_933 : (Jvm.Cond.methodLink "FoxBurrowsLaw" (181 : Nat) ({ cls := "java/lang/Double", name := "doubleToLongBits", desc := "(D)J" } : Jvm.MethodName)) ∈ TB := zTB 933 (by decide +kernel) (by decide +kernel)
theorem wd_934 : (Jvm.Cond.static ({ cls := "java/lang/Double", name := "doubleToLongBits", desc := "(D)J" } : Jvm.MethodName)) ∈ TB := zTB 934 (by decide +kernel) (by decide +kernel)
theorem wd_935 : (Jvm.Cond.code ({ cls := "java/lang/Double", name := "doubleToLongBits", desc := "(D)J" } : Jvm.MethodName) prog_21_method_23_code (2 : Nat) (Option.some Jvm.ClassFile.FieldType.long)) ∈ TB := zTB 935 (by decide +kernel) (by decide +kernel)
theorem wd_943 : (Jvm.Cond.methodLink "FoxBurrowsLaw" (187 : Nat) ({ cls := "FoxBurrowsLaw", name := "drawn", desc := "(LFoxBurrows;)F" } : Jvm.MethodName)) ∈ TB := zTB 943 (by decide +kernel) (by decide +kernel)
theorem wd_944 : (Jvm.Cond.static ({ cls := "FoxBurrowsLaw", name := "drawn", desc := "(LFoxBurrows;)F" } : Jvm.MethodName)) ∈ TB := zTB 944 (by decide +kernel) (by decide +kernel)
theorem wd_945 : (Jvm.Cond.codeWith ({ cls := "FoxBurrowsLaw", name := "drawn", desc := "(LFoxBurrows;)F" } : Jvm.MethodName) method_33_code (2 : Nat) (Option.some Jvm.ClassFile.FieldType.float) [((0 : Nat), (4 : Nat), (5 : Nat), (117 : Nat))]) ∈ TB := zTB 945 (by decide +kernel) (by decide +kernel)
theorem wd_952 : (Jvm.Cond.methodLink "FoxBurrowsLaw" (190 : Nat) ({ cls := "java/lang/Float", name := "floatToIntBits", desc := "(F)I" } : Jvm.MethodName)) ∈ TB := zTB 952 (by decide +kernel) (by decide +kernel)
theorem wd_953 : (Jvm.Cond.static ({ cls := "java/lang/Float", name := "floatToIntBits", desc := "(F)I" } : Jvm.MethodName)) ∈ TB := zTB 953 (by decide +kernel) (by decide +kernel)
theorem wd_954 : (Jvm.Cond.code ({ cls := "java/lang/Float", name := "floatToIntBits", desc := "(F)I" } : Jvm.MethodName) prog_23_method_24_code (1 : Nat) (Option.some Jvm.ClassFile.FieldType.int)) ∈ TB := zTB 954 (by decide +kernel) (by decide +kernel)
theorem wd_962 : (Jvm.Cond.methodLink "FoxBurrowsLaw" (202 : Nat) ({ cls := "FoxBurrowsLaw", name := "count", desc := "(LFoxBurrows;IZ)I" } : Jvm.MethodName)) ∈ TB := zTB 962 (by decide +kernel) (by decide +kernel)
theorem wd_963 : (Jvm.Cond.static ({ cls := "FoxBurrowsLaw", name := "count", desc := "(LFoxBurrows;IZ)I" } : Jvm.MethodName)) ∈ TB := zTB 963 (by decide +kernel) (by decide +kernel)
theorem wd_964 : (Jvm.Cond.codeWith ({ cls := "FoxBurrowsLaw", name := "count", desc := "(LFoxBurrows;IZ)I" } : Jvm.MethodName) method_20_code (4 : Nat) (Option.some Jvm.ClassFile.FieldType.int) [((0 : Nat), (6 : Nat), (7 : Nat), (51 : Nat))]) ∈ TB := zTB 964 (by decide +kernel) (by decide +kernel)
theorem wd_971 : (Jvm.Cond.methodLink "FoxBurrowsLaw" (204 : Nat) ({ cls := "FoxBurrowsLaw", name := "positionOf", desc := "(LFoxBurrows;II)I" } : Jvm.MethodName)) ∈ TB := zTB 971 (by decide +kernel) (by decide +kernel)
theorem wd_972 : (Jvm.Cond.static ({ cls := "FoxBurrowsLaw", name := "positionOf", desc := "(LFoxBurrows;II)I" } : Jvm.MethodName)) ∈ TB := zTB 972 (by decide +kernel) (by decide +kernel)
theorem wd_973 : (Jvm.Cond.codeWith ({ cls := "FoxBurrowsLaw", name := "positionOf", desc := "(LFoxBurrows;II)I" } : Jvm.MethodName) method_14_code (4 : Nat) (Option.some Jvm.ClassFile.FieldType.int) [((0 : Nat), (6 : Nat), (7 : Nat), (51 : Nat)), ((0 : Nat), (6 : Nat), (12 : Nat), (46 : Nat))]) ∈ TB := zTB 973 (by decide +kernel) (by decide +kernel)
theorem wd_984 : (Jvm.Cond.methodLink "FoxBurrowsLaw" (206 : Nat) ({ cls := "FoxBurrowsLaw", name := "outcomeAgain", desc := "(LFoxBurrows;I)I" } : Jvm.MethodName)) ∈ TB := zTB 984 (by decide +kernel) (by decide +kernel)
theorem wd_985 : (Jvm.Cond.static ({ cls := "FoxBurrowsLaw", name := "outcomeAgain", desc := "(LFoxBurrows;I)I" } : Jvm.MethodName)) ∈ TB := zTB 985 (by decide +kernel) (by decide +kernel)
theorem wd_986 : (Jvm.Cond.codeWith ({ cls := "FoxBurrowsLaw", name := "outcomeAgain", desc := "(LFoxBurrows;I)I" } : Jvm.MethodName) method_15_code (3 : Nat) (Option.some Jvm.ClassFile.FieldType.int) [((0 : Nat), (5 : Nat), (6 : Nat), (46 : Nat))]) ∈ TB := zTB 986 (by decide +kernel) (by decide +kernel)
theorem wd_1013 : (Jvm.Cond.methodLink "FoxBurrowsLaw" (208 : Nat) ({ cls := "FoxBurrowsLaw", name := "best", desc := "(LFoxBurrows;I)I" } : Jvm.MethodName)) ∈ TB := zTB 1013 (by decide +kernel) (by decide +kernel)
theorem wd_1014 : (Jvm.Cond.static ({ cls := "FoxBurrowsLaw", name := "best", desc := "(LFoxBurrows;I)I" } : Jvm.MethodName)) ∈ TB := zTB 1014 (by decide +kernel) (by decide +kernel)
theorem wd_1015 : (Jvm.Cond.codeWith ({ cls := "FoxBurrowsLaw", name := "best", desc := "(LFoxBurrows;I)I" } : Jvm.MethodName) method_17_code (3 : Nat) (Option.some Jvm.ClassFile.FieldType.int) [((0 : Nat), (5 : Nat), (6 : Nat), (46 : Nat))]) ∈ TB := zTB 1015 (by decide +kernel) (by decide +kernel)
theorem wd_1021 : (Jvm.Cond.methodLink "FoxBurrowsLaw" (210 : Nat) ({ cls := "FoxBurrowsLaw", name := "ending", desc := "(LFoxBurrows;I)I" } : Jvm.MethodName)) ∈ TB := zTB 1021 (by decide +kernel) (by decide +kernel)
theorem wd_1022 : (Jvm.Cond.static ({ cls := "FoxBurrowsLaw", name := "ending", desc := "(LFoxBurrows;I)I" } : Jvm.MethodName)) ∈ TB := zTB 1022 (by decide +kernel) (by decide +kernel)
theorem wd_1023 : (Jvm.Cond.codeWith ({ cls := "FoxBurrowsLaw", name := "ending", desc := "(LFoxBurrows;I)I" } : Jvm.MethodName) method_19_code (3 : Nat) (Option.some Jvm.ClassFile.FieldType.int) [((0 : Nat), (5 : Nat), (6 : Nat), (46 : Nat))]) ∈ TB := zTB 1023 (by decide +kernel) (by decide +kernel)
theorem wd_1029 : (Jvm.Cond.methodLink "FoxBurrowsLaw" (213 : Nat) ({ cls := "FoxBurrowsLaw", name := "bestBurrow", desc := "(LFoxBurrows;I)I" } : Jvm.MethodName)) ∈ TB := zTB 1029 (by decide +kernel) (by decide +kernel)
theorem wd_1030 : (Jvm.Cond.static ({ cls := "FoxBurrowsLaw", name := "bestBurrow", desc := "(LFoxBurrows;I)I" } : Jvm.MethodName)) ∈ TB := zTB 1030 (by decide +kernel) (by decide +kernel)
theorem wd_1031 : (Jvm.Cond.codeWith ({ cls := "FoxBurrowsLaw", name := "bestBurrow", desc := "(LFoxBurrows;I)I" } : Jvm.MethodName) method_24_code (3 : Nat) (Option.some Jvm.ClassFile.FieldType.int) [((0 : Nat), (5 : Nat), (6 : Nat), (46 : Nat))]) ∈ TB := zTB 1031 (by decide +kernel) (by decide +kernel)
theorem wd_1037 : (Jvm.Cond.methodLink "FoxBurrowsLaw" (215 : Nat) ({ cls := "FoxBurrowsLaw", name := "moveOf", desc := "(LFoxBurrows;IIZ)I" } : Jvm.MethodName)) ∈ TB := zTB 1037 (by decide +kernel) (by decide +kernel)
theorem wd_1038 : (Jvm.Cond.static ({ cls := "FoxBurrowsLaw", name := "moveOf", desc := "(LFoxBurrows;IIZ)I" } : Jvm.MethodName)) ∈ TB := zTB 1038 (by decide +kernel) (by decide +kernel)
theorem wd_1039 : (Jvm.Cond.codeWith ({ cls := "FoxBurrowsLaw", name := "moveOf", desc := "(LFoxBurrows;IIZ)I" } : Jvm.MethodName) method_16_code (5 : Nat) (Option.some Jvm.ClassFile.FieldType.int) [((0 : Nat), (7 : Nat), (8 : Nat), (46 : Nat))]) ∈ TB := zTB 1039 (by decide +kernel) (by decide +kernel)
theorem wd_1047 : (Jvm.Cond.methodLink "FoxBurrowsLaw" (218 : Nat) ({ cls := "FoxBurrowsLaw", name := "wonIn", desc := "(LFoxBurrows;I)I" } : Jvm.MethodName)) ∈ TB := zTB 1047 (by decide +kernel) (by decide +kernel)
theorem wd_1048 : (Jvm.Cond.static ({ cls := "FoxBurrowsLaw", name := "wonIn", desc := "(LFoxBurrows;I)I" } : Jvm.MethodName)) ∈ TB := zTB 1048 (by decide +kernel) (by decide +kernel)
theorem wd_1049 : (Jvm.Cond.codeWith ({ cls := "FoxBurrowsLaw", name := "wonIn", desc := "(LFoxBurrows;I)I" } : Jvm.MethodName) method_22_code (3 : Nat) (Option.some Jvm.ClassFile.FieldType.int) [((0 : Nat), (5 : Nat), (6 : Nat), (51 : Nat))]) ∈ TB := zTB 1049 (by decide +kernel) (by decide +kernel)
theorem wd_1055 : (Jvm.Cond.methodLink "FoxBurrowsLaw" (154 : Nat) ({ cls := "FoxBurrows", name := "line", desc := "()I" } : Jvm.MethodName)) ∈ TB := zTB 1055 (by decide +kernel) (by decide +kernel)
theorem wd_1056 : (Jvm.Cond.instanceMethod ({ cls := "FoxBurrows", name := "line", desc := "()I" } : Jvm.MethodName)) ∈ TB := zTB 1056 (by decide +kernel) (by decide +kernel)
theorem wd_1057 : (Jvm.Cond.selects "FoxBurrows" ({ cls := "FoxBurrows", name := "line", desc := "()I" } : Jvm.MethodName) ({ cls := "FoxBurrows", name := "line", desc := "()I" } : Jvm.MethodName)) ∈ TB := zTB 1057 (by decide +kernel) (by decide +kernel)
theorem wd_1058 : (Jvm.Cond.code ({ cls := "FoxBurrows", name := "line", desc := "()I" } : Jvm.MethodName) prog_1_method_33_code (6 : Nat) (Option.some Jvm.ClassFile.FieldType.int)) ∈ TB := zTB 1058 (by decide +kernel) (by decide +kernel)
theorem wd_1059 : (Jvm.Cond.methodLink "FoxBurrowsLaw" (157 : Nat) ({ cls := "FoxBurrowsLaw", name := "character", desc := "(LFoxBurrows;I)I" } : Jvm.MethodName)) ∈ TB := zTB 1059 (by decide +kernel) (by decide +kernel)
theorem wd_1060 : (Jvm.Cond.static ({ cls := "FoxBurrowsLaw", name := "character", desc := "(LFoxBurrows;I)I" } : Jvm.MethodName)) ∈ TB := zTB 1060 (by decide +kernel) (by decide +kernel)
theorem wd_1061 : (Jvm.Cond.codeWith ({ cls := "FoxBurrowsLaw", name := "character", desc := "(LFoxBurrows;I)I" } : Jvm.MethodName) method_31_code (3 : Nat) (Option.some Jvm.ClassFile.FieldType.int) [((0 : Nat), (5 : Nat), (6 : Nat), (83 : Nat))]) ∈ TB := zTB 1061 (by decide +kernel) (by decide +kernel)
theorem wd_1068 : (Jvm.Cond.methodLink "FoxBurrowsLaw" (220 : Nat) ({ cls := "FoxBurrowsLaw", name := "longest", desc := "(LFoxBurrows;Z)I" } : Jvm.MethodName)) ∈ TB := zTB 1068 (by decide +kernel) (by decide +kernel)
theorem wd_1069 : (Jvm.Cond.static ({ cls := "FoxBurrowsLaw", name := "longest", desc := "(LFoxBurrows;Z)I" } : Jvm.MethodName)) ∈ TB := zTB 1069 (by decide +kernel) (by decide +kernel)
theorem wd_1070 : (Jvm.Cond.codeWith ({ cls := "FoxBurrowsLaw", name := "longest", desc := "(LFoxBurrows;Z)I" } : Jvm.MethodName) method_21_code (3 : Nat) (Option.some Jvm.ClassFile.FieldType.int) [((0 : Nat), (5 : Nat), (6 : Nat), (46 : Nat))]) ∈ TB := zTB 1070 (by decide +kernel) (by decide +kernel)
theorem wd_1076 : (Jvm.Cond.methodLink "FoxBurrowsLaw" (223 : Nat) ({ cls := "FoxBurrowsLaw", name := "wouldChange", desc := "(LFoxBurrows;II)I" } : Jvm.MethodName)) ∈ TB := zTB 1076 (by decide +kernel) (by decide +kernel)
theorem wd_1077 : (Jvm.Cond.static ({ cls := "FoxBurrowsLaw", name := "wouldChange", desc := "(LFoxBurrows;II)I" } : Jvm.MethodName)) ∈ TB := zTB 1077 (by decide +kernel) (by decide +kernel)
theorem wd_1078 : (Jvm.Cond.codeWith ({ cls := "FoxBurrowsLaw", name := "wouldChange", desc := "(LFoxBurrows;II)I" } : Jvm.MethodName) method_23_code (4 : Nat) (Option.some Jvm.ClassFile.FieldType.int) [((0 : Nat), (6 : Nat), (7 : Nat), (83 : Nat)), ((0 : Nat), (6 : Nat), (12 : Nat), (51 : Nat))]) ∈ TB := zTB 1078 (by decide +kernel) (by decide +kernel)
theorem wd_1086 : (Jvm.Cond.methodLink "FoxBurrowsLaw" (225 : Nat) ({ cls := "FoxBurrowsLaw", name := "now", desc := "(LFoxBurrows;)I" } : Jvm.MethodName)) ∈ TB := zTB 1086 (by decide +kernel) (by decide +kernel)
theorem wd_1087 : (Jvm.Cond.static ({ cls := "FoxBurrowsLaw", name := "now", desc := "(LFoxBurrows;)I" } : Jvm.MethodName)) ∈ TB := zTB 1087 (by decide +kernel) (by decide +kernel)
theorem wd_1088 : (Jvm.Cond.codeWith ({ cls := "FoxBurrowsLaw", name := "now", desc := "(LFoxBurrows;)I" } : Jvm.MethodName) method_27_code (2 : Nat) (Option.some Jvm.ClassFile.FieldType.int) [((0 : Nat), (4 : Nat), (5 : Nat), (46 : Nat))]) ∈ TB := zTB 1088 (by decide +kernel) (by decide +kernel)
theorem hz_Jxe99ae_doubleToLongBits_ccdee : (yJxe99ae_doubleToLongBits_ccdee.cls ≠ "java/lang/invoke/MethodHandle" ∧ yJxe99ae_doubleToLongBits_ccdee.cls ≠ "java/lang/invoke/VarHandle" ∧ (parseMethodDescriptor yJxe99ae_doubleToLongBits_ccdee.desc).map (fun d => d.parameters.length) = some 1) := ⟨by decide +kernel, by decide +kernel, by decide +kernel⟩
theorem hy_Jxe99ae_doubleToLongBits_ccdee : yJxe99ae_doubleToLongBits_ccdee.cls = RJxe99ae ∧ (yJxe99ae_doubleToLongBits_ccdee.cls ≠ "java/lang/invoke/MethodHandle" ∧ yJxe99ae_doubleToLongBits_ccdee.cls ≠ "java/lang/invoke/VarHandle" ∧ (parseMethodDescriptor yJxe99ae_doubleToLongBits_ccdee.desc).map (fun d => d.parameters.length) = some 1) := ⟨rfl, hz_Jxe99ae_doubleToLongBits_ccdee⟩
theorem hz_Jxf58ca_floatToIntBits_5c35a : (yJxf58ca_floatToIntBits_5c35a.cls ≠ "java/lang/invoke/MethodHandle" ∧ yJxf58ca_floatToIntBits_5c35a.cls ≠ "java/lang/invoke/VarHandle" ∧ (parseMethodDescriptor yJxf58ca_floatToIntBits_5c35a.desc).map (fun d => d.parameters.length) = some 1) := ⟨by decide +kernel, by decide +kernel, by decide +kernel⟩
theorem hy_Jxf58ca_floatToIntBits_5c35a : yJxf58ca_floatToIntBits_5c35a.cls = RJxf58ca ∧ (yJxf58ca_floatToIntBits_5c35a.cls ≠ "java/lang/invoke/MethodHandle" ∧ yJxf58ca_floatToIntBits_5c35a.cls ≠ "java/lang/invoke/VarHandle" ∧ (parseMethodDescriptor yJxf58ca_floatToIntBits_5c35a.desc).map (fun d => d.parameters.length) = some 1) := ⟨rfl, hz_Jxf58ca_floatToIntBits_5c35a⟩
theorem hz_L_account : (yL_account.cls ≠ "java/lang/invoke/MethodHandle" ∧ yL_account.cls ≠ "java/lang/invoke/VarHandle" ∧ (parseMethodDescriptor yL_account.desc).map (fun d => d.parameters.length) = some 2) := ⟨by decide +kernel, by decide +kernel, by decide +kernel⟩
theorem hy_L_account : yL_account.cls = RL ∧ (yL_account.cls ≠ "java/lang/invoke/MethodHandle" ∧ yL_account.cls ≠ "java/lang/invoke/VarHandle" ∧ (parseMethodDescriptor yL_account.desc).map (fun d => d.parameters.length) = some 2) := ⟨rfl, hz_L_account⟩
theorem hz_L_best : (yL_best.cls ≠ "java/lang/invoke/MethodHandle" ∧ yL_best.cls ≠ "java/lang/invoke/VarHandle" ∧ (parseMethodDescriptor yL_best.desc).map (fun d => d.parameters.length) = some 2) := ⟨by decide +kernel, by decide +kernel, by decide +kernel⟩
theorem hy_L_best : yL_best.cls = RL ∧ (yL_best.cls ≠ "java/lang/invoke/MethodHandle" ∧ yL_best.cls ≠ "java/lang/invoke/VarHandle" ∧ (parseMethodDescriptor yL_best.desc).map (fun d => d.parameters.length) = some 2) := ⟨rfl, hz_L_best⟩
theorem hz_L_bestBurrow : (yL_bestBurrow.cls ≠ "java/lang/invoke/MethodHandle" ∧ yL_bestBurrow.cls ≠ "java/lang/invoke/VarHandle" ∧ (parseMethodDescriptor yL_bestBurrow.desc).map (fun d => d.parameters.length) = some 2) := ⟨by decide +kernel, by decide +kernel, by decide +kernel⟩
theorem hy_L_bestBurrow : yL_bestBurrow.cls = RL ∧ (yL_bestBurrow.cls ≠ "java/lang/invoke/MethodHandle" ∧ yL_bestBurrow.cls ≠ "java/lang/invoke/VarHandle" ∧ (parseMethodDescriptor yL_bestBurrow.desc).map (fun d => d.parameters.length) = some 2) := ⟨rfl, hz_L_bestBurrow⟩
theorem hz_L_burrowOf : (yL_burrowOf.cls ≠ "java/lang/invoke/MethodHandle" ∧ yL_burrowOf.cls ≠ "java/lang/invoke/VarHandle" ∧ (parseMethodDescriptor yL_burrowOf.desc).map (fun d => d.parameters.length) = some 3) := ⟨by decide +kernel, by decide +kernel, by decide +kernel⟩
theorem hy_L_burrowOf : yL_burrowOf.cls = RL ∧ (yL_burrowOf.cls ≠ "java/lang/invoke/MethodHandle" ∧ yL_burrowOf.cls ≠ "java/lang/invoke/VarHandle" ∧ (parseMethodDescriptor yL_burrowOf.desc).map (fun d => d.parameters.length) = some 3) := ⟨rfl, hz_L_burrowOf⟩
theorem hz_L_character : (yL_character.cls ≠ "java/lang/invoke/MethodHandle" ∧ yL_character.cls ≠ "java/lang/invoke/VarHandle" ∧ (parseMethodDescriptor yL_character.desc).map (fun d => d.parameters.length) = some 2) := ⟨by decide +kernel, by decide +kernel, by decide +kernel⟩
theorem hy_L_character : yL_character.cls = RL ∧ (yL_character.cls ≠ "java/lang/invoke/MethodHandle" ∧ yL_character.cls ≠ "java/lang/invoke/VarHandle" ∧ (parseMethodDescriptor yL_character.desc).map (fun d => d.parameters.length) = some 2) := ⟨rfl, hz_L_character⟩
theorem hz_L_count : (yL_count.cls ≠ "java/lang/invoke/MethodHandle" ∧ yL_count.cls ≠ "java/lang/invoke/VarHandle" ∧ (parseMethodDescriptor yL_count.desc).map (fun d => d.parameters.length) = some 3) := ⟨by decide +kernel, by decide +kernel, by decide +kernel⟩
theorem hy_L_count : yL_count.cls = RL ∧ (yL_count.cls ≠ "java/lang/invoke/MethodHandle" ∧ yL_count.cls ≠ "java/lang/invoke/VarHandle" ∧ (parseMethodDescriptor yL_count.desc).map (fun d => d.parameters.length) = some 3) := ⟨rfl, hz_L_count⟩
theorem hz_L_drawn : (yL_drawn.cls ≠ "java/lang/invoke/MethodHandle" ∧ yL_drawn.cls ≠ "java/lang/invoke/VarHandle" ∧ (parseMethodDescriptor yL_drawn.desc).map (fun d => d.parameters.length) = some 1) := ⟨by decide +kernel, by decide +kernel, by decide +kernel⟩
theorem hy_L_drawn : yL_drawn.cls = RL ∧ (yL_drawn.cls ≠ "java/lang/invoke/MethodHandle" ∧ yL_drawn.cls ≠ "java/lang/invoke/VarHandle" ∧ (parseMethodDescriptor yL_drawn.desc).map (fun d => d.parameters.length) = some 1) := ⟨rfl, hz_L_drawn⟩
theorem hz_L_ending : (yL_ending.cls ≠ "java/lang/invoke/MethodHandle" ∧ yL_ending.cls ≠ "java/lang/invoke/VarHandle" ∧ (parseMethodDescriptor yL_ending.desc).map (fun d => d.parameters.length) = some 2) := ⟨by decide +kernel, by decide +kernel, by decide +kernel⟩
theorem hy_L_ending : yL_ending.cls = RL ∧ (yL_ending.cls ≠ "java/lang/invoke/MethodHandle" ∧ yL_ending.cls ≠ "java/lang/invoke/VarHandle" ∧ (parseMethodDescriptor yL_ending.desc).map (fun d => d.parameters.length) = some 2) := ⟨rfl, hz_L_ending⟩
theorem hz_L_longest : (yL_longest.cls ≠ "java/lang/invoke/MethodHandle" ∧ yL_longest.cls ≠ "java/lang/invoke/VarHandle" ∧ (parseMethodDescriptor yL_longest.desc).map (fun d => d.parameters.length) = some 2) := ⟨by decide +kernel, by decide +kernel, by decide +kernel⟩
theorem hy_L_longest : yL_longest.cls = RL ∧ (yL_longest.cls ≠ "java/lang/invoke/MethodHandle" ∧ yL_longest.cls ≠ "java/lang/invoke/VarHandle" ∧ (parseMethodDescriptor yL_longest.desc).map (fun d => d.parameters.length) = some 2) := ⟨rfl, hz_L_longest⟩
theorem hz_L_meanMoves : (yL_meanMoves.cls ≠ "java/lang/invoke/MethodHandle" ∧ yL_meanMoves.cls ≠ "java/lang/invoke/VarHandle" ∧ (parseMethodDescriptor yL_meanMoves.desc).map (fun d => d.parameters.length) = some 1) := ⟨by decide +kernel, by decide +kernel, by decide +kernel⟩
theorem hy_L_meanMoves : yL_meanMoves.cls = RL ∧ (yL_meanMoves.cls ≠ "java/lang/invoke/MethodHandle" ∧ yL_meanMoves.cls ≠ "java/lang/invoke/VarHandle" ∧ (parseMethodDescriptor yL_meanMoves.desc).map (fun d => d.parameters.length) = some 1) := ⟨rfl, hz_L_meanMoves⟩
theorem hz_L_moveOf : (yL_moveOf.cls ≠ "java/lang/invoke/MethodHandle" ∧ yL_moveOf.cls ≠ "java/lang/invoke/VarHandle" ∧ (parseMethodDescriptor yL_moveOf.desc).map (fun d => d.parameters.length) = some 4) := ⟨by decide +kernel, by decide +kernel, by decide +kernel⟩
theorem hy_L_moveOf : yL_moveOf.cls = RL ∧ (yL_moveOf.cls ≠ "java/lang/invoke/MethodHandle" ∧ yL_moveOf.cls ≠ "java/lang/invoke/VarHandle" ∧ (parseMethodDescriptor yL_moveOf.desc).map (fun d => d.parameters.length) = some 4) := ⟨rfl, hz_L_moveOf⟩
theorem hz_L_now : (yL_now.cls ≠ "java/lang/invoke/MethodHandle" ∧ yL_now.cls ≠ "java/lang/invoke/VarHandle" ∧ (parseMethodDescriptor yL_now.desc).map (fun d => d.parameters.length) = some 1) := ⟨by decide +kernel, by decide +kernel, by decide +kernel⟩
theorem hy_L_now : yL_now.cls = RL ∧ (yL_now.cls ≠ "java/lang/invoke/MethodHandle" ∧ yL_now.cls ≠ "java/lang/invoke/VarHandle" ∧ (parseMethodDescriptor yL_now.desc).map (fun d => d.parameters.length) = some 1) := ⟨rfl, hz_L_now⟩
theorem hz_L_outcomeAgain : (yL_outcomeAgain.cls ≠ "java/lang/invoke/MethodHandle" ∧ yL_outcomeAgain.cls ≠ "java/lang/invoke/VarHandle" ∧ (parseMethodDescriptor yL_outcomeAgain.desc).map (fun d => d.parameters.length) = some 2) := ⟨by decide +kernel, by decide +kernel, by decide +kernel⟩
theorem hy_L_outcomeAgain : yL_outcomeAgain.cls = RL ∧ (yL_outcomeAgain.cls ≠ "java/lang/invoke/MethodHandle" ∧ yL_outcomeAgain.cls ≠ "java/lang/invoke/VarHandle" ∧ (parseMethodDescriptor yL_outcomeAgain.desc).map (fun d => d.parameters.length) = some 2) := ⟨rfl, hz_L_outcomeAgain⟩
theorem hz_L_pathOf : (yL_pathOf.cls ≠ "java/lang/invoke/MethodHandle" ∧ yL_pathOf.cls ≠ "java/lang/invoke/VarHandle" ∧ (parseMethodDescriptor yL_pathOf.desc).map (fun d => d.parameters.length) = some 3) := ⟨by decide +kernel, by decide +kernel, by decide +kernel⟩
theorem hy_L_pathOf : yL_pathOf.cls = RL ∧ (yL_pathOf.cls ≠ "java/lang/invoke/MethodHandle" ∧ yL_pathOf.cls ≠ "java/lang/invoke/VarHandle" ∧ (parseMethodDescriptor yL_pathOf.desc).map (fun d => d.parameters.length) = some 3) := ⟨rfl, hz_L_pathOf⟩
theorem hz_L_positionOf : (yL_positionOf.cls ≠ "java/lang/invoke/MethodHandle" ∧ yL_positionOf.cls ≠ "java/lang/invoke/VarHandle" ∧ (parseMethodDescriptor yL_positionOf.desc).map (fun d => d.parameters.length) = some 3) := ⟨by decide +kernel, by decide +kernel, by decide +kernel⟩
theorem hy_L_positionOf : yL_positionOf.cls = RL ∧ (yL_positionOf.cls ≠ "java/lang/invoke/MethodHandle" ∧ yL_positionOf.cls ≠ "java/lang/invoke/VarHandle" ∧ (parseMethodDescriptor yL_positionOf.desc).map (fun d => d.parameters.length) = some 3) := ⟨rfl, hz_L_positionOf⟩
theorem hz_L_wonIn : (yL_wonIn.cls ≠ "java/lang/invoke/MethodHandle" ∧ yL_wonIn.cls ≠ "java/lang/invoke/VarHandle" ∧ (parseMethodDescriptor yL_wonIn.desc).map (fun d => d.parameters.length) = some 2) := ⟨by decide +kernel, by decide +kernel, by decide +kernel⟩
theorem hy_L_wonIn : yL_wonIn.cls = RL ∧ (yL_wonIn.cls ≠ "java/lang/invoke/MethodHandle" ∧ yL_wonIn.cls ≠ "java/lang/invoke/VarHandle" ∧ (parseMethodDescriptor yL_wonIn.desc).map (fun d => d.parameters.length) = some 2) := ⟨rfl, hz_L_wonIn⟩
theorem hz_L_wouldChange : (yL_wouldChange.cls ≠ "java/lang/invoke/MethodHandle" ∧ yL_wouldChange.cls ≠ "java/lang/invoke/VarHandle" ∧ (parseMethodDescriptor yL_wouldChange.desc).map (fun d => d.parameters.length) = some 3) := ⟨by decide +kernel, by decide +kernel, by decide +kernel⟩
theorem hy_L_wouldChange : yL_wouldChange.cls = RL ∧ (yL_wouldChange.cls ≠ "java/lang/invoke/MethodHandle" ∧ yL_wouldChange.cls ≠ "java/lang/invoke/VarHandle" ∧ (parseMethodDescriptor yL_wouldChange.desc).map (fun d => d.parameters.length) = some 3) := ⟨rfl, hz_L_wouldChange⟩
theorem hz_X9_line : (yX9_line.cls ≠ "java/lang/invoke/MethodHandle" ∧ yX9_line.cls ≠ "java/lang/invoke/VarHandle" ∧ (parseMethodDescriptor yX9_line.desc).map (fun d => d.parameters.length) = some 0) := ⟨by decide +kernel, by decide +kernel, by decide +kernel⟩
theorem hy_X9_line : yX9_line.cls = RX9 ∧ (yX9_line.cls ≠ "java/lang/invoke/MethodHandle" ∧ yX9_line.cls ≠ "java/lang/invoke/VarHandle" ∧ (parseMethodDescriptor yX9_line.desc).map (fun d => d.parameters.length) = some 0) := ⟨rfl, hz_X9_line⟩
abbrev rm_L_asks : Room := { frames := 9, cells := 687, slots := 4122, locals := 290 }
def wl_R_asks_360 (Q : Int64 → MU → Prop) : Nat → Int64 → Int32 → Int32 → (MU) → Prop
  | 0, _, _, _, _ => False
  | n + 1, x1, x4, x5, u => ((x4 ≤ x5) → w_R_longest (0 : Int32) u (fun r_2 u_3 => w_R_longest (1 : Int32) u_3 (fun r_4 u_5 => w_R_wouldChange (0 : Int32) (1 : Int32) u_5 (fun r_6 u_7 => w_R_now  u_7 (fun r_8 u_9 => Q (((31 : Int64) * (((31 : Int64) * (((31 : Int64) * (((31 : Int64) * x1) + r_2.toInt64)) + r_4.toInt64)) + r_6.toInt64)) + r_8.toInt64) u_9))))) ∧ ((¬ x4 ≤ x5) → w_R_character x5 u (fun r_10 u_11 => ∀ x1_12, x1_12 = (((31 : Int64) * x1) + r_10.toInt64) → ∀ x5_13, x5_13 = x5 + (1 : Int32) → wl_R_asks_360 Q n x1_12 x4 x5_13 u_11))
set_option maxHeartbeats 4000000 in
set_option maxRecDepth 100000 in
theorem vl_R_asks_360 {p : Program} {l : Launch} {e : Env} {s : State} {m : MethodId} {args : Array Value} {below : List Frame} {meth : Method} {c : Code} {g : GE} {W : MU × ((Nat → Int64) × (Nat → UInt64))} {Q : Int64 → MU → Prop} (C : zCx p l s m args meth c g RL cL_asks 6) (hr : meth.sig.returnType = (Option.some Jvm.ClassFile.FieldType.long)) (hstk : l.stackTraces = false) : ∀ (n : Nat) (x1 : Int64) (x4 : Int32) (x5 : Int32) (u : MU) (cz sz : Nat), cz + (n * 1 + 5 + 0) ≤ 687 → sz + 6 * (n * 1 + 5 + 0) ≤ 4122 → wl_R_asks_360 Q n x1 x4 x5 u → WM p l e rm_L_asks s m args below meth c g 6 cz sz (MQ below (zQl g (zPx W Q)) args s 687 4122 (zA g)) 360 [(0, .ref (g.2.2.1 0)), (1, .long x1), (4, .int x4), (5, .int x5)] [] (u, W) := by
  intro n
  induction n with
  | zero => intro _ _ _ _ _ _ _ _ h; exact h.elim
  | succ n ih =>
    intro x1 x4 x5 u cz sz hz hs h
    unfold wl_R_asks_360 at h
    rw [Nat.succ_mul] at hz hs
    refine zm_iload C dL_asks_360 3 rfl ?_
    refine zm_iload C dL_asks_362 2 rfl ?_
    refine zm_icmp_ge (tgt := 387) C dL_asks_364 (by decide) (fun hc_1 => ?_) (fun hc_1 => ?_)
    · have h := h.1 hc_1
      refine zm_ldc2 (v := 31) C wd_907 dL_asks_387 ?_
      refine zm_ldc2 (v := 31) C wd_907 dL_asks_390 ?_
      refine zm_ldc2 (v := 31) C wd_907 dL_asks_393 ?_
      refine zm_ldc2 (v := 31) C wd_907 dL_asks_396 ?_
      refine zm_lload_n C dL_asks_399 rfl 1 rfl ?_
      refine zm_lmul C dL_asks_400 ?_
      refine zm_aload_n C dL_asks_401 rfl 0 rfl ?_
      refine zm_iconst (v := 0) C dL_asks_402 (by decide) ?_
      refine zm_ci (zr_SW (As := [.ref (g.2.2.1 0), .int (0 : Int32)]) (rest := [.long ((31 : Int64) * x1), .long (31 : Int64), .long (31 : Int64), .long (31 : Int64)]) C (c_L_longest l hstk _ u W (0 : Int32) h) wd_1068 wd_1069 wd_0 wd_1070 hz_L_longest rfl rfl ⟨by decide, by decide⟩ ⟨(show cz + 1 ≤ 687 by omega), (show sz + 6 ≤ 4122 by omega)⟩ rfl rfl (Nat.le_of_ble_eq_true rfl) dL_asks_403) (fun r_2 M1 hq => ?_)
      obtain ⟨u_3, rfl, h⟩ := hq
      refine zm_i2l C dL_asks_406 ?_
      refine zm_ladd C dL_asks_407 ?_
      refine zm_lmul C dL_asks_408 ?_
      refine zm_aload_n C dL_asks_409 rfl 0 rfl ?_
      refine zm_iconst (v := 1) C dL_asks_410 (by decide) ?_
      refine zm_ci (zr_SW (As := [.ref (g.2.2.1 0), .int (1 : Int32)]) (rest := [.long ((31 : Int64) * (((31 : Int64) * x1) + r_2.toInt64)), .long (31 : Int64), .long (31 : Int64)]) C (c_L_longest l hstk _ u_3 W (1 : Int32) h) wd_1068 wd_1069 wd_0 wd_1070 hz_L_longest rfl rfl ⟨by decide, by decide⟩ ⟨(show (cz + 1) + 1 ≤ 687 by omega), (show (sz + 6) + 6 ≤ 4122 by omega)⟩ rfl rfl (Nat.le_of_ble_eq_true rfl) dL_asks_411) (fun r_4 M1 hq => ?_)
      obtain ⟨u_5, rfl, h⟩ := hq
      refine zm_i2l C dL_asks_414 ?_
      refine zm_ladd C dL_asks_415 ?_
      refine zm_lmul C dL_asks_416 ?_
      refine zm_aload_n C dL_asks_417 rfl 0 rfl ?_
      refine zm_iconst (v := 0) C dL_asks_418 (by decide) ?_
      refine zm_iconst (v := 1) C dL_asks_419 (by decide) ?_
      refine zm_ci (zr_SW (As := [.ref (g.2.2.1 0), .int (0 : Int32), .int (1 : Int32)]) (rest := [.long ((31 : Int64) * (((31 : Int64) * (((31 : Int64) * x1) + r_2.toInt64)) + r_4.toInt64)), .long (31 : Int64)]) C (c_L_wouldChange l hstk _ u_5 W (0 : Int32) (1 : Int32) h) wd_1076 wd_1077 wd_0 wd_1078 hz_L_wouldChange rfl rfl ⟨by decide, by decide⟩ ⟨(show (cz + 2) + 1 ≤ 687 by omega), (show (sz + 12) + 6 ≤ 4122 by omega)⟩ rfl rfl (Nat.le_of_ble_eq_true rfl) dL_asks_420) (fun r_6 M1 hq => ?_)
      obtain ⟨u_7, rfl, h⟩ := hq
      refine zm_i2l C dL_asks_423 ?_
      refine zm_ladd C dL_asks_424 ?_
      refine zm_lmul C dL_asks_425 ?_
      refine zm_aload_n C dL_asks_426 rfl 0 rfl ?_
      refine zm_ci (zr_SW (As := [.ref (g.2.2.1 0)]) (rest := [.long ((31 : Int64) * (((31 : Int64) * (((31 : Int64) * (((31 : Int64) * x1) + r_2.toInt64)) + r_4.toInt64)) + r_6.toInt64))]) C (c_L_now l hstk _ u_7 W  h) wd_1086 wd_1087 wd_0 wd_1088 hz_L_now rfl rfl ⟨by decide, by decide⟩ ⟨(show (cz + 3) + 1 ≤ 687 by omega), (show (sz + 18) + 6 ≤ 4122 by omega)⟩ rfl rfl (Nat.le_of_ble_eq_true rfl) dL_asks_427) (fun r_8 M1 hq => ?_)
      obtain ⟨u_9, rfl, h⟩ := hq
      refine zm_i2l C dL_asks_430 ?_
      refine zm_ladd C dL_asks_431 ?_
      refine zm_widen (k1 := 687) (n1 := 4122) (by omega) (by omega) ?_
      exact zm_lret C hr dL_asks_432 ⟨_, rfl, h⟩
    · have h := h.2 hc_1
      refine zm_ldc2 (v := 31) C wd_907 dL_asks_367 ?_
      refine zm_lload_n C dL_asks_370 rfl 1 rfl ?_
      refine zm_lmul C dL_asks_371 ?_
      refine zm_aload_n C dL_asks_372 rfl 0 rfl ?_
      refine zm_iload C dL_asks_373 3 rfl ?_
      refine zm_ci (zr_SW (As := [.ref (g.2.2.1 0), .int x5]) (rest := [.long ((31 : Int64) * x1)]) C (c_L_character l hstk _ u W x5 h) wd_1059 wd_1060 wd_0 wd_1061 hz_L_character rfl rfl ⟨by decide, by decide⟩ ⟨(show cz + 1 ≤ 687 by omega), (show sz + 6 ≤ 4122 by omega)⟩ rfl rfl (Nat.le_of_ble_eq_true rfl) dL_asks_375) (fun r_10 M1 hq => ?_)
      obtain ⟨u_11, rfl, h⟩ := hq
      refine zm_i2l C dL_asks_378 ?_
      refine zm_ladd C dL_asks_379 ?_
      refine zm_nmL (fun x1_12 hx1_12 => ?_)
      have h := h x1_12 hx1_12
      refine zm_lstore_n (lv' := [(1, .long x1_12), (0, .ref (g.2.2.1 0)), (4, .int x4), (5, .int x5)]) C dL_asks_380 rfl (by decide) rfl ?_
      obtain ⟨x5_13, hx5_13⟩ : ∃ z, z = x5 + (1 : Int32) := ⟨_, rfl⟩
      have h := h x5_13 hx5_13
      refine zm_iinc (v := x5_13) (lv' := [(5, .int x5_13), (1, .long x1_12), (0, .ref (g.2.2.1 0)), (4, .int x4)]) C dL_asks_381 3 rfl (by rw [hx5_13]; rfl) (by decide) rfl ?_
      refine zm_goto (tgt := 360) C dL_asks_384 (by decide) ?_
      exact zm_sub [2, 1, 3, 0] rfl (ih _ _ _ _ _ _ (by omega) (by omega) h)
def wl_R_asks_324 (Q : Int64 → MU → Prop) : Nat → Int64 → Int32 → (MU) → Prop
  | 0, _, _, _ => False
  | n + 1, x1, x4, u => (((6 : Int32) ≤ x4) → w_X9_line  u (fun r_2 u_3 => ∃ nn, nn ≤ 161 ∧ wl_R_asks_360 Q nn x1 r_2 (0 : Int32) u_3)) ∧ ((¬ (6 : Int32) ≤ x4) → w_R_wonIn x4 u (fun r_4 u_5 => ∀ x1_6, x1_6 = (((31 : Int64) * x1) + r_4.toInt64) → ∀ x4_7, x4_7 = x4 + (1 : Int32) → wl_R_asks_324 Q n x1_6 x4_7 u_5))
set_option maxHeartbeats 4000000 in
set_option maxRecDepth 100000 in
theorem vl_R_asks_324 {p : Program} {l : Launch} {e : Env} {s : State} {m : MethodId} {args : Array Value} {below : List Frame} {meth : Method} {c : Code} {g : GE} {W : MU × ((Nat → Int64) × (Nat → UInt64))} {Q : Int64 → MU → Prop} (C : zCx p l s m args meth c g RL cL_asks 6) (hr : meth.sig.returnType = (Option.some Jvm.ClassFile.FieldType.long)) (hstk : l.stackTraces = false) : ∀ (n : Nat) (x1 : Int64) (x4 : Int32) (u : MU) (cz sz : Nat), cz + (n * 1 + 167 + 0) ≤ 687 → sz + 6 * (n * 1 + 167 + 0) ≤ 4122 → wl_R_asks_324 Q n x1 x4 u → WM p l e rm_L_asks s m args below meth c g 6 cz sz (MQ below (zQl g (zPx W Q)) args s 687 4122 (zA g)) 324 [(0, .ref (g.2.2.1 0)), (1, .long x1), (4, .int x4)] [] (u, W) := by
  intro n
  induction n with
  | zero => intro _ _ _ _ _ _ _ h; exact h.elim
  | succ n ih =>
    intro x1 x4 u cz sz hz hs h
    unfold wl_R_asks_324 at h
    rw [Nat.succ_mul] at hz hs
    refine zm_iload C dL_asks_324 2 rfl ?_
    refine zm_bipush (v := 6) C dL_asks_326 (by decide) ?_
    refine zm_icmp_ge (tgt := 351) C dL_asks_328 (by decide) (fun hc_1 => ?_) (fun hc_1 => ?_)
    · have h := h.1 hc_1
      refine zm_aload_n C dL_asks_351 rfl 0 rfl ?_
      refine zm_ci (zr_V (As := []) (rest := []) C (c_X9_line l _ u W  h) wd_1055 wd_1056 wd_1057 wd_1 wd_1058 hy_X9_line rfl rfl ⟨by decide, by decide⟩ ⟨(show cz + 0 ≤ 687 by omega), (show sz + 0 ≤ 4122 by omega)⟩ (ci := 9) (by decide) (zCell_k kd_0) rfl rfl rfl rfl (Nat.le_of_ble_eq_true rfl) dL_asks_352) (fun r_2 M1 hq => ?_)
      obtain ⟨u_3, rfl, h⟩ := hq
      refine zm_istore (lv' := [(4, .int r_2), (0, .ref (g.2.2.1 0)), (1, .long x1)]) C dL_asks_355 (by decide) rfl ?_
      refine zm_iconst (v := 0) C dL_asks_357 (by decide) ?_
      refine zm_istore (lv' := [(5, .int (0 : Int32)), (4, .int r_2), (0, .ref (g.2.2.1 0)), (1, .long x1)]) C dL_asks_358 (by decide) rfl ?_
      obtain ⟨nn, hnn, h⟩ := h
      exact zm_sub [2, 3, 1, 0] rfl (vl_R_asks_360 C hr hstk  nn _ _ _ _ _ _ (by omega) (by omega) h)
    · have h := h.2 hc_1
      refine zm_ldc2 (v := 31) C wd_907 dL_asks_331 ?_
      refine zm_lload_n C dL_asks_334 rfl 1 rfl ?_
      refine zm_lmul C dL_asks_335 ?_
      refine zm_aload_n C dL_asks_336 rfl 0 rfl ?_
      refine zm_iload C dL_asks_337 2 rfl ?_
      refine zm_ci (zr_SW (As := [.ref (g.2.2.1 0), .int x4]) (rest := [.long ((31 : Int64) * x1)]) C (c_L_wonIn l hstk _ u W x4 h) wd_1047 wd_1048 wd_0 wd_1049 hz_L_wonIn rfl rfl ⟨by decide, by decide⟩ ⟨(show cz + 1 ≤ 687 by omega), (show sz + 6 ≤ 4122 by omega)⟩ rfl rfl (Nat.le_of_ble_eq_true rfl) dL_asks_339) (fun r_4 M1 hq => ?_)
      obtain ⟨u_5, rfl, h⟩ := hq
      refine zm_i2l C dL_asks_342 ?_
      refine zm_ladd C dL_asks_343 ?_
      refine zm_nmL (fun x1_6 hx1_6 => ?_)
      have h := h x1_6 hx1_6
      refine zm_lstore_n (lv' := [(1, .long x1_6), (0, .ref (g.2.2.1 0)), (4, .int x4)]) C dL_asks_344 rfl (by decide) rfl ?_
      obtain ⟨x4_7, hx4_7⟩ : ∃ z, z = x4 + (1 : Int32) := ⟨_, rfl⟩
      have h := h x4_7 hx4_7
      refine zm_iinc (v := x4_7) (lv' := [(4, .int x4_7), (1, .long x1_6), (0, .ref (g.2.2.1 0))]) C dL_asks_345 2 rfl (by rw [hx4_7]; rfl) (by decide) rfl ?_
      refine zm_goto (tgt := 324) C dL_asks_348 (by decide) ?_
      exact zm_sub [2, 1, 0] rfl (ih _ _ _ _ _ (by omega) (by omega) h)
def wb_R_asks_315 (L194 : Int64 → Int32 → Int32 → (MU) → Prop) (Q : Int64 → MU → Prop) (x1 : Int64) (x3 : Int32) (x4 : Int32) (u : MU) : Prop := ∀ x4_1, x4_1 = x4 + (57 : Int32) → L194 x1 x3 x4_1 u
set_option maxHeartbeats 4000000 in
set_option maxRecDepth 100000 in
theorem vb_R_asks_315 {p : Program} {l : Launch} {e : Env} {s : State} {m : MethodId} {args : Array Value} {below : List Frame} {meth : Method} {c : Code} {g : GE} {W : MU × ((Nat → Int64) × (Nat → UInt64))} {Q : Int64 → MU → Prop} (C : zCx p l s m args meth c g RL cL_asks 6) (hr : meth.sig.returnType = (Option.some Jvm.ClassFile.FieldType.long)) (hstk : l.stackTraces = false) {O194 : Nat} (hO194 : 189 + 0 ≤ O194) {L194 : Int64 → Int32 → Int32 → (MU) → Prop} (hL194 : ∀ (x1 : Int64) (x3 : Int32) (x4 : Int32) (u : MU) (cz sz : Nat), cz + O194 ≤ 687 → sz + 6 * O194 ≤ 4122 → L194 x1 x3 x4 u → WM p l e rm_L_asks s m args below meth c g 6 cz sz (MQ below (zQl g (zPx W Q)) args s 687 4122 (zA g)) 194 [(0, .ref (g.2.2.1 0)), (1, .long x1), (3, .int x3), (4, .int x4)] [] (u, W)) (x1 : Int64) (x3 : Int32) (x4 : Int32) (u : MU) (cz sz : Nat) (hz : cz + 0 + O194 ≤ 687) (hs : sz + 6 * (0 + O194) ≤ 4122) (h : wb_R_asks_315 L194 Q x1 x3 x4 u) : WM p l e rm_L_asks s m args below meth c g 6 cz sz (MQ below (zQl g (zPx W Q)) args s 687 4122 (zA g)) 315 [(0, .ref (g.2.2.1 0)), (1, .long x1), (3, .int x3), (4, .int x4)] [] (u, W) := by
  unfold wb_R_asks_315 at h
  obtain ⟨x4_1, hx4_1⟩ : ∃ z, z = x4 + (57 : Int32) := ⟨_, rfl⟩
  have h := h x4_1 hx4_1
  refine zm_iinc (v := x4_1) (lv' := [(4, .int x4_1), (0, .ref (g.2.2.1 0)), (1, .long x1), (3, .int x3)]) C dL_asks_315 3 rfl (by rw [hx4_1]; rfl) (by decide) rfl ?_
  refine zm_goto (tgt := 194) C dL_asks_318 (by decide) ?_
  exact zm_sub [1, 2, 3, 0] rfl (hL194 _ _ _ _ _ _ (by omega) (by omega) h)
def wl_R_asks_220 (L194 : Int64 → Int32 → Int32 → (MU) → Prop) (Q : Int64 → MU → Prop) : Nat → Int64 → Int32 → Int32 → Int32 → (MU) → Prop
  | 0, _, _, _, _, _ => False
  | n + 1, x1, x3, x4, x5, u => (((7 : Int32) ≤ x5) → w_R_outcomeAgain x4 u (fun r_2 u_3 => w_R_best x4 u_3 (fun r_4 u_5 => w_R_ending x4 u_5 (fun r_6 u_7 => w_R_bestBurrow x4 u_7 (fun r_8 u_9 => ∀ x1_10, x1_10 = (((31 : Int64) * (((31 : Int64) * (((31 : Int64) * (((31 : Int64) * x1) + r_2.toInt64)) + r_4.toInt64)) + r_6.toInt64)) + r_8.toInt64) → w_R_moveOf x4 (0 : Int32) (1 : Int32) u_9 (fun r_11 u_12 => ∀ x1_13, x1_13 = (((31 : Int64) * x1_10) + r_11.toInt64) → wb_R_asks_315 L194 Q x1_13 x3 x4 u_12)))))) ∧ ((¬ (7 : Int32) ≤ x5) → w_R_positionOf x4 x5 u (fun r_14 u_15 => ∀ x1_16, x1_16 = (((31 : Int64) * x1) + r_14.toInt64) → ∀ x5_17, x5_17 = x5 + (1 : Int32) → wl_R_asks_220 L194 Q n x1_16 x3 x4 x5_17 u_15))
set_option maxHeartbeats 4000000 in
set_option maxRecDepth 100000 in
theorem vl_R_asks_220 {p : Program} {l : Launch} {e : Env} {s : State} {m : MethodId} {args : Array Value} {below : List Frame} {meth : Method} {c : Code} {g : GE} {W : MU × ((Nat → Int64) × (Nat → UInt64))} {Q : Int64 → MU → Prop} (C : zCx p l s m args meth c g RL cL_asks 6) (hr : meth.sig.returnType = (Option.some Jvm.ClassFile.FieldType.long)) (hstk : l.stackTraces = false) {O194 : Nat} (hO194 : 189 + 0 ≤ O194) {L194 : Int64 → Int32 → Int32 → (MU) → Prop} (hL194 : ∀ (x1 : Int64) (x3 : Int32) (x4 : Int32) (u : MU) (cz sz : Nat), cz + O194 ≤ 687 → sz + 6 * O194 ≤ 4122 → L194 x1 x3 x4 u → WM p l e rm_L_asks s m args below meth c g 6 cz sz (MQ below (zQl g (zPx W Q)) args s 687 4122 (zA g)) 194 [(0, .ref (g.2.2.1 0)), (1, .long x1), (3, .int x3), (4, .int x4)] [] (u, W)) : ∀ (n : Nat) (x1 : Int64) (x3 : Int32) (x4 : Int32) (x5 : Int32) (u : MU) (cz sz : Nat), cz + (n * 1 + 10 + O194) ≤ 687 → sz + 6 * (n * 1 + 10 + O194) ≤ 4122 → wl_R_asks_220 L194 Q n x1 x3 x4 x5 u → WM p l e rm_L_asks s m args below meth c g 6 cz sz (MQ below (zQl g (zPx W Q)) args s 687 4122 (zA g)) 220 [(0, .ref (g.2.2.1 0)), (1, .long x1), (3, .int x3), (4, .int x4), (5, .int x5)] [] (u, W) := by
  intro n
  induction n with
  | zero => intro _ _ _ _ _ _ _ _ _ h; exact h.elim
  | succ n ih =>
    intro x1 x3 x4 x5 u cz sz hz hs h
    unfold wl_R_asks_220 at h
    rw [Nat.succ_mul] at hz hs
    refine zm_iload C dL_asks_220 4 rfl ?_
    refine zm_bipush (v := 7) C dL_asks_222 (by decide) ?_
    refine zm_icmp_ge (tgt := 249) C dL_asks_224 (by decide) (fun hc_1 => ?_) (fun hc_1 => ?_)
    · have h := h.1 hc_1
      refine zm_ldc2 (v := 31) C wd_907 dL_asks_249 ?_
      refine zm_ldc2 (v := 31) C wd_907 dL_asks_252 ?_
      refine zm_ldc2 (v := 31) C wd_907 dL_asks_255 ?_
      refine zm_ldc2 (v := 31) C wd_907 dL_asks_258 ?_
      refine zm_lload_n C dL_asks_261 rfl 1 rfl ?_
      refine zm_lmul C dL_asks_262 ?_
      refine zm_aload_n C dL_asks_263 rfl 0 rfl ?_
      refine zm_iload C dL_asks_264 3 rfl ?_
      refine zm_ci (zr_SW (As := [.ref (g.2.2.1 0), .int x4]) (rest := [.long ((31 : Int64) * x1), .long (31 : Int64), .long (31 : Int64), .long (31 : Int64)]) C (c_L_outcomeAgain l hstk _ u W x4 h) wd_984 wd_985 wd_0 wd_986 hz_L_outcomeAgain rfl rfl ⟨by decide, by decide⟩ ⟨(show cz + 1 ≤ 687 by omega), (show sz + 6 ≤ 4122 by omega)⟩ rfl rfl (Nat.le_of_ble_eq_true rfl) dL_asks_266) (fun r_2 M1 hq => ?_)
      obtain ⟨u_3, rfl, h⟩ := hq
      refine zm_i2l C dL_asks_269 ?_
      refine zm_ladd C dL_asks_270 ?_
      refine zm_lmul C dL_asks_271 ?_
      refine zm_aload_n C dL_asks_272 rfl 0 rfl ?_
      refine zm_iload C dL_asks_273 3 rfl ?_
      refine zm_ci (zr_SW (As := [.ref (g.2.2.1 0), .int x4]) (rest := [.long ((31 : Int64) * (((31 : Int64) * x1) + r_2.toInt64)), .long (31 : Int64), .long (31 : Int64)]) C (c_L_best l hstk _ u_3 W x4 h) wd_1013 wd_1014 wd_0 wd_1015 hz_L_best rfl rfl ⟨by decide, by decide⟩ ⟨(show (cz + 1) + 2 ≤ 687 by omega), (show (sz + 6) + 12 ≤ 4122 by omega)⟩ rfl rfl (Nat.le_of_ble_eq_true rfl) dL_asks_275) (fun r_4 M1 hq => ?_)
      obtain ⟨u_5, rfl, h⟩ := hq
      refine zm_i2l C dL_asks_278 ?_
      refine zm_ladd C dL_asks_279 ?_
      refine zm_lmul C dL_asks_280 ?_
      refine zm_aload_n C dL_asks_281 rfl 0 rfl ?_
      refine zm_iload C dL_asks_282 3 rfl ?_
      refine zm_ci (zr_SW (As := [.ref (g.2.2.1 0), .int x4]) (rest := [.long ((31 : Int64) * (((31 : Int64) * (((31 : Int64) * x1) + r_2.toInt64)) + r_4.toInt64)), .long (31 : Int64)]) C (c_L_ending l hstk _ u_5 W x4 h) wd_1021 wd_1022 wd_0 wd_1023 hz_L_ending rfl rfl ⟨by decide, by decide⟩ ⟨(show (cz + 3) + 2 ≤ 687 by omega), (show (sz + 18) + 12 ≤ 4122 by omega)⟩ rfl rfl (Nat.le_of_ble_eq_true rfl) dL_asks_284) (fun r_6 M1 hq => ?_)
      obtain ⟨u_7, rfl, h⟩ := hq
      refine zm_i2l C dL_asks_287 ?_
      refine zm_ladd C dL_asks_288 ?_
      refine zm_lmul C dL_asks_289 ?_
      refine zm_aload_n C dL_asks_290 rfl 0 rfl ?_
      refine zm_iload C dL_asks_291 3 rfl ?_
      refine zm_ci (zr_SW (As := [.ref (g.2.2.1 0), .int x4]) (rest := [.long ((31 : Int64) * (((31 : Int64) * (((31 : Int64) * (((31 : Int64) * x1) + r_2.toInt64)) + r_4.toInt64)) + r_6.toInt64))]) C (c_L_bestBurrow l hstk _ u_7 W x4 h) wd_1029 wd_1030 wd_0 wd_1031 hz_L_bestBurrow rfl rfl ⟨by decide, by decide⟩ ⟨(show (cz + 5) + 2 ≤ 687 by omega), (show (sz + 30) + 12 ≤ 4122 by omega)⟩ rfl rfl (Nat.le_of_ble_eq_true rfl) dL_asks_293) (fun r_8 M1 hq => ?_)
      obtain ⟨u_9, rfl, h⟩ := hq
      refine zm_i2l C dL_asks_296 ?_
      refine zm_ladd C dL_asks_297 ?_
      refine zm_nmL (fun x1_10 hx1_10 => ?_)
      have h := h x1_10 hx1_10
      refine zm_lstore_n (lv' := [(1, .long x1_10), (0, .ref (g.2.2.1 0)), (3, .int x3), (4, .int x4), (5, .int x5)]) C dL_asks_298 rfl (by decide) rfl ?_
      refine zm_ldc2 (v := 31) C wd_907 dL_asks_299 ?_
      refine zm_lload_n C dL_asks_302 rfl 0 rfl ?_
      refine zm_lmul C dL_asks_303 ?_
      refine zm_aload_n C dL_asks_304 rfl 1 rfl ?_
      refine zm_iload C dL_asks_305 3 rfl ?_
      refine zm_iconst (v := 0) C dL_asks_307 (by decide) ?_
      refine zm_iconst (v := 1) C dL_asks_308 (by decide) ?_
      refine zm_ci (zr_SW (As := [.ref (g.2.2.1 0), .int x4, .int (0 : Int32), .int (1 : Int32)]) (rest := [.long ((31 : Int64) * x1_10)]) C (c_L_moveOf l hstk _ u_9 W x4 (0 : Int32) (1 : Int32) h) wd_1037 wd_1038 wd_0 wd_1039 hz_L_moveOf rfl rfl ⟨by decide, by decide⟩ ⟨(show (cz + 7) + 2 ≤ 687 by omega), (show (sz + 42) + 12 ≤ 4122 by omega)⟩ rfl rfl (Nat.le_of_ble_eq_true rfl) dL_asks_309) (fun r_11 M1 hq => ?_)
      obtain ⟨u_12, rfl, h⟩ := hq
      refine zm_i2l C dL_asks_312 ?_
      refine zm_ladd C dL_asks_313 ?_
      refine zm_nmL (fun x1_13 hx1_13 => ?_)
      have h := h x1_13 hx1_13
      refine zm_lstore_n (lv' := [(1, .long x1_13), (0, .ref (g.2.2.1 0)), (3, .int x3), (4, .int x4), (5, .int x5)]) C dL_asks_314 rfl (by decide) rfl ?_
      exact zm_sub [1, 0, 2, 3] rfl (vb_R_asks_315 C hr hstk (O194 := O194) hO194 hL194 _ _ _ _ _ _ (by omega) (by omega) h)
    · have h := h.2 hc_1
      refine zm_ldc2 (v := 31) C wd_907 dL_asks_227 ?_
      refine zm_lload_n C dL_asks_230 rfl 1 rfl ?_
      refine zm_lmul C dL_asks_231 ?_
      refine zm_aload_n C dL_asks_232 rfl 0 rfl ?_
      refine zm_iload C dL_asks_233 3 rfl ?_
      refine zm_iload C dL_asks_235 4 rfl ?_
      refine zm_ci (zr_SW (As := [.ref (g.2.2.1 0), .int x4, .int x5]) (rest := [.long ((31 : Int64) * x1)]) C (c_L_positionOf l hstk _ u W x4 x5 h) wd_971 wd_972 wd_0 wd_973 hz_L_positionOf rfl rfl ⟨by decide, by decide⟩ ⟨(show cz + 1 ≤ 687 by omega), (show sz + 6 ≤ 4122 by omega)⟩ rfl rfl (Nat.le_of_ble_eq_true rfl) dL_asks_237) (fun r_14 M1 hq => ?_)
      obtain ⟨u_15, rfl, h⟩ := hq
      refine zm_i2l C dL_asks_240 ?_
      refine zm_ladd C dL_asks_241 ?_
      refine zm_nmL (fun x1_16 hx1_16 => ?_)
      have h := h x1_16 hx1_16
      refine zm_lstore_n (lv' := [(1, .long x1_16), (0, .ref (g.2.2.1 0)), (3, .int x3), (4, .int x4), (5, .int x5)]) C dL_asks_242 rfl (by decide) rfl ?_
      obtain ⟨x5_17, hx5_17⟩ : ∃ z, z = x5 + (1 : Int32) := ⟨_, rfl⟩
      have h := h x5_17 hx5_17
      refine zm_iinc (v := x5_17) (lv' := [(5, .int x5_17), (1, .long x1_16), (0, .ref (g.2.2.1 0)), (3, .int x3), (4, .int x4)]) C dL_asks_243 4 rfl (by rw [hx5_17]; rfl) (by decide) rfl ?_
      refine zm_goto (tgt := 220) C dL_asks_246 (by decide) ?_
      exact zm_sub [2, 1, 3, 4, 0] rfl (ih _ _ _ _ _ _ _ (by omega) (by omega) h)
def wl_R_asks_194 (Q : Int64 → MU → Prop) : Nat → Int64 → Int32 → Int32 → (MU) → Prop
  | 0, _, _, _, _ => False
  | n + 1, x1, x3, x4, u => ((((162 : Int32) * x3) ≤ x4) → ∃ nn, nn ≤ 7 ∧ wl_R_asks_324 Q nn x1 (0 : Int32) u) ∧ ((¬ ((162 : Int32) * x3) ≤ x4) → w_R_positionOf x4 (0 : Int32) u (fun r_2 u_3 => ((0 ≤ r_2) → ∃ nn, nn ≤ 4 ∧ wl_R_asks_220 (fun x1' x3' x4' u' => wl_R_asks_194 Q n x1' x3' x4' u') Q nn x1 x3 x4 (4 : Int32) u_3) ∧ ((¬ 0 ≤ r_2) → wb_R_asks_315 (fun x1' x3' x4' u' => wl_R_asks_194 Q n x1' x3' x4' u') Q x1 x3 x4 u_3)))
set_option maxHeartbeats 4000000 in
set_option maxRecDepth 100000 in
theorem vl_R_asks_194 {p : Program} {l : Launch} {e : Env} {s : State} {m : MethodId} {args : Array Value} {below : List Frame} {meth : Method} {c : Code} {g : GE} {W : MU × ((Nat → Int64) × (Nat → UInt64))} {Q : Int64 → MU → Prop} (C : zCx p l s m args meth c g RL cL_asks 6) (hr : meth.sig.returnType = (Option.some Jvm.ClassFile.FieldType.long)) (hstk : l.stackTraces = false) : ∀ (n : Nat) (x1 : Int64) (x3 : Int32) (x4 : Int32) (u : MU) (cz sz : Nat), cz + (n * 15 + 189 + 0) ≤ 687 → sz + 6 * (n * 15 + 189 + 0) ≤ 4122 → wl_R_asks_194 Q n x1 x3 x4 u → WM p l e rm_L_asks s m args below meth c g 6 cz sz (MQ below (zQl g (zPx W Q)) args s 687 4122 (zA g)) 194 [(0, .ref (g.2.2.1 0)), (1, .long x1), (3, .int x3), (4, .int x4)] [] (u, W) := by
  intro n
  induction n with
  | zero => intro _ _ _ _ _ _ _ _ h; exact h.elim
  | succ n ih =>
    intro x1 x3 x4 u cz sz hz hs h
    unfold wl_R_asks_194 at h
    rw [Nat.succ_mul] at hz hs
    refine zm_iload C dL_asks_194 3 rfl ?_
    refine zm_sipush (v := 162) C dL_asks_196 (by decide) ?_
    refine zm_iload_n C dL_asks_199 rfl 2 rfl ?_
    refine zm_imul C dL_asks_200 ?_
    refine zm_icmp_ge (tgt := 321) C dL_asks_201 (by decide) (fun hc_1 => ?_) (fun hc_1 => ?_)
    · have h := h.1 hc_1
      refine zm_iconst (v := 0) C dL_asks_321 (by decide) ?_
      refine zm_istore (lv' := [(4, .int (0 : Int32)), (0, .ref (g.2.2.1 0)), (1, .long x1), (3, .int x3)]) C dL_asks_322 (by decide) rfl ?_
      obtain ⟨nn, hnn, h⟩ := h
      exact zm_sub [1, 2, 0] rfl (vl_R_asks_324 C hr hstk  nn _ _ _ _ _ (by omega) (by omega) h)
    · have h := h.2 hc_1
      refine zm_aload_n C dL_asks_204 rfl 0 rfl ?_
      refine zm_iload C dL_asks_205 3 rfl ?_
      refine zm_iconst (v := 0) C dL_asks_207 (by decide) ?_
      refine zm_ci (zr_SW (As := [.ref (g.2.2.1 0), .int x4, .int (0 : Int32)]) (rest := []) C (c_L_positionOf l hstk _ u W x4 (0 : Int32) h) wd_971 wd_972 wd_0 wd_973 hz_L_positionOf rfl rfl ⟨by decide, by decide⟩ ⟨(show cz + 1 ≤ 687 by omega), (show sz + 6 ≤ 4122 by omega)⟩ rfl rfl (Nat.le_of_ble_eq_true rfl) dL_asks_208) (fun r_2 M1 hq => ?_)
      obtain ⟨u_3, rfl, h⟩ := hq
      refine zm_if_ge (tgt := 217) C dL_asks_211 (by decide) (fun hc_4 => ?_) (fun hc_4 => ?_)
      · have h := h.1 hc_4
        refine zm_iconst (v := 4) C dL_asks_217 (by decide) ?_
        refine zm_istore (lv' := [(5, .int (4 : Int32)), (0, .ref (g.2.2.1 0)), (1, .long x1), (3, .int x3), (4, .int x4)]) C dL_asks_218 (by decide) rfl ?_
        obtain ⟨nn, hnn, h⟩ := h
        exact zm_sub [1, 2, 3, 4, 0] rfl (vl_R_asks_220 C hr hstk (O194 := n * 15 + 189 + 0) (by omega) (fun _ _ _ _ _ _ h1 h2 h3 => ih _ _ _ _ _ _ (by omega) (by omega) h3) nn _ _ _ _ _ _ _ (by omega) (by omega) h)
      · have h := h.2 hc_4
        refine zm_goto (tgt := 315) C dL_asks_214 (by decide) ?_
        exact zm_sub [0, 1, 2, 3] rfl (vb_R_asks_315 C hr hstk (O194 := n * 15 + 189 + 0) (by omega) (fun _ _ _ _ _ _ h1 h2 h3 => ih _ _ _ _ _ _ (by omega) (by omega) h3) _ _ _ _ _ _ (by omega) (by omega) h)
def wl_R_asks_150 (Q : Int64 → MU → Prop) : Nat → Int64 → Int32 → Int32 → (MU) → Prop
  | 0, _, _, _, _ => False
  | n + 1, x1, x3, x4, u => (((3 : Int32) ≤ x4) → ∃ nn, nn ≤ 24 ∧ wl_R_asks_194 Q nn x1 x3 (19 : Int32) u) ∧ ((¬ (3 : Int32) ≤ x4) → w_R_count x4 (0 : Int32) u (fun r_2 u_3 => w_R_count x4 (1 : Int32) u_3 (fun r_4 u_5 => ∀ x1_6, x1_6 = (((31 : Int64) * (((31 : Int64) * x1) + r_2.toInt64)) + r_4.toInt64) → ∀ x4_7, x4_7 = x4 + (1 : Int32) → wl_R_asks_150 Q n x1_6 x3 x4_7 u_5)))
set_option maxHeartbeats 4000000 in
set_option maxRecDepth 100000 in
theorem vl_R_asks_150 {p : Program} {l : Launch} {e : Env} {s : State} {m : MethodId} {args : Array Value} {below : List Frame} {meth : Method} {c : Code} {g : GE} {W : MU × ((Nat → Int64) × (Nat → UInt64))} {Q : Int64 → MU → Prop} (C : zCx p l s m args meth c g RL cL_asks 6) (hr : meth.sig.returnType = (Option.some Jvm.ClassFile.FieldType.long)) (hstk : l.stackTraces = false) : ∀ (n : Nat) (x1 : Int64) (x3 : Int32) (x4 : Int32) (u : MU) (cz sz : Nat), cz + (n * 2 + 551 + 0) ≤ 687 → sz + 6 * (n * 2 + 551 + 0) ≤ 4122 → wl_R_asks_150 Q n x1 x3 x4 u → WM p l e rm_L_asks s m args below meth c g 6 cz sz (MQ below (zQl g (zPx W Q)) args s 687 4122 (zA g)) 150 [(0, .ref (g.2.2.1 0)), (1, .long x1), (3, .int x3), (4, .int x4)] [] (u, W) := by
  intro n
  induction n with
  | zero => intro _ _ _ _ _ _ _ _ h; exact h.elim
  | succ n ih =>
    intro x1 x3 x4 u cz sz hz hs h
    unfold wl_R_asks_150 at h
    rw [Nat.succ_mul] at hz hs
    refine zm_iload C dL_asks_150 3 rfl ?_
    refine zm_iconst (v := 3) C dL_asks_152 (by decide) ?_
    refine zm_icmp_ge (tgt := 190) C dL_asks_153 (by decide) (fun hc_1 => ?_) (fun hc_1 => ?_)
    · have h := h.1 hc_1
      refine zm_bipush (v := 19) C dL_asks_190 (by decide) ?_
      refine zm_istore (lv' := [(4, .int (19 : Int32)), (0, .ref (g.2.2.1 0)), (1, .long x1), (3, .int x3)]) C dL_asks_192 (by decide) rfl ?_
      obtain ⟨nn, hnn, h⟩ := h
      exact zm_sub [1, 2, 3, 0] rfl (vl_R_asks_194 C hr hstk  nn _ _ _ _ _ _ (by omega) (by omega) h)
    · have h := h.2 hc_1
      refine zm_ldc2 (v := 31) C wd_907 dL_asks_156 ?_
      refine zm_ldc2 (v := 31) C wd_907 dL_asks_159 ?_
      refine zm_lload_n C dL_asks_162 rfl 1 rfl ?_
      refine zm_lmul C dL_asks_163 ?_
      refine zm_aload_n C dL_asks_164 rfl 0 rfl ?_
      refine zm_iload C dL_asks_165 3 rfl ?_
      refine zm_iconst (v := 0) C dL_asks_167 (by decide) ?_
      refine zm_ci (zr_SW (As := [.ref (g.2.2.1 0), .int x4, .int (0 : Int32)]) (rest := [.long ((31 : Int64) * x1), .long (31 : Int64)]) C (c_L_count l hstk _ u W x4 (0 : Int32) h) wd_962 wd_963 wd_0 wd_964 hz_L_count rfl rfl ⟨by decide, by decide⟩ ⟨(show cz + 1 ≤ 687 by omega), (show sz + 6 ≤ 4122 by omega)⟩ rfl rfl (Nat.le_of_ble_eq_true rfl) dL_asks_168) (fun r_2 M1 hq => ?_)
      obtain ⟨u_3, rfl, h⟩ := hq
      refine zm_i2l C dL_asks_171 ?_
      refine zm_ladd C dL_asks_172 ?_
      refine zm_lmul C dL_asks_173 ?_
      refine zm_aload_n C dL_asks_174 rfl 0 rfl ?_
      refine zm_iload C dL_asks_175 3 rfl ?_
      refine zm_iconst (v := 1) C dL_asks_177 (by decide) ?_
      refine zm_ci (zr_SW (As := [.ref (g.2.2.1 0), .int x4, .int (1 : Int32)]) (rest := [.long ((31 : Int64) * (((31 : Int64) * x1) + r_2.toInt64))]) C (c_L_count l hstk _ u_3 W x4 (1 : Int32) h) wd_962 wd_963 wd_0 wd_964 hz_L_count rfl rfl ⟨by decide, by decide⟩ ⟨(show (cz + 1) + 1 ≤ 687 by omega), (show (sz + 6) + 6 ≤ 4122 by omega)⟩ rfl rfl (Nat.le_of_ble_eq_true rfl) dL_asks_178) (fun r_4 M1 hq => ?_)
      obtain ⟨u_5, rfl, h⟩ := hq
      refine zm_i2l C dL_asks_181 ?_
      refine zm_ladd C dL_asks_182 ?_
      refine zm_nmL (fun x1_6 hx1_6 => ?_)
      have h := h x1_6 hx1_6
      refine zm_lstore_n (lv' := [(1, .long x1_6), (0, .ref (g.2.2.1 0)), (3, .int x3), (4, .int x4)]) C dL_asks_183 rfl (by decide) rfl ?_
      obtain ⟨x4_7, hx4_7⟩ : ∃ z, z = x4 + (1 : Int32) := ⟨_, rfl⟩
      have h := h x4_7 hx4_7
      refine zm_iinc (v := x4_7) (lv' := [(4, .int x4_7), (1, .long x1_6), (0, .ref (g.2.2.1 0)), (3, .int x3)]) C dL_asks_184 3 rfl (by rw [hx4_7]; rfl) (by decide) rfl ?_
      refine zm_goto (tgt := 150) C dL_asks_187 (by decide) ?_
      exact zm_sub [2, 1, 3, 0] rfl (ih _ _ _ _ _ _ (by omega) (by omega) h)
def wl_R_asks_103 (Q : Int64 → MU → Prop) : Nat → Int64 → Int32 → Int32 → (MU) → Prop
  | 0, _, _, _, _ => False
  | n + 1, x1, x3, x4, u => w_R_account (1 : Int32) u (fun r_1 u_2 => ((r_1 ≤ x4) → ∃ nn, nn ≤ 4 ∧ wl_R_asks_150 Q nn x1 x3 (0 : Int32) u_2) ∧ ((¬ r_1 ≤ x4) → w_R_pathOf x4 (0 : Int32) u_2 (fun r_4 u_5 => w_R_pathOf x4 (1 : Int32) u_5 (fun r_6 u_7 => ∀ x1_8, x1_8 = (((31 : Int64) * (((31 : Int64) * x1) + r_4.toInt64)) + r_6.toInt64) → ∀ x4_9, x4_9 = x4 + (1 : Int32) → wl_R_asks_103 Q n x1_8 x3 x4_9 u_7))))
set_option maxHeartbeats 4000000 in
set_option maxRecDepth 100000 in
theorem vl_R_asks_103 {p : Program} {l : Launch} {e : Env} {s : State} {m : MethodId} {args : Array Value} {below : List Frame} {meth : Method} {c : Code} {g : GE} {W : MU × ((Nat → Int64) × (Nat → UInt64))} {Q : Int64 → MU → Prop} (C : zCx p l s m args meth c g RL cL_asks 6) (hr : meth.sig.returnType = (Option.some Jvm.ClassFile.FieldType.long)) (hstk : l.stackTraces = false) : ∀ (n : Nat) (x1 : Int64) (x3 : Int32) (x4 : Int32) (u : MU) (cz sz : Nat), cz + (n * 3 + 562 + 0) ≤ 687 → sz + 6 * (n * 3 + 562 + 0) ≤ 4122 → wl_R_asks_103 Q n x1 x3 x4 u → WM p l e rm_L_asks s m args below meth c g 6 cz sz (MQ below (zQl g (zPx W Q)) args s 687 4122 (zA g)) 103 [(0, .ref (g.2.2.1 0)), (1, .long x1), (3, .int x3), (4, .int x4)] [] (u, W) := by
  intro n
  induction n with
  | zero => intro _ _ _ _ _ _ _ _ h; exact h.elim
  | succ n ih =>
    intro x1 x3 x4 u cz sz hz hs h
    unfold wl_R_asks_103 at h
    rw [Nat.succ_mul] at hz hs
    refine zm_iload C dL_asks_103 3 rfl ?_
    refine zm_aload_n C dL_asks_105 rfl 0 rfl ?_
    refine zm_iconst (v := 1) C dL_asks_106 (by decide) ?_
    refine zm_ci (zr_SW (As := [.ref (g.2.2.1 0), .int (1 : Int32)]) (rest := [.int x4]) C (c_L_account l hstk _ u W (1 : Int32) h) wd_823 wd_824 wd_0 wd_825 hz_L_account rfl rfl ⟨by decide, by decide⟩ ⟨(show cz + 1 ≤ 687 by omega), (show sz + 6 ≤ 4122 by omega)⟩ rfl rfl (Nat.le_of_ble_eq_true rfl) dL_asks_107) (fun r_1 M1 hq => ?_)
    obtain ⟨u_2, rfl, h⟩ := hq
    refine zm_icmp_ge (tgt := 147) C dL_asks_110 (by decide) (fun hc_3 => ?_) (fun hc_3 => ?_)
    · have h := h.1 hc_3
      refine zm_iconst (v := 0) C dL_asks_147 (by decide) ?_
      refine zm_istore (lv' := [(4, .int (0 : Int32)), (0, .ref (g.2.2.1 0)), (1, .long x1), (3, .int x3)]) C dL_asks_148 (by decide) rfl ?_
      obtain ⟨nn, hnn, h⟩ := h
      exact zm_sub [1, 2, 3, 0] rfl (vl_R_asks_150 C hr hstk  nn _ _ _ _ _ _ (by omega) (by omega) h)
    · have h := h.2 hc_3
      refine zm_ldc2 (v := 31) C wd_907 dL_asks_113 ?_
      refine zm_ldc2 (v := 31) C wd_907 dL_asks_116 ?_
      refine zm_lload_n C dL_asks_119 rfl 1 rfl ?_
      refine zm_lmul C dL_asks_120 ?_
      refine zm_aload_n C dL_asks_121 rfl 0 rfl ?_
      refine zm_iload C dL_asks_122 3 rfl ?_
      refine zm_iconst (v := 0) C dL_asks_124 (by decide) ?_
      refine zm_ci (zr_SW (As := [.ref (g.2.2.1 0), .int x4, .int (0 : Int32)]) (rest := [.long ((31 : Int64) * x1), .long (31 : Int64)]) C (c_L_pathOf l hstk _ u_2 W x4 (0 : Int32) h) wd_696 wd_697 wd_0 wd_698 hz_L_pathOf rfl rfl ⟨by decide, by decide⟩ ⟨(show (cz + 1) + 1 ≤ 687 by omega), (show (sz + 6) + 6 ≤ 4122 by omega)⟩ rfl rfl (Nat.le_of_ble_eq_true rfl) dL_asks_125) (fun r_4 M1 hq => ?_)
      obtain ⟨u_5, rfl, h⟩ := hq
      refine zm_i2l C dL_asks_128 ?_
      refine zm_ladd C dL_asks_129 ?_
      refine zm_lmul C dL_asks_130 ?_
      refine zm_aload_n C dL_asks_131 rfl 0 rfl ?_
      refine zm_iload C dL_asks_132 3 rfl ?_
      refine zm_iconst (v := 1) C dL_asks_134 (by decide) ?_
      refine zm_ci (zr_SW (As := [.ref (g.2.2.1 0), .int x4, .int (1 : Int32)]) (rest := [.long ((31 : Int64) * (((31 : Int64) * x1) + r_4.toInt64))]) C (c_L_pathOf l hstk _ u_5 W x4 (1 : Int32) h) wd_696 wd_697 wd_0 wd_698 hz_L_pathOf rfl rfl ⟨by decide, by decide⟩ ⟨(show (cz + 2) + 1 ≤ 687 by omega), (show (sz + 12) + 6 ≤ 4122 by omega)⟩ rfl rfl (Nat.le_of_ble_eq_true rfl) dL_asks_135) (fun r_6 M1 hq => ?_)
      obtain ⟨u_7, rfl, h⟩ := hq
      refine zm_i2l C dL_asks_138 ?_
      refine zm_ladd C dL_asks_139 ?_
      refine zm_nmL (fun x1_8 hx1_8 => ?_)
      have h := h x1_8 hx1_8
      refine zm_lstore_n (lv' := [(1, .long x1_8), (0, .ref (g.2.2.1 0)), (3, .int x3), (4, .int x4)]) C dL_asks_140 rfl (by decide) rfl ?_
      obtain ⟨x4_9, hx4_9⟩ : ∃ z, z = x4 + (1 : Int32) := ⟨_, rfl⟩
      have h := h x4_9 hx4_9
      refine zm_iinc (v := x4_9) (lv' := [(4, .int x4_9), (1, .long x1_8), (0, .ref (g.2.2.1 0)), (3, .int x3)]) C dL_asks_141 3 rfl (by rw [hx4_9]; rfl) (by decide) rfl ?_
      refine zm_goto (tgt := 103) C dL_asks_144 (by decide) ?_
      exact zm_sub [2, 1, 3, 0] rfl (ih _ _ _ _ _ _ (by omega) (by omega) h)
def wl_R_asks_66 (L57 : Int64 → Int32 → Int32 → (MU) → Prop) (Q : Int64 → MU → Prop) : Nat → Int64 → Int32 → Int32 → Int32 → (MU) → Prop
  | 0, _, _, _, _, _ => False
  | n + 1, x1, x3, x4, x5, u => (((4 : Int32) ≤ x5) → ∀ x4_2, x4_2 = x4 + (1 : Int32) → L57 x1 x3 x4_2 u) ∧ ((¬ (4 : Int32) ≤ x5) → w_R_burrowOf x4 x5 u (fun r_3 u_4 => ∀ x1_5, x1_5 = (((31 : Int64) * x1) + r_3.toInt64) → ∀ x5_6, x5_6 = x5 + (1 : Int32) → wl_R_asks_66 L57 Q n x1_5 x3 x4 x5_6 u_4))
set_option maxHeartbeats 4000000 in
set_option maxRecDepth 100000 in
theorem vl_R_asks_66 {p : Program} {l : Launch} {e : Env} {s : State} {m : MethodId} {args : Array Value} {below : List Frame} {meth : Method} {c : Code} {g : GE} {W : MU × ((Nat → Int64) × (Nat → UInt64))} {Q : Int64 → MU → Prop} (C : zCx p l s m args meth c g RL cL_asks 6) (hr : meth.sig.returnType = (Option.some Jvm.ClassFile.FieldType.long)) (hstk : l.stackTraces = false) {O57 : Nat} (hO57 : 619 + 0 ≤ O57) {L57 : Int64 → Int32 → Int32 → (MU) → Prop} (hL57 : ∀ (x1 : Int64) (x3 : Int32) (x4 : Int32) (u : MU) (cz sz : Nat), cz + O57 ≤ 687 → sz + 6 * O57 ≤ 4122 → L57 x1 x3 x4 u → WM p l e rm_L_asks s m args below meth c g 6 cz sz (MQ below (zQl g (zPx W Q)) args s 687 4122 (zA g)) 57 [(0, .ref (g.2.2.1 0)), (1, .long x1), (3, .int x3), (4, .int x4)] [] (u, W)) : ∀ (n : Nat) (x1 : Int64) (x3 : Int32) (x4 : Int32) (x5 : Int32) (u : MU) (cz sz : Nat), cz + (n * 1 + 1 + O57) ≤ 687 → sz + 6 * (n * 1 + 1 + O57) ≤ 4122 → wl_R_asks_66 L57 Q n x1 x3 x4 x5 u → WM p l e rm_L_asks s m args below meth c g 6 cz sz (MQ below (zQl g (zPx W Q)) args s 687 4122 (zA g)) 66 [(0, .ref (g.2.2.1 0)), (1, .long x1), (3, .int x3), (4, .int x4), (5, .int x5)] [] (u, W) := by
  intro n
  induction n with
  | zero => intro _ _ _ _ _ _ _ _ _ h; exact h.elim
  | succ n ih =>
    intro x1 x3 x4 x5 u cz sz hz hs h
    unfold wl_R_asks_66 at h
    rw [Nat.succ_mul] at hz hs
    refine zm_iload C dL_asks_66 4 rfl ?_
    refine zm_iconst (v := 4) C dL_asks_68 (by decide) ?_
    refine zm_icmp_ge (tgt := 94) C dL_asks_69 (by decide) (fun hc_1 => ?_) (fun hc_1 => ?_)
    · have h := h.1 hc_1
      obtain ⟨x4_2, hx4_2⟩ : ∃ z, z = x4 + (1 : Int32) := ⟨_, rfl⟩
      have h := h x4_2 hx4_2
      refine zm_iinc (v := x4_2) (lv' := [(4, .int x4_2), (0, .ref (g.2.2.1 0)), (1, .long x1), (3, .int x3), (5, .int x5)]) C dL_asks_94 3 rfl (by rw [hx4_2]; rfl) (by decide) rfl ?_
      refine zm_goto (tgt := 57) C dL_asks_97 (by decide) ?_
      exact zm_sub [1, 2, 3, 0] rfl (hL57 _ _ _ _ _ _ (by omega) (by omega) h)
    · have h := h.2 hc_1
      refine zm_ldc2 (v := 31) C wd_907 dL_asks_72 ?_
      refine zm_lload_n C dL_asks_75 rfl 1 rfl ?_
      refine zm_lmul C dL_asks_76 ?_
      refine zm_aload_n C dL_asks_77 rfl 0 rfl ?_
      refine zm_iload C dL_asks_78 3 rfl ?_
      refine zm_iload C dL_asks_80 4 rfl ?_
      refine zm_ci (zr_SW (As := [.ref (g.2.2.1 0), .int x4, .int x5]) (rest := [.long ((31 : Int64) * x1)]) C (c_L_burrowOf l hstk _ u W x4 x5 h) wd_515 wd_516 wd_0 wd_517 hz_L_burrowOf rfl rfl ⟨by decide, by decide⟩ ⟨(show cz + 1 ≤ 687 by omega), (show sz + 6 ≤ 4122 by omega)⟩ rfl rfl (Nat.le_of_ble_eq_true rfl) dL_asks_82) (fun r_3 M1 hq => ?_)
      obtain ⟨u_4, rfl, h⟩ := hq
      refine zm_i2l C dL_asks_85 ?_
      refine zm_ladd C dL_asks_86 ?_
      refine zm_nmL (fun x1_5 hx1_5 => ?_)
      have h := h x1_5 hx1_5
      refine zm_lstore_n (lv' := [(1, .long x1_5), (0, .ref (g.2.2.1 0)), (3, .int x3), (4, .int x4), (5, .int x5)]) C dL_asks_87 rfl (by decide) rfl ?_
      obtain ⟨x5_6, hx5_6⟩ : ∃ z, z = x5 + (1 : Int32) := ⟨_, rfl⟩
      have h := h x5_6 hx5_6
      refine zm_iinc (v := x5_6) (lv' := [(5, .int x5_6), (1, .long x1_5), (0, .ref (g.2.2.1 0)), (3, .int x3), (4, .int x4)]) C dL_asks_88 4 rfl (by rw [hx5_6]; rfl) (by decide) rfl ?_
      refine zm_goto (tgt := 66) C dL_asks_91 (by decide) ?_
      exact zm_sub [2, 1, 3, 4, 0] rfl (ih _ _ _ _ _ _ _ (by omega) (by omega) h)
def wl_R_asks_57 (Q : Int64 → MU → Prop) : Nat → Int64 → Int32 → Int32 → (MU) → Prop
  | 0, _, _, _, _ => False
  | n + 1, x1, x3, x4, u => ((x3 ≤ x4) → ∃ nn, nn ≤ 17 ∧ wl_R_asks_103 Q nn x1 x3 (0 : Int32) u) ∧ ((¬ x3 ≤ x4) → ∃ nn, nn ≤ 5 ∧ wl_R_asks_66 (fun x1' x3' x4' u' => wl_R_asks_57 Q n x1' x3' x4' u') Q nn x1 x3 x4 (0 : Int32) u)
set_option maxHeartbeats 4000000 in
set_option maxRecDepth 100000 in
theorem vl_R_asks_57 {p : Program} {l : Launch} {e : Env} {s : State} {m : MethodId} {args : Array Value} {below : List Frame} {meth : Method} {c : Code} {g : GE} {W : MU × ((Nat → Int64) × (Nat → UInt64))} {Q : Int64 → MU → Prop} (C : zCx p l s m args meth c g RL cL_asks 6) (hr : meth.sig.returnType = (Option.some Jvm.ClassFile.FieldType.long)) (hstk : l.stackTraces = false) : ∀ (n : Nat) (x1 : Int64) (x3 : Int32) (x4 : Int32) (u : MU) (cz sz : Nat), cz + (n * 6 + 619 + 0) ≤ 687 → sz + 6 * (n * 6 + 619 + 0) ≤ 4122 → wl_R_asks_57 Q n x1 x3 x4 u → WM p l e rm_L_asks s m args below meth c g 6 cz sz (MQ below (zQl g (zPx W Q)) args s 687 4122 (zA g)) 57 [(0, .ref (g.2.2.1 0)), (1, .long x1), (3, .int x3), (4, .int x4)] [] (u, W) := by
  intro n
  induction n with
  | zero => intro _ _ _ _ _ _ _ _ h; exact h.elim
  | succ n ih =>
    intro x1 x3 x4 u cz sz hz hs h
    unfold wl_R_asks_57 at h
    rw [Nat.succ_mul] at hz hs
    refine zm_iload C dL_asks_57 3 rfl ?_
    refine zm_iload_n C dL_asks_59 rfl 2 rfl ?_
    refine zm_icmp_ge (tgt := 100) C dL_asks_60 (by decide) (fun hc_1 => ?_) (fun hc_1 => ?_)
    · have h := h.1 hc_1
      refine zm_iconst (v := 0) C dL_asks_100 (by decide) ?_
      refine zm_istore (lv' := [(4, .int (0 : Int32)), (0, .ref (g.2.2.1 0)), (1, .long x1), (3, .int x3)]) C dL_asks_101 (by decide) rfl ?_
      obtain ⟨nn, hnn, h⟩ := h
      exact zm_sub [1, 2, 3, 0] rfl (vl_R_asks_103 C hr hstk  nn _ _ _ _ _ _ (by omega) (by omega) h)
    · have h := h.2 hc_1
      refine zm_iconst (v := 0) C dL_asks_63 (by decide) ?_
      refine zm_istore (lv' := [(5, .int (0 : Int32)), (0, .ref (g.2.2.1 0)), (1, .long x1), (3, .int x3), (4, .int x4)]) C dL_asks_64 (by decide) rfl ?_
      obtain ⟨nn, hnn, h⟩ := h
      exact zm_sub [1, 2, 3, 4, 0] rfl (vl_R_asks_66 C hr hstk (O57 := n * 6 + 619 + 0) (by omega) (fun _ _ _ _ _ _ h1 h2 h3 => ih _ _ _ _ _ _ (by omega) (by omega) h3) nn _ _ _ _ _ _ _ (by omega) (by omega) h)
def wl_R_asks_23 (Q : Int64 → MU → Prop) : Nat → Int64 → Int32 → (MU) → Prop
  | 0, _, _, _ => False
  | n + 1, x1, x3, u => (((9 : Int32) ≤ x3) → w_R_account (0 : Int32) u (fun r_2 u_3 => ∃ nn, nn ≤ 9 ∧ wl_R_asks_57 Q nn x1 r_2 (0 : Int32) u_3)) ∧ ((¬ (9 : Int32) ≤ x3) → w_R_account x3 u (fun r_4 u_5 => ∀ x1_6, x1_6 = (((31 : Int64) * x1) + r_4.toInt64) → ∀ x3_7, x3_7 = x3 + (1 : Int32) → wl_R_asks_23 Q n x1_6 x3_7 u_5))
set_option maxHeartbeats 4000000 in
set_option maxRecDepth 100000 in
theorem vl_R_asks_23 {p : Program} {l : Launch} {e : Env} {s : State} {m : MethodId} {args : Array Value} {below : List Frame} {meth : Method} {c : Code} {g : GE} {W : MU × ((Nat → Int64) × (Nat → UInt64))} {Q : Int64 → MU → Prop} (C : zCx p l s m args meth c g RL cL_asks 6) (hr : meth.sig.returnType = (Option.some Jvm.ClassFile.FieldType.long)) (hstk : l.stackTraces = false) : ∀ (n : Nat) (x1 : Int64) (x3 : Int32) (u : MU) (cz sz : Nat), cz + (n * 1 + 675 + 0) ≤ 687 → sz + 6 * (n * 1 + 675 + 0) ≤ 4122 → wl_R_asks_23 Q n x1 x3 u → WM p l e rm_L_asks s m args below meth c g 6 cz sz (MQ below (zQl g (zPx W Q)) args s 687 4122 (zA g)) 23 [(0, .ref (g.2.2.1 0)), (1, .long x1), (3, .int x3)] [] (u, W) := by
  intro n
  induction n with
  | zero => intro _ _ _ _ _ _ _ h; exact h.elim
  | succ n ih =>
    intro x1 x3 u cz sz hz hs h
    unfold wl_R_asks_23 at h
    rw [Nat.succ_mul] at hz hs
    refine zm_iload_n C dL_asks_23 rfl 2 rfl ?_
    refine zm_bipush (v := 9) C dL_asks_24 (by decide) ?_
    refine zm_icmp_ge (tgt := 48) C dL_asks_26 (by decide) (fun hc_1 => ?_) (fun hc_1 => ?_)
    · have h := h.1 hc_1
      refine zm_aload_n C dL_asks_48 rfl 0 rfl ?_
      refine zm_iconst (v := 0) C dL_asks_49 (by decide) ?_
      refine zm_ci (zr_SW (As := [.ref (g.2.2.1 0), .int (0 : Int32)]) (rest := []) C (c_L_account l hstk _ u W (0 : Int32) h) wd_823 wd_824 wd_0 wd_825 hz_L_account rfl rfl ⟨by decide, by decide⟩ ⟨(show cz + 1 ≤ 687 by omega), (show sz + 6 ≤ 4122 by omega)⟩ rfl rfl (Nat.le_of_ble_eq_true rfl) dL_asks_50) (fun r_2 M1 hq => ?_)
      obtain ⟨u_3, rfl, h⟩ := hq
      refine zm_istore_n (lv' := [(3, .int r_2), (0, .ref (g.2.2.1 0)), (1, .long x1)]) C dL_asks_53 rfl (by decide) rfl ?_
      refine zm_iconst (v := 0) C dL_asks_54 (by decide) ?_
      refine zm_istore (lv' := [(4, .int (0 : Int32)), (3, .int r_2), (0, .ref (g.2.2.1 0)), (1, .long x1)]) C dL_asks_55 (by decide) rfl ?_
      obtain ⟨nn, hnn, h⟩ := h
      exact zm_sub [2, 3, 1, 0] rfl (vl_R_asks_57 C hr hstk  nn _ _ _ _ _ _ (by omega) (by omega) h)
    · have h := h.2 hc_1
      refine zm_ldc2 (v := 31) C wd_907 dL_asks_29 ?_
      refine zm_lload_n C dL_asks_32 rfl 1 rfl ?_
      refine zm_lmul C dL_asks_33 ?_
      refine zm_aload_n C dL_asks_34 rfl 0 rfl ?_
      refine zm_iload_n C dL_asks_35 rfl 2 rfl ?_
      refine zm_ci (zr_SW (As := [.ref (g.2.2.1 0), .int x3]) (rest := [.long ((31 : Int64) * x1)]) C (c_L_account l hstk _ u W x3 h) wd_823 wd_824 wd_0 wd_825 hz_L_account rfl rfl ⟨by decide, by decide⟩ ⟨(show cz + 1 ≤ 687 by omega), (show sz + 6 ≤ 4122 by omega)⟩ rfl rfl (Nat.le_of_ble_eq_true rfl) dL_asks_36) (fun r_4 M1 hq => ?_)
      obtain ⟨u_5, rfl, h⟩ := hq
      refine zm_i2l C dL_asks_39 ?_
      refine zm_ladd C dL_asks_40 ?_
      refine zm_nmL (fun x1_6 hx1_6 => ?_)
      have h := h x1_6 hx1_6
      refine zm_lstore_n (lv' := [(1, .long x1_6), (0, .ref (g.2.2.1 0)), (3, .int x3)]) C dL_asks_41 rfl (by decide) rfl ?_
      obtain ⟨x3_7, hx3_7⟩ : ∃ z, z = x3 + (1 : Int32) := ⟨_, rfl⟩
      have h := h x3_7 hx3_7
      refine zm_iinc (v := x3_7) (lv' := [(3, .int x3_7), (1, .long x1_6), (0, .ref (g.2.2.1 0))]) C dL_asks_42 2 rfl (by rw [hx3_7]; rfl) (by decide) rfl ?_
      refine zm_goto (tgt := 23) C dL_asks_45 (by decide) ?_
      exact zm_sub [2, 1, 0] rfl (ih _ _ _ _ _ (by omega) (by omega) h)
def w_R_asks (u : MU) (Q : Int64 → MU → Prop) : Prop := w_R_meanMoves  u (fun r_1 u_2 => w_Jxe99ae_doubleToLongBits_ccdee r_1 (fun r_3 => w_R_drawn  u_2 (fun r_5 u_6 => w_Jxf58ca_floatToIntBits_5c35a r_5 (fun r_7 => ∀ x1_9, x1_9 = (((31 : Int64) * r_3) + r_7.toInt64) → ∃ nn, nn ≤ 10 ∧ wl_R_asks_23 Q nn x1_9 (0 : Int32) u_6))))
set_option maxHeartbeats 4000000 in
set_option maxRecDepth 100000 in
theorem c_L_asks (l : Launch) (hstk : l.stackTraces = false) (g : GE) (u : MU) (W : MU × ((Nat → Int64) × (Nat → UInt64))) {Q : Int64 → MU → Prop} (h : w_R_asks u Q) : Met l yL_asks (.code yL_asks cL_asks 6 (Option.some Jvm.ClassFile.FieldType.long) :: TB) rm_L_asks (zPc g (u, W) [.ref (g.2.2.1 0)]) (zQl g (zPx W Q)) 687 4122 (zA g) := by
  unfold w_R_asks at h
  refine zMet (own := RL) [(0, .ref (g.2.2.1 0))] (by decide +kernel) rfl (Nat.le_of_ble_eq_true rfl) rfl (fun p e s m args below meth c C hr => ?_)
  refine zm_ldc2 (v := 31) C wd_907 dL_asks_0 ?_
  refine zm_aload_n C dL_asks_3 rfl 0 rfl ?_
  refine zm_cd (zr_SW (As := [.ref (g.2.2.1 0)]) (rest := [.long (31 : Int64)]) C (c_L_meanMoves l hstk _ u W  h) wd_908 wd_909 wd_0 wd_910 hz_L_meanMoves rfl rfl ⟨by decide, by decide⟩ ⟨(show 0 + 1 ≤ 687 by omega), (show 0 + 6 ≤ 4122 by omega)⟩ rfl rfl (Nat.le_of_ble_eq_true rfl) dL_asks_4) (fun r_1 M1 hq => ?_)
  obtain ⟨u_2, rfl, h⟩ := hq
  refine zm_cl (zr_Sx (As := [.double r_1]) (rest := [.long (31 : Int64)]) C (c_Jxe99ae_doubleToLongBits_ccdee l _ (u_2, W) r_1 h) wd_933 wd_934 wd_27 wd_935 hz_Jxe99ae_doubleToLongBits_ccdee rfl rfl ⟨by decide, by decide⟩ ⟨(show (0 + 1) + 0 ≤ 687 by omega), (show (0 + 6) + 0 ≤ 4122 by omega)⟩ rfl rfl (Nat.le_of_ble_eq_true rfl) dL_asks_7) (fun r_3 M1 hq => ?_)
  obtain ⟨rfl, h⟩ := hq
  refine zm_lmul C dL_asks_10 ?_
  refine zm_aload_n C dL_asks_11 rfl 0 rfl ?_
  refine zm_cf (zr_SW (As := [.ref (g.2.2.1 0)]) (rest := [.long ((31 : Int64) * r_3)]) C (c_L_drawn l hstk _ u_2 W  h) wd_943 wd_944 wd_0 wd_945 hz_L_drawn rfl rfl ⟨by decide, by decide⟩ ⟨(show (0 + 1) + 1 ≤ 687 by omega), (show (0 + 6) + 6 ≤ 4122 by omega)⟩ rfl rfl (Nat.le_of_ble_eq_true rfl) dL_asks_12) (fun r_5 M1 hq => ?_)
  obtain ⟨u_6, rfl, h⟩ := hq
  refine zm_ci (zr_Sx (As := [.float r_5]) (rest := [.long ((31 : Int64) * r_3)]) C (c_Jxf58ca_floatToIntBits_5c35a l _ (u_6, W) r_5 h) wd_952 wd_953 wd_28 wd_954 hz_Jxf58ca_floatToIntBits_5c35a rfl rfl ⟨by decide, by decide⟩ ⟨(show (0 + 2) + 0 ≤ 687 by omega), (show (0 + 12) + 0 ≤ 4122 by omega)⟩ rfl rfl (Nat.le_of_ble_eq_true rfl) dL_asks_15) (fun r_7 M1 hq => ?_)
  obtain ⟨rfl, h⟩ := hq
  refine zm_i2l C dL_asks_18 ?_
  refine zm_ladd C dL_asks_19 ?_
  refine zm_nmL (fun x1_9 hx1_9 => ?_)
  have h := h x1_9 hx1_9
  refine zm_lstore_n (lv' := [(1, .long x1_9), (0, .ref (g.2.2.1 0))]) C dL_asks_20 rfl (by decide) rfl ?_
  refine zm_iconst (v := 0) C dL_asks_21 (by decide) ?_
  refine zm_istore_n (lv' := [(3, .int (0 : Int32)), (1, .long x1_9), (0, .ref (g.2.2.1 0))]) C dL_asks_22 rfl (by decide) rfl ?_
  obtain ⟨nn, hnn, h⟩ := h
  exact zm_sub [2, 1, 0] rfl (vl_R_asks_23 C hr hstk  nn _ _ _ _ _ (by omega) (by omega) h)
