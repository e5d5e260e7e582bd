/-! the law: its script, its loop, its cases: printed by a program -/
section ZL
variable {p : Program} {l : Launch} {e : Env} {R : Room} {s : State} {m : MethodId} {args : Array Value} {below : List Frame} {meth : Method} {c : Code} {g : GE} {own : String} {cc : ByteArray} {nL cells slots : Nat} {Q : State → Prop} {pc : Nat} {lv : List (Nat × Value)} {st : List Value} {M : Mem} {b L : Nat} {xs : Nat → Int32}
theorem zm_sld (C : zCx p l s m args meth c g own cc nL) (hX : va_X b L xs s s.heap) (hbl : b < s.heap.size) (hbA : ¬ zA g b) {i : Int32} (hin : vp_in i L) (d : decode cc pc = .ok (.iaload, 1)) (k : WM p l e R s m args below meth c g nL cells slots Q (pc + 1) lv (.int (xs i.toNatClampNeg) :: st) M) : WM p l e R s m args below meth c g nL cells slots Q pc lv (.int i :: .ref b :: st) M := fun H locs ls hl hp hs => va_sld C.hx C.hb hX hbl hbA hs hin d (k H locs ls hl hp hs)
theorem zm_slen (C : zCx p l s m args meth c g own cc nL) (hX : va_X b L xs s s.heap) (hbl : b < s.heap.size) (hbA : ¬ zA g b) (d : decode cc pc = .ok (.arraylength, 1)) (k : WM p l e R s m args below meth c g nL cells slots Q (pc + 1) lv (.int (Int32.ofNat L) :: st) M) : WM p l e R s m args below meth c g nL cells slots Q pc lv (.ref b :: st) M := fun H locs ls hl hp hs => va_slen C.hx C.hb hX hbl hbA hs d (k H locs ls hl hp hs)
theorem zm_fcmp (C : zCx p l s m args meth c g own cc nL) {x y : UInt32} {op : CmpOp} (d : decode cc pc = .ok (.fcmp op, 1)) (k : WM p l e R s m args below meth c g nL cells slots Q (pc + 1) lv (.int (Op.cmpValue (FP.fcmp x y) op) :: st) M) : WM p l e R s m args below meth c g nL cells slots Q pc lv (.float y :: .float x :: st) M := fun H locs ls hl hp hs => lv_fcmp C.hx C.hb d (k H locs ls hl hp hs)
end ZL
theorem wd_0 : (Jvm.Cond.initialized "FoxBurrowsLaw") ∈ TB := zTB 0 (by decide +kernel) (by decide +kernel)
theorem wd_1009 : (Jvm.Cond.methodLink "FoxBurrowsLaw" (232 : Nat) ({ cls := "FoxBurrowsLaw", name := "reason", desc := "(LFoxBurrows;I[J)I" } : Jvm.MethodName)) ∈ TB := zTB 1009 (by decide +kernel) (by decide +kernel)
theorem wd_1010 : (Jvm.Cond.static ({ cls := "FoxBurrowsLaw", name := "reason", desc := "(LFoxBurrows;I[J)I" } : Jvm.MethodName)) ∈ TB := zTB 1010 (by decide +kernel) (by decide +kernel)
theorem wd_1011 : (Jvm.Cond.codeWith ({ cls := "FoxBurrowsLaw", name := "reason", desc := "(LFoxBurrows;I[J)I" } : Jvm.MethodName) method_29_code (4 : Nat) (Option.some Jvm.ClassFile.FieldType.int) [((0 : Nat), (9 : Nat), (12 : Nat), (51 : Nat)), ((0 : Nat), (9 : Nat), (15 : Nat), (46 : Nat))]) ∈ TB := zTB 1011 (by decide +kernel) (by decide +kernel)
theorem wd_1018 : (Jvm.Cond.methodLink "FoxBurrowsLaw" (239 : Nat) ({ cls := "FoxBurrowsLaw", name := "character", desc := "(LFoxBurrows;I[J)I" } : Jvm.MethodName)) ∈ TB := zTB 1018 (by decide +kernel) (by decide +kernel)
theorem wd_1019 : (Jvm.Cond.static ({ cls := "FoxBurrowsLaw", name := "character", desc := "(LFoxBurrows;I[J)I" } : Jvm.MethodName)) ∈ TB := zTB 1019 (by decide +kernel) (by decide +kernel)
theorem wd_1020 : (Jvm.Cond.codeWith ({ cls := "FoxBurrowsLaw", name := "character", desc := "(LFoxBurrows;I[J)I" } : Jvm.MethodName) method_30_code (4 : Nat) (Option.some Jvm.ClassFile.FieldType.int) [((0 : Nat), (9 : Nat), (12 : Nat), (83 : Nat))]) ∈ TB := zTB 1020 (by decide +kernel) (by decide +kernel)
theorem wd_1027 : (Jvm.Cond.methodLink "FoxBurrowsLaw" (242 : Nat) ({ cls := "FoxBurrowsLaw", name := "meanMoves", desc := "(LFoxBurrows;[D)I" } : Jvm.MethodName)) ∈ TB := zTB 1027 (by decide +kernel) (by decide +kernel)
theorem wd_1028 : (Jvm.Cond.static ({ cls := "FoxBurrowsLaw", name := "meanMoves", desc := "(LFoxBurrows;[D)I" } : Jvm.MethodName)) ∈ TB := zTB 1028 (by decide +kernel) (by decide +kernel)
theorem wd_1029 : (Jvm.Cond.codeWith ({ cls := "FoxBurrowsLaw", name := "meanMoves", desc := "(LFoxBurrows;[D)I" } : Jvm.MethodName) method_31_code (3 : Nat) (Option.some Jvm.ClassFile.FieldType.int) [((0 : Nat), (7 : Nat), (10 : Nat), (117 : Nat))]) ∈ TB := zTB 1029 (by decide +kernel) (by decide +kernel)
theorem wd_1051 : (Jvm.Cond.methodLink "FoxBurrowsLaw" (246 : Nat) ({ cls := "FoxBurrowsLaw", name := "drawn", desc := "(LFoxBurrows;[D)I" } : Jvm.MethodName)) ∈ TB := zTB 1051 (by decide +kernel) (by decide +kernel)
theorem wd_1052 : (Jvm.Cond.static ({ cls := "FoxBurrowsLaw", name := "drawn", desc := "(LFoxBurrows;[D)I" } : Jvm.MethodName)) ∈ TB := zTB 1052 (by decide +kernel) (by decide +kernel)
theorem wd_1053 : (Jvm.Cond.codeWith ({ cls := "FoxBurrowsLaw", name := "drawn", desc := "(LFoxBurrows;[D)I" } : Jvm.MethodName) method_32_code (3 : Nat) (Option.some Jvm.ClassFile.FieldType.int) [((0 : Nat), (8 : Nat), (11 : Nat), (117 : Nat))]) ∈ TB := zTB 1053 (by decide +kernel) (by decide +kernel)
theorem wd_1059 : (Jvm.Cond.methodLink "FoxBurrowsLaw" (249 : Nat) ({ cls := "FoxBurrowsLaw", name := "account", desc := "(LFoxBurrows;I[J)I" } : Jvm.MethodName)) ∈ TB := zTB 1059 (by decide +kernel) (by decide +kernel)
theorem wd_1060 : (Jvm.Cond.static ({ cls := "FoxBurrowsLaw", name := "account", desc := "(LFoxBurrows;I[J)I" } : Jvm.MethodName)) ∈ TB := zTB 1060 (by decide +kernel) (by decide +kernel)
theorem wd_1061 : (Jvm.Cond.codeWith ({ cls := "FoxBurrowsLaw", name := "account", desc := "(LFoxBurrows;I[J)I" } : Jvm.MethodName) method_33_code (4 : Nat) (Option.some Jvm.ClassFile.FieldType.int) [((0 : Nat), (9 : Nat), (12 : Nat), (51 : Nat))]) ∈ TB := zTB 1061 (by decide +kernel) (by decide +kernel)
theorem wd_1071 : (Jvm.Cond.methodLink "FoxBurrowsLaw" (252 : Nat) ({ cls := "FoxBurrowsLaw", name := "undo", desc := "(LFoxBurrows;[J)I" } : Jvm.MethodName)) ∈ TB := zTB 1071 (by decide +kernel) (by decide +kernel)
theorem wd_1072 : (Jvm.Cond.static ({ cls := "FoxBurrowsLaw", name := "undo", desc := "(LFoxBurrows;[J)I" } : Jvm.MethodName)) ∈ TB := zTB 1072 (by decide +kernel) (by decide +kernel)
theorem wd_1073 : (Jvm.Cond.codeWith ({ cls := "FoxBurrowsLaw", name := "undo", desc := "(LFoxBurrows;[J)I" } : Jvm.MethodName) method_34_code (3 : Nat) (Option.some Jvm.ClassFile.FieldType.int) [((0 : Nat), (8 : Nat), (11 : Nat), (101 : Nat))]) ∈ TB := zTB 1073 (by decide +kernel) (by decide +kernel)
theorem wd_1083 : (Jvm.Cond.methodLink "FoxBurrowsLaw" (259 : Nat) ({ cls := "FoxBurrowsLaw", name := "restore", desc := "(LFoxBurrows;[J)I" } : Jvm.MethodName)) ∈ TB := zTB 1083 (by decide +kernel) (by decide +kernel)
theorem wd_1084 : (Jvm.Cond.static ({ cls := "FoxBurrowsLaw", name := "restore", desc := "(LFoxBurrows;[J)I" } : Jvm.MethodName)) ∈ TB := zTB 1084 (by decide +kernel) (by decide +kernel)
theorem wd_1085 : (Jvm.Cond.codeWith ({ cls := "FoxBurrowsLaw", name := "restore", desc := "(LFoxBurrows;[J)I" } : Jvm.MethodName) method_35_code (3 : Nat) (Option.some Jvm.ClassFile.FieldType.int) [((0 : Nat), (8 : Nat), (11 : Nat), (101 : Nat))]) ∈ TB := zTB 1085 (by decide +kernel) (by decide +kernel)
theorem wd_1176 : (Jvm.Cond.methodLink "FoxBurrowsLaw" (142 : Nat) ({ cls := "FoxBurrowsModel", name := "thrown", desc := "()I" } : Jvm.MethodName)) ∈ TB := zTB 1176 (by decide +kernel) (by decide +kernel)
theorem wd_1177 : (Jvm.Cond.instanceMethod ({ cls := "FoxBurrowsModel", name := "thrown", desc := "()I" } : Jvm.MethodName)) ∈ TB := zTB 1177 (by decide +kernel) (by decide +kernel)
theorem wd_1178 : (Jvm.Cond.selects "FoxBurrowsModel" ({ cls := "FoxBurrowsModel", name := "thrown", desc := "()I" } : Jvm.MethodName) ({ cls := "FoxBurrowsModel", name := "thrown", desc := "()I" } : Jvm.MethodName)) ∈ TB := zTB 1178 (by decide +kernel) (by decide +kernel)
theorem wd_1179 : (Jvm.Cond.code ({ cls := "FoxBurrowsModel", name := "thrown", desc := "()I" } : Jvm.MethodName) prog_12_method_2_code (1 : Nat) (Option.some Jvm.ClassFile.FieldType.int)) ∈ TB := zTB 1179 (by decide +kernel) (by decide +kernel)
theorem wd_1180 : (Jvm.Cond.methodLink "FoxBurrowsLaw" (141 : Nat) ({ cls := "FoxBurrowsModel", name := "dig", desc := "()I" } : Jvm.MethodName)) ∈ TB := zTB 1180 (by decide +kernel) (by decide +kernel)
theorem wd_1181 : (Jvm.Cond.instanceMethod ({ cls := "FoxBurrowsModel", name := "dig", desc := "()I" } : Jvm.MethodName)) ∈ TB := zTB 1181 (by decide +kernel) (by decide +kernel)
theorem wd_1182 : (Jvm.Cond.selects "FoxBurrowsModel" ({ cls := "FoxBurrowsModel", name := "dig", desc := "()I" } : Jvm.MethodName) ({ cls := "FoxBurrowsModel", name := "dig", desc := "()I" } : Jvm.MethodName)) ∈ TB := zTB 1182 (by decide +kernel) (by decide +kernel)
theorem wd_1183 : (Jvm.Cond.code ({ cls := "FoxBurrowsModel", name := "dig", desc := "()I" } : Jvm.MethodName) prog_12_method_27_code (1 : Nat) (Option.some Jvm.ClassFile.FieldType.int)) ∈ TB := zTB 1183 (by decide +kernel) (by decide +kernel)
theorem wd_1208 : (Jvm.Cond.methodLink "FoxBurrowsLaw" (148 : Nat) ({ cls := "FoxBurrowsModel", name := "tread", desc := "(II)I" } : Jvm.MethodName)) ∈ TB := zTB 1208 (by decide +kernel) (by decide +kernel)
theorem wd_1209 : (Jvm.Cond.instanceMethod ({ cls := "FoxBurrowsModel", name := "tread", desc := "(II)I" } : Jvm.MethodName)) ∈ TB := zTB 1209 (by decide +kernel) (by decide +kernel)
theorem wd_1210 : (Jvm.Cond.selects "FoxBurrowsModel" ({ cls := "FoxBurrowsModel", name := "tread", desc := "(II)I" } : Jvm.MethodName) ({ cls := "FoxBurrowsModel", name := "tread", desc := "(II)I" } : Jvm.MethodName)) ∈ TB := zTB 1210 (by decide +kernel) (by decide +kernel)
theorem wd_1211 : (Jvm.Cond.code ({ cls := "FoxBurrowsModel", name := "tread", desc := "(II)I" } : Jvm.MethodName) prog_12_method_30_code (3 : Nat) (Option.some Jvm.ClassFile.FieldType.int)) ∈ TB := zTB 1211 (by decide +kernel) (by decide +kernel)
theorem wd_1231 : (Jvm.Cond.methodLink "FoxBurrowsLaw" (151 : Nat) ({ cls := "FoxBurrowsModel", name := "grow", desc := "(II)I" } : Jvm.MethodName)) ∈ TB := zTB 1231 (by decide +kernel) (by decide +kernel)
theorem wd_1232 : (Jvm.Cond.instanceMethod ({ cls := "FoxBurrowsModel", name := "grow", desc := "(II)I" } : Jvm.MethodName)) ∈ TB := zTB 1232 (by decide +kernel) (by decide +kernel)
theorem wd_1233 : (Jvm.Cond.selects "FoxBurrowsModel" ({ cls := "FoxBurrowsModel", name := "grow", desc := "(II)I" } : Jvm.MethodName) ({ cls := "FoxBurrowsModel", name := "grow", desc := "(II)I" } : Jvm.MethodName)) ∈ TB := zTB 1233 (by decide +kernel) (by decide +kernel)
theorem wd_1234 : (Jvm.Cond.code ({ cls := "FoxBurrowsModel", name := "grow", desc := "(II)I" } : Jvm.MethodName) prog_12_method_32_code (3 : Nat) (Option.some Jvm.ClassFile.FieldType.int)) ∈ TB := zTB 1234 (by decide +kernel) (by decide +kernel)
theorem wd_1239 : (Jvm.Cond.methodLink "FoxBurrowsLaw" (155 : Nat) ({ cls := "FoxBurrowsModel", name := "trap", desc := "(IZ)I" } : Jvm.MethodName)) ∈ TB := zTB 1239 (by decide +kernel) (by decide +kernel)
theorem wd_1240 : (Jvm.Cond.instanceMethod ({ cls := "FoxBurrowsModel", name := "trap", desc := "(IZ)I" } : Jvm.MethodName)) ∈ TB := zTB 1240 (by decide +kernel) (by decide +kernel)
theorem wd_1241 : (Jvm.Cond.selects "FoxBurrowsModel" ({ cls := "FoxBurrowsModel", name := "trap", desc := "(IZ)I" } : Jvm.MethodName) ({ cls := "FoxBurrowsModel", name := "trap", desc := "(IZ)I" } : Jvm.MethodName)) ∈ TB := zTB 1241 (by decide +kernel) (by decide +kernel)
theorem wd_1242 : (Jvm.Cond.code ({ cls := "FoxBurrowsModel", name := "trap", desc := "(IZ)I" } : Jvm.MethodName) prog_12_method_34_code (3 : Nat) (Option.some Jvm.ClassFile.FieldType.int)) ∈ TB := zTB 1242 (by decide +kernel) (by decide +kernel)
theorem wd_1252 : (Jvm.Cond.methodLink "FoxBurrowsLaw" (159 : Nat) ({ cls := "FoxBurrowsModel", name := "flock", desc := "(I)I" } : Jvm.MethodName)) ∈ TB := zTB 1252 (by decide +kernel) (by decide +kernel)
theorem wd_1253 : (Jvm.Cond.instanceMethod ({ cls := "FoxBurrowsModel", name := "flock", desc := "(I)I" } : Jvm.MethodName)) ∈ TB := zTB 1253 (by decide +kernel) (by decide +kernel)
theorem wd_1254 : (Jvm.Cond.selects "FoxBurrowsModel" ({ cls := "FoxBurrowsModel", name := "flock", desc := "(I)I" } : Jvm.MethodName) ({ cls := "FoxBurrowsModel", name := "flock", desc := "(I)I" } : Jvm.MethodName)) ∈ TB := zTB 1254 (by decide +kernel) (by decide +kernel)
theorem wd_1255 : (Jvm.Cond.code ({ cls := "FoxBurrowsModel", name := "flock", desc := "(I)I" } : Jvm.MethodName) prog_12_method_36_code (2 : Nat) (Option.some Jvm.ClassFile.FieldType.int)) ∈ TB := zTB 1255 (by decide +kernel) (by decide +kernel)
theorem wd_1260 : (Jvm.Cond.methodLink "FoxBurrowsLaw" (162 : Nat) ({ cls := "FoxBurrowsModel", name := "begin", desc := "(I)I" } : Jvm.MethodName)) ∈ TB := zTB 1260 (by decide +kernel) (by decide +kernel)
theorem wd_1261 : (Jvm.Cond.instanceMethod ({ cls := "FoxBurrowsModel", name := "begin", desc := "(I)I" } : Jvm.MethodName)) ∈ TB := zTB 1261 (by decide +kernel) (by decide +kernel)
theorem wd_1262 : (Jvm.Cond.selects "FoxBurrowsModel" ({ cls := "FoxBurrowsModel", name := "begin", desc := "(I)I" } : Jvm.MethodName) ({ cls := "FoxBurrowsModel", name := "begin", desc := "(I)I" } : Jvm.MethodName)) ∈ TB := zTB 1262 (by decide +kernel) (by decide +kernel)
theorem wd_1263 : (Jvm.Cond.code ({ cls := "FoxBurrowsModel", name := "begin", desc := "(I)I" } : Jvm.MethodName) prog_12_method_38_code (2 : Nat) (Option.some Jvm.ClassFile.FieldType.int)) ∈ TB := zTB 1263 (by decide +kernel) (by decide +kernel)
theorem wd_1300 : (Jvm.Cond.methodLink "FoxBurrowsLaw" (165 : Nat) ({ cls := "FoxBurrowsModel", name := "move", desc := "(II)I" } : Jvm.MethodName)) ∈ TB := zTB 1300 (by decide +kernel) (by decide +kernel)
theorem wd_1301 : (Jvm.Cond.instanceMethod ({ cls := "FoxBurrowsModel", name := "move", desc := "(II)I" } : Jvm.MethodName)) ∈ TB := zTB 1301 (by decide +kernel) (by decide +kernel)
theorem wd_1302 : (Jvm.Cond.selects "FoxBurrowsModel" ({ cls := "FoxBurrowsModel", name := "move", desc := "(II)I" } : Jvm.MethodName) ({ cls := "FoxBurrowsModel", name := "move", desc := "(II)I" } : Jvm.MethodName)) ∈ TB := zTB 1302 (by decide +kernel) (by decide +kernel)
theorem wd_1303 : (Jvm.Cond.code ({ cls := "FoxBurrowsModel", name := "move", desc := "(II)I" } : Jvm.MethodName) prog_12_method_41_code (3 : Nat) (Option.some Jvm.ClassFile.FieldType.int)) ∈ TB := zTB 1303 (by decide +kernel) (by decide +kernel)
theorem wd_1320 : (Jvm.Cond.methodLink "FoxBurrowsLaw" (168 : Nat) ({ cls := "FoxBurrowsModel", name := "play", desc := "(I)I" } : Jvm.MethodName)) ∈ TB := zTB 1320 (by decide +kernel) (by decide +kernel)
theorem wd_1321 : (Jvm.Cond.instanceMethod ({ cls := "FoxBurrowsModel", name := "play", desc := "(I)I" } : Jvm.MethodName)) ∈ TB := zTB 1321 (by decide +kernel) (by decide +kernel)
theorem wd_1322 : (Jvm.Cond.selects "FoxBurrowsModel" ({ cls := "FoxBurrowsModel", name := "play", desc := "(I)I" } : Jvm.MethodName) ({ cls := "FoxBurrowsModel", name := "play", desc := "(I)I" } : Jvm.MethodName)) ∈ TB := zTB 1322 (by decide +kernel) (by decide +kernel)
theorem wd_1323 : (Jvm.Cond.code ({ cls := "FoxBurrowsModel", name := "play", desc := "(I)I" } : Jvm.MethodName) prog_12_method_43_code (2 : Nat) (Option.some Jvm.ClassFile.FieldType.int)) ∈ TB := zTB 1323 (by decide +kernel) (by decide +kernel)
theorem wd_1336 : (Jvm.Cond.methodLink "FoxBurrowsLaw" (171 : Nat) ({ cls := "FoxBurrowsModel", name := "back", desc := "()I" } : Jvm.MethodName)) ∈ TB := zTB 1336 (by decide +kernel) (by decide +kernel)
theorem wd_1337 : (Jvm.Cond.instanceMethod ({ cls := "FoxBurrowsModel", name := "back", desc := "()I" } : Jvm.MethodName)) ∈ TB := zTB 1337 (by decide +kernel) (by decide +kernel)
theorem wd_1338 : (Jvm.Cond.selects "FoxBurrowsModel" ({ cls := "FoxBurrowsModel", name := "back", desc := "()I" } : Jvm.MethodName) ({ cls := "FoxBurrowsModel", name := "back", desc := "()I" } : Jvm.MethodName)) ∈ TB := zTB 1338 (by decide +kernel) (by decide +kernel)
theorem wd_1339 : (Jvm.Cond.code ({ cls := "FoxBurrowsModel", name := "back", desc := "()I" } : Jvm.MethodName) prog_12_method_45_code (1 : Nat) (Option.some Jvm.ClassFile.FieldType.int)) ∈ TB := zTB 1339 (by decide +kernel) (by decide +kernel)
theorem wd_1344 : (Jvm.Cond.methodLink "FoxBurrowsLaw" (175 : Nat) ({ cls := "FoxBurrowsModel", name := "position", desc := "(IIIZ)I" } : Jvm.MethodName)) ∈ TB := zTB 1344 (by decide +kernel) (by decide +kernel)
theorem wd_1345 : (Jvm.Cond.instanceMethod ({ cls := "FoxBurrowsModel", name := "position", desc := "(IIIZ)I" } : Jvm.MethodName)) ∈ TB := zTB 1345 (by decide +kernel) (by decide +kernel)
theorem wd_1346 : (Jvm.Cond.selects "FoxBurrowsModel" ({ cls := "FoxBurrowsModel", name := "position", desc := "(IIIZ)I" } : Jvm.MethodName) ({ cls := "FoxBurrowsModel", name := "position", desc := "(IIIZ)I" } : Jvm.MethodName)) ∈ TB := zTB 1346 (by decide +kernel) (by decide +kernel)
theorem wd_1347 : (Jvm.Cond.code ({ cls := "FoxBurrowsModel", name := "position", desc := "(IIIZ)I" } : Jvm.MethodName) prog_12_method_46_code (5 : Nat) (Option.some Jvm.ClassFile.FieldType.int)) ∈ TB := zTB 1347 (by decide +kernel) (by decide +kernel)
theorem wd_1348 : (Jvm.Cond.methodLink "FoxBurrowsLaw" (178 : Nat) ({ cls := "FoxBurrowsModel", name := "positionOf", desc := "(II)I" } : Jvm.MethodName)) ∈ TB := zTB 1348 (by decide +kernel) (by decide +kernel)
theorem wd_1349 : (Jvm.Cond.instanceMethod ({ cls := "FoxBurrowsModel", name := "positionOf", desc := "(II)I" } : Jvm.MethodName)) ∈ TB := zTB 1349 (by decide +kernel) (by decide +kernel)
theorem wd_1350 : (Jvm.Cond.selects "FoxBurrowsModel" ({ cls := "FoxBurrowsModel", name := "positionOf", desc := "(II)I" } : Jvm.MethodName) ({ cls := "FoxBurrowsModel", name := "positionOf", desc := "(II)I" } : Jvm.MethodName)) ∈ TB := zTB 1350 (by decide +kernel) (by decide +kernel)
theorem wd_1351 : (Jvm.Cond.code ({ cls := "FoxBurrowsModel", name := "positionOf", desc := "(II)I" } : Jvm.MethodName) prog_12_method_47_code (3 : Nat) (Option.some Jvm.ClassFile.FieldType.int)) ∈ TB := zTB 1351 (by decide +kernel) (by decide +kernel)
theorem wd_1356 : (Jvm.Cond.methodLink "FoxBurrowsLaw" (181 : Nat) ({ cls := "FoxBurrowsModel", name := "outcomeAgain", desc := "(I)I" } : Jvm.MethodName)) ∈ TB := zTB 1356 (by decide +kernel) (by decide +kernel)
theorem wd_1357 : (Jvm.Cond.instanceMethod ({ cls := "FoxBurrowsModel", name := "outcomeAgain", desc := "(I)I" } : Jvm.MethodName)) ∈ TB := zTB 1357 (by decide +kernel) (by decide +kernel)
theorem wd_1358 : (Jvm.Cond.selects "FoxBurrowsModel" ({ cls := "FoxBurrowsModel", name := "outcomeAgain", desc := "(I)I" } : Jvm.MethodName) ({ cls := "FoxBurrowsModel", name := "outcomeAgain", desc := "(I)I" } : Jvm.MethodName)) ∈ TB := zTB 1358 (by decide +kernel) (by decide +kernel)
theorem wd_1359 : (Jvm.Cond.code ({ cls := "FoxBurrowsModel", name := "outcomeAgain", desc := "(I)I" } : Jvm.MethodName) prog_12_method_48_code (2 : Nat) (Option.some Jvm.ClassFile.FieldType.int)) ∈ TB := zTB 1359 (by decide +kernel) (by decide +kernel)
theorem wd_1360 : (Jvm.Cond.methodLink "FoxBurrowsLaw" (185 : Nat) ({ cls := "FoxBurrowsModel", name := "moveOf", desc := "(IIZ)I" } : Jvm.MethodName)) ∈ TB := zTB 1360 (by decide +kernel) (by decide +kernel)
theorem wd_1361 : (Jvm.Cond.instanceMethod ({ cls := "FoxBurrowsModel", name := "moveOf", desc := "(IIZ)I" } : Jvm.MethodName)) ∈ TB := zTB 1361 (by decide +kernel) (by decide +kernel)
theorem wd_1362 : (Jvm.Cond.selects "FoxBurrowsModel" ({ cls := "FoxBurrowsModel", name := "moveOf", desc := "(IIZ)I" } : Jvm.MethodName) ({ cls := "FoxBurrowsModel", name := "moveOf", desc := "(IIZ)I" } : Jvm.MethodName)) ∈ TB := zTB 1362 (by decide +kernel) (by decide +kernel)
theorem wd_1363 : (Jvm.Cond.code ({ cls := "FoxBurrowsModel", name := "moveOf", desc := "(IIZ)I" } : Jvm.MethodName) prog_12_method_49_code (4 : Nat) (Option.some Jvm.ClassFile.FieldType.int)) ∈ TB := zTB 1363 (by decide +kernel) (by decide +kernel)
theorem wd_1364 : (Jvm.Cond.methodLink "FoxBurrowsLaw" (188 : Nat) ({ cls := "FoxBurrowsModel", name := "best", desc := "(I)I" } : Jvm.MethodName)) ∈ TB := zTB 1364 (by decide +kernel) (by decide +kernel)
theorem wd_1365 : (Jvm.Cond.instanceMethod ({ cls := "FoxBurrowsModel", name := "best", desc := "(I)I" } : Jvm.MethodName)) ∈ TB := zTB 1365 (by decide +kernel) (by decide +kernel)
theorem wd_1366 : (Jvm.Cond.selects "FoxBurrowsModel" ({ cls := "FoxBurrowsModel", name := "best", desc := "(I)I" } : Jvm.MethodName) ({ cls := "FoxBurrowsModel", name := "best", desc := "(I)I" } : Jvm.MethodName)) ∈ TB := zTB 1366 (by decide +kernel) (by decide +kernel)
theorem wd_1367 : (Jvm.Cond.code ({ cls := "FoxBurrowsModel", name := "best", desc := "(I)I" } : Jvm.MethodName) prog_12_method_50_code (3 : Nat) (Option.some Jvm.ClassFile.FieldType.int)) ∈ TB := zTB 1367 (by decide +kernel) (by decide +kernel)
theorem wd_1368 : (Jvm.Cond.methodLink "FoxBurrowsLaw" (192 : Nat) ({ cls := "FoxBurrowsModel", name := "after", desc := "(III)I" } : Jvm.MethodName)) ∈ TB := zTB 1368 (by decide +kernel) (by decide +kernel)
theorem wd_1369 : (Jvm.Cond.instanceMethod ({ cls := "FoxBurrowsModel", name := "after", desc := "(III)I" } : Jvm.MethodName)) ∈ TB := zTB 1369 (by decide +kernel) (by decide +kernel)
theorem wd_1370 : (Jvm.Cond.selects "FoxBurrowsModel" ({ cls := "FoxBurrowsModel", name := "after", desc := "(III)I" } : Jvm.MethodName) ({ cls := "FoxBurrowsModel", name := "after", desc := "(III)I" } : Jvm.MethodName)) ∈ TB := zTB 1370 (by decide +kernel) (by decide +kernel)
theorem wd_1371 : (Jvm.Cond.code ({ cls := "FoxBurrowsModel", name := "after", desc := "(III)I" } : Jvm.MethodName) prog_12_method_51_code (5 : Nat) (Option.some Jvm.ClassFile.FieldType.int)) ∈ TB := zTB 1371 (by decide +kernel) (by decide +kernel)
theorem wd_1372 : (Jvm.Cond.methodLink "FoxBurrowsLaw" (195 : Nat) ({ cls := "FoxBurrowsModel", name := "ends", desc := "(I)I" } : Jvm.MethodName)) ∈ TB := zTB 1372 (by decide +kernel) (by decide +kernel)
theorem wd_1373 : (Jvm.Cond.instanceMethod ({ cls := "FoxBurrowsModel", name := "ends", desc := "(I)I" } : Jvm.MethodName)) ∈ TB := zTB 1373 (by decide +kernel) (by decide +kernel)
theorem wd_1374 : (Jvm.Cond.selects "FoxBurrowsModel" ({ cls := "FoxBurrowsModel", name := "ends", desc := "(I)I" } : Jvm.MethodName) ({ cls := "FoxBurrowsModel", name := "ends", desc := "(I)I" } : Jvm.MethodName)) ∈ TB := zTB 1374 (by decide +kernel) (by decide +kernel)
theorem wd_1375 : (Jvm.Cond.code ({ cls := "FoxBurrowsModel", name := "ends", desc := "(I)I" } : Jvm.MethodName) prog_12_method_52_code (4 : Nat) (Option.some Jvm.ClassFile.FieldType.int)) ∈ TB := zTB 1375 (by decide +kernel) (by decide +kernel)
theorem wd_1376 : (Jvm.Cond.methodLink "FoxBurrowsLaw" (198 : Nat) ({ cls := "FoxBurrowsModel", name := "count", desc := "(IZ)I" } : Jvm.MethodName)) ∈ TB := zTB 1376 (by decide +kernel) (by decide +kernel)
theorem wd_1377 : (Jvm.Cond.instanceMethod ({ cls := "FoxBurrowsModel", name := "count", desc := "(IZ)I" } : Jvm.MethodName)) ∈ TB := zTB 1377 (by decide +kernel) (by decide +kernel)
theorem wd_1378 : (Jvm.Cond.selects "FoxBurrowsModel" ({ cls := "FoxBurrowsModel", name := "count", desc := "(IZ)I" } : Jvm.MethodName) ({ cls := "FoxBurrowsModel", name := "count", desc := "(IZ)I" } : Jvm.MethodName)) ∈ TB := zTB 1378 (by decide +kernel) (by decide +kernel)
theorem wd_1379 : (Jvm.Cond.code ({ cls := "FoxBurrowsModel", name := "count", desc := "(IZ)I" } : Jvm.MethodName) prog_12_method_53_code (5 : Nat) (Option.some Jvm.ClassFile.FieldType.int)) ∈ TB := zTB 1379 (by decide +kernel) (by decide +kernel)
theorem wd_1380 : (Jvm.Cond.methodLink "FoxBurrowsLaw" (202 : Nat) ({ cls := "FoxBurrowsModel", name := "longest", desc := "(Z)I" } : Jvm.MethodName)) ∈ TB := zTB 1380 (by decide +kernel) (by decide +kernel)
theorem wd_1381 : (Jvm.Cond.instanceMethod ({ cls := "FoxBurrowsModel", name := "longest", desc := "(Z)I" } : Jvm.MethodName)) ∈ TB := zTB 1381 (by decide +kernel) (by decide +kernel)
theorem wd_1382 : (Jvm.Cond.selects "FoxBurrowsModel" ({ cls := "FoxBurrowsModel", name := "longest", desc := "(Z)I" } : Jvm.MethodName) ({ cls := "FoxBurrowsModel", name := "longest", desc := "(Z)I" } : Jvm.MethodName)) ∈ TB := zTB 1382 (by decide +kernel) (by decide +kernel)
theorem wd_1383 : (Jvm.Cond.code ({ cls := "FoxBurrowsModel", name := "longest", desc := "(Z)I" } : Jvm.MethodName) prog_12_method_54_code (4 : Nat) (Option.some Jvm.ClassFile.FieldType.int)) ∈ TB := zTB 1383 (by decide +kernel) (by decide +kernel)
theorem wd_1384 : (Jvm.Cond.methodLink "FoxBurrowsLaw" (205 : Nat) ({ cls := "FoxBurrowsModel", name := "wonIn", desc := "(I)I" } : Jvm.MethodName)) ∈ TB := zTB 1384 (by decide +kernel) (by decide +kernel)
theorem wd_1385 : (Jvm.Cond.instanceMethod ({ cls := "FoxBurrowsModel", name := "wonIn", desc := "(I)I" } : Jvm.MethodName)) ∈ TB := zTB 1385 (by decide +kernel) (by decide +kernel)
theorem wd_1386 : (Jvm.Cond.selects "FoxBurrowsModel" ({ cls := "FoxBurrowsModel", name := "wonIn", desc := "(I)I" } : Jvm.MethodName) ({ cls := "FoxBurrowsModel", name := "wonIn", desc := "(I)I" } : Jvm.MethodName)) ∈ TB := zTB 1386 (by decide +kernel) (by decide +kernel)
theorem wd_1387 : (Jvm.Cond.code ({ cls := "FoxBurrowsModel", name := "wonIn", desc := "(I)I" } : Jvm.MethodName) prog_12_method_55_code (4 : Nat) (Option.some Jvm.ClassFile.FieldType.int)) ∈ TB := zTB 1387 (by decide +kernel) (by decide +kernel)
theorem wd_1388 : (Jvm.Cond.methodLink "FoxBurrowsLaw" (208 : Nat) ({ cls := "FoxBurrowsModel", name := "wouldChange", desc := "(II)I" } : Jvm.MethodName)) ∈ TB := zTB 1388 (by decide +kernel) (by decide +kernel)
theorem wd_1389 : (Jvm.Cond.instanceMethod ({ cls := "FoxBurrowsModel", name := "wouldChange", desc := "(II)I" } : Jvm.MethodName)) ∈ TB := zTB 1389 (by decide +kernel) (by decide +kernel)
theorem wd_1390 : (Jvm.Cond.selects "FoxBurrowsModel" ({ cls := "FoxBurrowsModel", name := "wouldChange", desc := "(II)I" } : Jvm.MethodName) ({ cls := "FoxBurrowsModel", name := "wouldChange", desc := "(II)I" } : Jvm.MethodName)) ∈ TB := zTB 1390 (by decide +kernel) (by decide +kernel)
theorem wd_1391 : (Jvm.Cond.code ({ cls := "FoxBurrowsModel", name := "wouldChange", desc := "(II)I" } : Jvm.MethodName) prog_12_method_56_code (5 : Nat) (Option.some Jvm.ClassFile.FieldType.int)) ∈ TB := zTB 1391 (by decide +kernel) (by decide +kernel)
theorem wd_1392 : (Jvm.Cond.methodLink "FoxBurrowsLaw" (211 : Nat) ({ cls := "FoxBurrowsModel", name := "bestBurrow", desc := "(I)I" } : Jvm.MethodName)) ∈ TB := zTB 1392 (by decide +kernel) (by decide +kernel)
theorem wd_1393 : (Jvm.Cond.instanceMethod ({ cls := "FoxBurrowsModel", name := "bestBurrow", desc := "(I)I" } : Jvm.MethodName)) ∈ TB := zTB 1393 (by decide +kernel) (by decide +kernel)
theorem wd_1394 : (Jvm.Cond.selects "FoxBurrowsModel" ({ cls := "FoxBurrowsModel", name := "bestBurrow", desc := "(I)I" } : Jvm.MethodName) ({ cls := "FoxBurrowsModel", name := "bestBurrow", desc := "(I)I" } : Jvm.MethodName)) ∈ TB := zTB 1394 (by decide +kernel) (by decide +kernel)
theorem wd_1395 : (Jvm.Cond.code ({ cls := "FoxBurrowsModel", name := "bestBurrow", desc := "(I)I" } : Jvm.MethodName) prog_12_method_58_code (5 : Nat) (Option.some Jvm.ClassFile.FieldType.int)) ∈ TB := zTB 1395 (by decide +kernel) (by decide +kernel)
theorem wd_1400 : (Jvm.Cond.methodLink "FoxBurrowsLaw" (214 : Nat) ({ cls := "FoxBurrowsModel", name := "burrowOf", desc := "(II)I" } : Jvm.MethodName)) ∈ TB := zTB 1400 (by decide +kernel) (by decide +kernel)
theorem wd_1401 : (Jvm.Cond.instanceMethod ({ cls := "FoxBurrowsModel", name := "burrowOf", desc := "(II)I" } : Jvm.MethodName)) ∈ TB := zTB 1401 (by decide +kernel) (by decide +kernel)
theorem wd_1402 : (Jvm.Cond.selects "FoxBurrowsModel" ({ cls := "FoxBurrowsModel", name := "burrowOf", desc := "(II)I" } : Jvm.MethodName) ({ cls := "FoxBurrowsModel", name := "burrowOf", desc := "(II)I" } : Jvm.MethodName)) ∈ TB := zTB 1402 (by decide +kernel) (by decide +kernel)
theorem wd_1403 : (Jvm.Cond.code ({ cls := "FoxBurrowsModel", name := "burrowOf", desc := "(II)I" } : Jvm.MethodName) prog_12_method_59_code (5 : Nat) (Option.some Jvm.ClassFile.FieldType.int)) ∈ TB := zTB 1403 (by decide +kernel) (by decide +kernel)
theorem wd_1404 : (Jvm.Cond.methodLink "FoxBurrowsLaw" (217 : Nat) ({ cls := "FoxBurrowsModel", name := "pathOf", desc := "(IZ)I" } : Jvm.MethodName)) ∈ TB := zTB 1404 (by decide +kernel) (by decide +kernel)
theorem wd_1405 : (Jvm.Cond.instanceMethod ({ cls := "FoxBurrowsModel", name := "pathOf", desc := "(IZ)I" } : Jvm.MethodName)) ∈ TB := zTB 1405 (by decide +kernel) (by decide +kernel)
theorem wd_1406 : (Jvm.Cond.selects "FoxBurrowsModel" ({ cls := "FoxBurrowsModel", name := "pathOf", desc := "(IZ)I" } : Jvm.MethodName) ({ cls := "FoxBurrowsModel", name := "pathOf", desc := "(IZ)I" } : Jvm.MethodName)) ∈ TB := zTB 1406 (by decide +kernel) (by decide +kernel)
theorem wd_1407 : (Jvm.Cond.code ({ cls := "FoxBurrowsModel", name := "pathOf", desc := "(IZ)I" } : Jvm.MethodName) prog_12_method_60_code (3 : Nat) (Option.some Jvm.ClassFile.FieldType.int)) ∈ TB := zTB 1407 (by decide +kernel) (by decide +kernel)
theorem wd_1408 : (Jvm.Cond.methodLink "FoxBurrowsLaw" (220 : Nat) ({ cls := "FoxBurrowsModel", name := "now", desc := "()I" } : Jvm.MethodName)) ∈ TB := zTB 1408 (by decide +kernel) (by decide +kernel)
theorem wd_1409 : (Jvm.Cond.instanceMethod ({ cls := "FoxBurrowsModel", name := "now", desc := "()I" } : Jvm.MethodName)) ∈ TB := zTB 1409 (by decide +kernel) (by decide +kernel)
theorem wd_1410 : (Jvm.Cond.selects "FoxBurrowsModel" ({ cls := "FoxBurrowsModel", name := "now", desc := "()I" } : Jvm.MethodName) ({ cls := "FoxBurrowsModel", name := "now", desc := "()I" } : Jvm.MethodName)) ∈ TB := zTB 1410 (by decide +kernel) (by decide +kernel)
theorem wd_1411 : (Jvm.Cond.code ({ cls := "FoxBurrowsModel", name := "now", desc := "()I" } : Jvm.MethodName) prog_12_method_61_code (1 : Nat) (Option.some Jvm.ClassFile.FieldType.int)) ∈ TB := zTB 1411 (by decide +kernel) (by decide +kernel)
theorem wd_1412 : (Jvm.Cond.methodLink "FoxBurrowsLaw" (224 : Nat) ({ cls := "FoxBurrowsModel", name := "append", desc := "(C)I" } : Jvm.MethodName)) ∈ TB := zTB 1412 (by decide +kernel) (by decide +kernel)
theorem wd_1413 : (Jvm.Cond.instanceMethod ({ cls := "FoxBurrowsModel", name := "append", desc := "(C)I" } : Jvm.MethodName)) ∈ TB := zTB 1413 (by decide +kernel) (by decide +kernel)
theorem wd_1414 : (Jvm.Cond.selects "FoxBurrowsModel" ({ cls := "FoxBurrowsModel", name := "append", desc := "(C)I" } : Jvm.MethodName) ({ cls := "FoxBurrowsModel", name := "append", desc := "(C)I" } : Jvm.MethodName)) ∈ TB := zTB 1414 (by decide +kernel) (by decide +kernel)
theorem wd_1415 : (Jvm.Cond.code ({ cls := "FoxBurrowsModel", name := "append", desc := "(C)I" } : Jvm.MethodName) prog_12_method_62_code (2 : Nat) (Option.some Jvm.ClassFile.FieldType.int)) ∈ TB := zTB 1415 (by decide +kernel) (by decide +kernel)
theorem wd_1416 : (Jvm.Cond.methodLink "FoxBurrowsLaw" (227 : Nat) ({ cls := "FoxBurrowsModel", name := "commands", desc := "()I" } : Jvm.MethodName)) ∈ TB := zTB 1416 (by decide +kernel) (by decide +kernel)
theorem wd_1417 : (Jvm.Cond.instanceMethod ({ cls := "FoxBurrowsModel", name := "commands", desc := "()I" } : Jvm.MethodName)) ∈ TB := zTB 1417 (by decide +kernel) (by decide +kernel)
theorem wd_1418 : (Jvm.Cond.selects "FoxBurrowsModel" ({ cls := "FoxBurrowsModel", name := "commands", desc := "()I" } : Jvm.MethodName) ({ cls := "FoxBurrowsModel", name := "commands", desc := "()I" } : Jvm.MethodName)) ∈ TB := zTB 1418 (by decide +kernel) (by decide +kernel)
theorem wd_1419 : (Jvm.Cond.code ({ cls := "FoxBurrowsModel", name := "commands", desc := "()I" } : Jvm.MethodName) prog_12_method_67_code (6 : Nat) (Option.some Jvm.ClassFile.FieldType.int)) ∈ TB := zTB 1419 (by decide +kernel) (by decide +kernel)
theorem wd_1436 : (Jvm.Cond.methodLink "FoxBurrowsLaw" (231 : Nat) ({ cls := "FoxBurrowsModel", name := "faultPosition", desc := "()I" } : Jvm.MethodName)) ∈ TB := zTB 1436 (by decide +kernel) (by decide +kernel)
theorem wd_1437 : (Jvm.Cond.instanceMethod ({ cls := "FoxBurrowsModel", name := "faultPosition", desc := "()I" } : Jvm.MethodName)) ∈ TB := zTB 1437 (by decide +kernel) (by decide +kernel)
theorem wd_1438 : (Jvm.Cond.selects "FoxBurrowsModel" ({ cls := "FoxBurrowsModel", name := "faultPosition", desc := "()I" } : Jvm.MethodName) ({ cls := "FoxBurrowsModel", name := "faultPosition", desc := "()I" } : Jvm.MethodName)) ∈ TB := zTB 1438 (by decide +kernel) (by decide +kernel)
theorem wd_1439 : (Jvm.Cond.code ({ cls := "FoxBurrowsModel", name := "faultPosition", desc := "()I" } : Jvm.MethodName) prog_12_method_68_code (1 : Nat) (Option.some Jvm.ClassFile.FieldType.int)) ∈ TB := zTB 1439 (by decide +kernel) (by decide +kernel)
theorem wd_1440 : (Jvm.Cond.methodLink "FoxBurrowsLaw" (234 : Nat) ({ cls := "FoxBurrowsModel", name := "reason", desc := "(I)I" } : Jvm.MethodName)) ∈ TB := zTB 1440 (by decide +kernel) (by decide +kernel)
theorem wd_1441 : (Jvm.Cond.instanceMethod ({ cls := "FoxBurrowsModel", name := "reason", desc := "(I)I" } : Jvm.MethodName)) ∈ TB := zTB 1441 (by decide +kernel) (by decide +kernel)
theorem wd_1442 : (Jvm.Cond.selects "FoxBurrowsModel" ({ cls := "FoxBurrowsModel", name := "reason", desc := "(I)I" } : Jvm.MethodName) ({ cls := "FoxBurrowsModel", name := "reason", desc := "(I)I" } : Jvm.MethodName)) ∈ TB := zTB 1442 (by decide +kernel) (by decide +kernel)
theorem wd_1443 : (Jvm.Cond.code ({ cls := "FoxBurrowsModel", name := "reason", desc := "(I)I" } : Jvm.MethodName) prog_12_method_69_code (2 : Nat) (Option.some Jvm.ClassFile.FieldType.int)) ∈ TB := zTB 1443 (by decide +kernel) (by decide +kernel)
theorem wd_1444 : (Jvm.Cond.methodLink "FoxBurrowsLaw" (238 : Nat) ({ cls := "FoxBurrowsModel", name := "line", desc := "()I" } : Jvm.MethodName)) ∈ TB := zTB 1444 (by decide +kernel) (by decide +kernel)
theorem wd_1445 : (Jvm.Cond.instanceMethod ({ cls := "FoxBurrowsModel", name := "line", desc := "()I" } : Jvm.MethodName)) ∈ TB := zTB 1445 (by decide +kernel) (by decide +kernel)
theorem wd_1446 : (Jvm.Cond.selects "FoxBurrowsModel" ({ cls := "FoxBurrowsModel", name := "line", desc := "()I" } : Jvm.MethodName) ({ cls := "FoxBurrowsModel", name := "line", desc := "()I" } : Jvm.MethodName)) ∈ TB := zTB 1446 (by decide +kernel) (by decide +kernel)
theorem wd_1447 : (Jvm.Cond.code ({ cls := "FoxBurrowsModel", name := "line", desc := "()I" } : Jvm.MethodName) prog_12_method_70_code (2 : Nat) (Option.some Jvm.ClassFile.FieldType.int)) ∈ TB := zTB 1447 (by decide +kernel) (by decide +kernel)
theorem wd_1448 : (Jvm.Cond.methodLink "FoxBurrowsLaw" (241 : Nat) ({ cls := "FoxBurrowsModel", name := "character", desc := "(I)C" } : Jvm.MethodName)) ∈ TB := zTB 1448 (by decide +kernel) (by decide +kernel)
theorem wd_1449 : (Jvm.Cond.instanceMethod ({ cls := "FoxBurrowsModel", name := "character", desc := "(I)C" } : Jvm.MethodName)) ∈ TB := zTB 1449 (by decide +kernel) (by decide +kernel)
theorem wd_1450 : (Jvm.Cond.selects "FoxBurrowsModel" ({ cls := "FoxBurrowsModel", name := "character", desc := "(I)C" } : Jvm.MethodName) ({ cls := "FoxBurrowsModel", name := "character", desc := "(I)C" } : Jvm.MethodName)) ∈ TB := zTB 1450 (by decide +kernel) (by decide +kernel)
theorem wd_1451 : (Jvm.Cond.code ({ cls := "FoxBurrowsModel", name := "character", desc := "(I)C" } : Jvm.MethodName) prog_12_method_71_code (2 : Nat) (Option.some Jvm.ClassFile.FieldType.char)) ∈ TB := zTB 1451 (by decide +kernel) (by decide +kernel)
theorem wd_1452 : (Jvm.Cond.methodLink "FoxBurrowsLaw" (245 : Nat) ({ cls := "FoxBurrowsModel", name := "meanMoves", desc := "()D" } : Jvm.MethodName)) ∈ TB := zTB 1452 (by decide +kernel) (by decide +kernel)
theorem wd_1453 : (Jvm.Cond.instanceMethod ({ cls := "FoxBurrowsModel", name := "meanMoves", desc := "()D" } : Jvm.MethodName)) ∈ TB := zTB 1453 (by decide +kernel) (by decide +kernel)
theorem wd_1454 : (Jvm.Cond.selects "FoxBurrowsModel" ({ cls := "FoxBurrowsModel", name := "meanMoves", desc := "()D" } : Jvm.MethodName) ({ cls := "FoxBurrowsModel", name := "meanMoves", desc := "()D" } : Jvm.MethodName)) ∈ TB := zTB 1454 (by decide +kernel) (by decide +kernel)
theorem wd_1455 : (Jvm.Cond.code ({ cls := "FoxBurrowsModel", name := "meanMoves", desc := "()D" } : Jvm.MethodName) prog_12_method_73_code (4 : Nat) (Option.some Jvm.ClassFile.FieldType.double)) ∈ TB := zTB 1455 (by decide +kernel) (by decide +kernel)
theorem wd_1456 : (Jvm.Cond.methodLink "FoxBurrowsLaw" (248 : Nat) ({ cls := "FoxBurrowsModel", name := "drawn", desc := "()F" } : Jvm.MethodName)) ∈ TB := zTB 1456 (by decide +kernel) (by decide +kernel)
theorem wd_1457 : (Jvm.Cond.instanceMethod ({ cls := "FoxBurrowsModel", name := "drawn", desc := "()F" } : Jvm.MethodName)) ∈ TB := zTB 1457 (by decide +kernel) (by decide +kernel)
theorem wd_1458 : (Jvm.Cond.selects "FoxBurrowsModel" ({ cls := "FoxBurrowsModel", name := "drawn", desc := "()F" } : Jvm.MethodName) ({ cls := "FoxBurrowsModel", name := "drawn", desc := "()F" } : Jvm.MethodName)) ∈ TB := zTB 1458 (by decide +kernel) (by decide +kernel)
theorem wd_1459 : (Jvm.Cond.code ({ cls := "FoxBurrowsModel", name := "drawn", desc := "()F" } : Jvm.MethodName) prog_12_method_74_code (3 : Nat) (Option.some Jvm.ClassFile.FieldType.float)) ∈ TB := zTB 1459 (by decide +kernel) (by decide +kernel)
theorem wd_1464 : (Jvm.Cond.methodLink "FoxBurrowsLaw" (251 : Nat) ({ cls := "FoxBurrowsModel", name := "account", desc := "(I)I" } : Jvm.MethodName)) ∈ TB := zTB 1464 (by decide +kernel) (by decide +kernel)
theorem wd_1465 : (Jvm.Cond.instanceMethod ({ cls := "FoxBurrowsModel", name := "account", desc := "(I)I" } : Jvm.MethodName)) ∈ TB := zTB 1465 (by decide +kernel) (by decide +kernel)
theorem wd_1466 : (Jvm.Cond.selects "FoxBurrowsModel" ({ cls := "FoxBurrowsModel", name := "account", desc := "(I)I" } : Jvm.MethodName) ({ cls := "FoxBurrowsModel", name := "account", desc := "(I)I" } : Jvm.MethodName)) ∈ TB := zTB 1466 (by decide +kernel) (by decide +kernel)
theorem wd_1467 : (Jvm.Cond.code ({ cls := "FoxBurrowsModel", name := "account", desc := "(I)I" } : Jvm.MethodName) prog_12_method_75_code (4 : Nat) (Option.some Jvm.ClassFile.FieldType.int)) ∈ TB := zTB 1467 (by decide +kernel) (by decide +kernel)
theorem wd_1468 : (Jvm.Cond.methodLink "FoxBurrowsLaw" (254 : Nat) ({ cls := "FoxBurrowsModel", name := "undo", desc := "()I" } : Jvm.MethodName)) ∈ TB := zTB 1468 (by decide +kernel) (by decide +kernel)
theorem wd_1469 : (Jvm.Cond.instanceMethod ({ cls := "FoxBurrowsModel", name := "undo", desc := "()I" } : Jvm.MethodName)) ∈ TB := zTB 1469 (by decide +kernel) (by decide +kernel)
theorem wd_1470 : (Jvm.Cond.selects "FoxBurrowsModel" ({ cls := "FoxBurrowsModel", name := "undo", desc := "()I" } : Jvm.MethodName) ({ cls := "FoxBurrowsModel", name := "undo", desc := "()I" } : Jvm.MethodName)) ∈ TB := zTB 1470 (by decide +kernel) (by decide +kernel)
theorem wd_1471 : (Jvm.Cond.code ({ cls := "FoxBurrowsModel", name := "undo", desc := "()I" } : Jvm.MethodName) prog_12_method_76_code (2 : Nat) (Option.some Jvm.ClassFile.FieldType.int)) ∈ TB := zTB 1471 (by decide +kernel) (by decide +kernel)
theorem wd_1472 : (Jvm.Cond.methodLink "FoxBurrowsLaw" (258 : Nat) ({ cls := "FoxBurrowsModel", name := "save", desc := "()I" } : Jvm.MethodName)) ∈ TB := zTB 1472 (by decide +kernel) (by decide +kernel)
theorem wd_1473 : (Jvm.Cond.instanceMethod ({ cls := "FoxBurrowsModel", name := "save", desc := "()I" } : Jvm.MethodName)) ∈ TB := zTB 1473 (by decide +kernel) (by decide +kernel)
theorem wd_1474 : (Jvm.Cond.selects "FoxBurrowsModel" ({ cls := "FoxBurrowsModel", name := "save", desc := "()I" } : Jvm.MethodName) ({ cls := "FoxBurrowsModel", name := "save", desc := "()I" } : Jvm.MethodName)) ∈ TB := zTB 1474 (by decide +kernel) (by decide +kernel)
theorem wd_1475 : (Jvm.Cond.code ({ cls := "FoxBurrowsModel", name := "save", desc := "()I" } : Jvm.MethodName) prog_12_method_77_code (2 : Nat) (Option.some Jvm.ClassFile.FieldType.int)) ∈ TB := zTB 1475 (by decide +kernel) (by decide +kernel)
theorem wd_1476 : (Jvm.Cond.methodLink "FoxBurrowsLaw" (261 : Nat) ({ cls := "FoxBurrowsModel", name := "restore", desc := "()I" } : Jvm.MethodName)) ∈ TB := zTB 1476 (by decide +kernel) (by decide +kernel)
theorem wd_1477 : (Jvm.Cond.instanceMethod ({ cls := "FoxBurrowsModel", name := "restore", desc := "()I" } : Jvm.MethodName)) ∈ TB := zTB 1477 (by decide +kernel) (by decide +kernel)
theorem wd_1478 : (Jvm.Cond.selects "FoxBurrowsModel" ({ cls := "FoxBurrowsModel", name := "restore", desc := "()I" } : Jvm.MethodName) ({ cls := "FoxBurrowsModel", name := "restore", desc := "()I" } : Jvm.MethodName)) ∈ TB := zTB 1478 (by decide +kernel) (by decide +kernel)
theorem wd_1479 : (Jvm.Cond.code ({ cls := "FoxBurrowsModel", name := "restore", desc := "()I" } : Jvm.MethodName) prog_12_method_78_code (2 : Nat) (Option.some Jvm.ClassFile.FieldType.int)) ∈ TB := zTB 1479 (by decide +kernel) (by decide +kernel)
theorem wd_293 : (Jvm.Cond.methodLink "FoxBurrowsLaw" (228 : Nat) ({ cls := "FoxBurrows", name := "faultPosition", desc := "()I" } : Jvm.MethodName)) ∈ TB := zTB 293 (by decide +kernel) (by decide +kernel)
theorem wd_294 : (Jvm.Cond.instanceMethod ({ cls := "FoxBurrows", name := "faultPosition", desc := "()I" } : Jvm.MethodName)) ∈ TB := zTB 294 (by decide +kernel) (by decide +kernel)
theorem wd_295 : (Jvm.Cond.selects "FoxBurrows" ({ cls := "FoxBurrows", name := "faultPosition", desc := "()I" } : Jvm.MethodName) ({ cls := "FoxBurrows", name := "faultPosition", desc := "()I" } : Jvm.MethodName)) ∈ TB := zTB 295 (by decide +kernel) (by decide +kernel)
theorem wd_296 : (Jvm.Cond.code ({ cls := "FoxBurrows", name := "faultPosition", desc := "()I" } : Jvm.MethodName) prog_1_method_31_code (1 : Nat) (Option.some Jvm.ClassFile.FieldType.int)) ∈ TB := zTB 296 (by decide +kernel) (by decide +kernel)
theorem wd_297 : (Jvm.Cond.methodLink "FoxBurrowsLaw" (235 : Nat) ({ cls := "FoxBurrows", name := "line", desc := "()I" } : Jvm.MethodName)) ∈ TB := zTB 297 (by decide +kernel) (by decide +kernel)
theorem wd_298 : (Jvm.Cond.instanceMethod ({ cls := "FoxBurrows", name := "line", desc := "()I" } : Jvm.MethodName)) ∈ TB := zTB 298 (by decide +kernel) (by decide +kernel)
theorem wd_299 : (Jvm.Cond.selects "FoxBurrows" ({ cls := "FoxBurrows", name := "line", desc := "()I" } : Jvm.MethodName) ({ cls := "FoxBurrows", name := "line", desc := "()I" } : Jvm.MethodName)) ∈ TB := zTB 299 (by decide +kernel) (by decide +kernel)
theorem wd_300 : (Jvm.Cond.code ({ cls := "FoxBurrows", name := "line", desc := "()I" } : Jvm.MethodName) prog_1_method_33_code (6 : Nat) (Option.some Jvm.ClassFile.FieldType.int)) ∈ TB := zTB 300 (by decide +kernel) (by decide +kernel)
theorem wd_317 : (Jvm.Cond.methodLink "FoxBurrowsLaw" (255 : Nat) ({ cls := "FoxBurrows", name := "save", desc := "()I" } : Jvm.MethodName)) ∈ TB := zTB 317 (by decide +kernel) (by decide +kernel)
theorem wd_318 : (Jvm.Cond.instanceMethod ({ cls := "FoxBurrows", name := "save", desc := "()I" } : Jvm.MethodName)) ∈ TB := zTB 318 (by decide +kernel) (by decide +kernel)
theorem wd_319 : (Jvm.Cond.selects "FoxBurrows" ({ cls := "FoxBurrows", name := "save", desc := "()I" } : Jvm.MethodName) ({ cls := "FoxBurrows", name := "save", desc := "()I" } : Jvm.MethodName)) ∈ TB := zTB 319 (by decide +kernel) (by decide +kernel)
theorem wd_320 : (Jvm.Cond.code ({ cls := "FoxBurrows", name := "save", desc := "()I" } : Jvm.MethodName) prog_1_method_36_code (1 : Nat) (Option.some Jvm.ClassFile.FieldType.int)) ∈ TB := zTB 320 (by decide +kernel) (by decide +kernel)
theorem wd_343 : (Jvm.Cond.methodLink "FoxBurrowsLaw" (136 : Nat) ({ cls := "FoxBurrowsLaw", name := "dig", desc := "(LFoxBurrows;[J)I" } : Jvm.MethodName)) ∈ TB := zTB 343 (by decide +kernel) (by decide +kernel)
theorem wd_344 : (Jvm.Cond.static ({ cls := "FoxBurrowsLaw", name := "dig", desc := "(LFoxBurrows;[J)I" } : Jvm.MethodName)) ∈ TB := zTB 344 (by decide +kernel) (by decide +kernel)
theorem wd_345 : (Jvm.Cond.codeWith ({ cls := "FoxBurrowsLaw", name := "dig", desc := "(LFoxBurrows;[J)I" } : Jvm.MethodName) method_3_code (3 : Nat) (Option.some Jvm.ClassFile.FieldType.int) [((0 : Nat), (8 : Nat), (11 : Nat), (13 : Nat))]) ∈ TB := zTB 345 (by decide +kernel) (by decide +kernel)
theorem wd_457 : (Jvm.Cond.methodLink "FoxBurrowsLaw" (145 : Nat) ({ cls := "FoxBurrowsLaw", name := "tread", desc := "(LFoxBurrows;II[J)I" } : Jvm.MethodName)) ∈ TB := zTB 457 (by decide +kernel) (by decide +kernel)
theorem wd_458 : (Jvm.Cond.static ({ cls := "FoxBurrowsLaw", name := "tread", desc := "(LFoxBurrows;II[J)I" } : Jvm.MethodName)) ∈ TB := zTB 458 (by decide +kernel) (by decide +kernel)
theorem wd_459 : (Jvm.Cond.codeWith ({ cls := "FoxBurrowsLaw", name := "tread", desc := "(LFoxBurrows;II[J)I" } : Jvm.MethodName) method_4_code (5 : Nat) (Option.some Jvm.ClassFile.FieldType.int) [((0 : Nat), (10 : Nat), (13 : Nat), (13 : Nat))]) ∈ TB := zTB 459 (by decide +kernel) (by decide +kernel)
theorem wd_495 : (Jvm.Cond.methodLink "FoxBurrowsLaw" (149 : Nat) ({ cls := "FoxBurrowsLaw", name := "grow", desc := "(LFoxBurrows;II[J)I" } : Jvm.MethodName)) ∈ TB := zTB 495 (by decide +kernel) (by decide +kernel)
theorem wd_496 : (Jvm.Cond.static ({ cls := "FoxBurrowsLaw", name := "grow", desc := "(LFoxBurrows;II[J)I" } : Jvm.MethodName)) ∈ TB := zTB 496 (by decide +kernel) (by decide +kernel)
theorem wd_497 : (Jvm.Cond.codeWith ({ cls := "FoxBurrowsLaw", name := "grow", desc := "(LFoxBurrows;II[J)I" } : Jvm.MethodName) method_5_code (5 : Nat) (Option.some Jvm.ClassFile.FieldType.int) [((0 : Nat), (10 : Nat), (13 : Nat), (13 : Nat))]) ∈ TB := zTB 497 (by decide +kernel) (by decide +kernel)
theorem wd_510 : (Jvm.Cond.methodLink "FoxBurrowsLaw" (152 : Nat) ({ cls := "FoxBurrowsLaw", name := "trap", desc := "(LFoxBurrows;IZ[J)I" } : Jvm.MethodName)) ∈ TB := zTB 510 (by decide +kernel) (by decide +kernel)
theorem wd_511 : (Jvm.Cond.static ({ cls := "FoxBurrowsLaw", name := "trap", desc := "(LFoxBurrows;IZ[J)I" } : Jvm.MethodName)) ∈ TB := zTB 511 (by decide +kernel) (by decide +kernel)
theorem wd_512 : (Jvm.Cond.codeWith ({ cls := "FoxBurrowsLaw", name := "trap", desc := "(LFoxBurrows;IZ[J)I" } : Jvm.MethodName) method_6_code (5 : Nat) (Option.some Jvm.ClassFile.FieldType.int) [((0 : Nat), (10 : Nat), (13 : Nat), (13 : Nat))]) ∈ TB := zTB 512 (by decide +kernel) (by decide +kernel)
theorem wd_531 : (Jvm.Cond.methodLink "FoxBurrowsLaw" (156 : Nat) ({ cls := "FoxBurrowsLaw", name := "flock", desc := "(LFoxBurrows;I[J)I" } : Jvm.MethodName)) ∈ TB := zTB 531 (by decide +kernel) (by decide +kernel)
theorem wd_532 : (Jvm.Cond.static ({ cls := "FoxBurrowsLaw", name := "flock", desc := "(LFoxBurrows;I[J)I" } : Jvm.MethodName)) ∈ TB := zTB 532 (by decide +kernel) (by decide +kernel)
theorem wd_533 : (Jvm.Cond.codeWith ({ cls := "FoxBurrowsLaw", name := "flock", desc := "(LFoxBurrows;I[J)I" } : Jvm.MethodName) method_7_code (4 : Nat) (Option.some Jvm.ClassFile.FieldType.int) [((0 : Nat), (9 : Nat), (12 : Nat), (13 : Nat))]) ∈ TB := zTB 533 (by decide +kernel) (by decide +kernel)
theorem wd_542 : (Jvm.Cond.methodLink "FoxBurrowsLaw" (160 : Nat) ({ cls := "FoxBurrowsLaw", name := "begin", desc := "(LFoxBurrows;I[J)I" } : Jvm.MethodName)) ∈ TB := zTB 542 (by decide +kernel) (by decide +kernel)
theorem wd_543 : (Jvm.Cond.static ({ cls := "FoxBurrowsLaw", name := "begin", desc := "(LFoxBurrows;I[J)I" } : Jvm.MethodName)) ∈ TB := zTB 543 (by decide +kernel) (by decide +kernel)
theorem wd_544 : (Jvm.Cond.codeWith ({ cls := "FoxBurrowsLaw", name := "begin", desc := "(LFoxBurrows;I[J)I" } : Jvm.MethodName) method_8_code (4 : Nat) (Option.some Jvm.ClassFile.FieldType.int) [((0 : Nat), (9 : Nat), (12 : Nat), (13 : Nat))]) ∈ TB := zTB 544 (by decide +kernel) (by decide +kernel)
theorem wd_598 : (Jvm.Cond.methodLink "FoxBurrowsLaw" (163 : Nat) ({ cls := "FoxBurrowsLaw", name := "move", desc := "(LFoxBurrows;II[J)I" } : Jvm.MethodName)) ∈ TB := zTB 598 (by decide +kernel) (by decide +kernel)
theorem wd_599 : (Jvm.Cond.static ({ cls := "FoxBurrowsLaw", name := "move", desc := "(LFoxBurrows;II[J)I" } : Jvm.MethodName)) ∈ TB := zTB 599 (by decide +kernel) (by decide +kernel)
theorem wd_600 : (Jvm.Cond.codeWith ({ cls := "FoxBurrowsLaw", name := "move", desc := "(LFoxBurrows;II[J)I" } : Jvm.MethodName) method_9_code (5 : Nat) (Option.some Jvm.ClassFile.FieldType.int) [((0 : Nat), (10 : Nat), (13 : Nat), (13 : Nat))]) ∈ TB := zTB 600 (by decide +kernel) (by decide +kernel)
theorem wd_639 : (Jvm.Cond.methodLink "FoxBurrowsLaw" (166 : Nat) ({ cls := "FoxBurrowsLaw", name := "play", desc := "(LFoxBurrows;I[J)I" } : Jvm.MethodName)) ∈ TB := zTB 639 (by decide +kernel) (by decide +kernel)
theorem wd_640 : (Jvm.Cond.static ({ cls := "FoxBurrowsLaw", name := "play", desc := "(LFoxBurrows;I[J)I" } : Jvm.MethodName)) ∈ TB := zTB 640 (by decide +kernel) (by decide +kernel)
theorem wd_641 : (Jvm.Cond.codeWith ({ cls := "FoxBurrowsLaw", name := "play", desc := "(LFoxBurrows;I[J)I" } : Jvm.MethodName) method_10_code (4 : Nat) (Option.some Jvm.ClassFile.FieldType.int) [((0 : Nat), (9 : Nat), (12 : Nat), (13 : Nat))]) ∈ TB := zTB 641 (by decide +kernel) (by decide +kernel)
theorem wd_692 : (Jvm.Cond.methodLink "FoxBurrowsLaw" (169 : Nat) ({ cls := "FoxBurrowsLaw", name := "back", desc := "(LFoxBurrows;[J)I" } : Jvm.MethodName)) ∈ TB := zTB 692 (by decide +kernel) (by decide +kernel)
theorem wd_693 : (Jvm.Cond.static ({ cls := "FoxBurrowsLaw", name := "back", desc := "(LFoxBurrows;[J)I" } : Jvm.MethodName)) ∈ TB := zTB 693 (by decide +kernel) (by decide +kernel)
theorem wd_694 : (Jvm.Cond.codeWith ({ cls := "FoxBurrowsLaw", name := "back", desc := "(LFoxBurrows;[J)I" } : Jvm.MethodName) method_11_code (3 : Nat) (Option.some Jvm.ClassFile.FieldType.int) [((0 : Nat), (8 : Nat), (11 : Nat), (13 : Nat))]) ∈ TB := zTB 694 (by decide +kernel) (by decide +kernel)
theorem wd_703 : (Jvm.Cond.methodLink "FoxBurrowsLaw" (172 : Nat) ({ cls := "FoxBurrowsLaw", name := "position", desc := "(LFoxBurrows;IIIZ[J)I" } : Jvm.MethodName)) ∈ TB := zTB 703 (by decide +kernel) (by decide +kernel)
theorem wd_704 : (Jvm.Cond.static ({ cls := "FoxBurrowsLaw", name := "position", desc := "(LFoxBurrows;IIIZ[J)I" } : Jvm.MethodName)) ∈ TB := zTB 704 (by decide +kernel) (by decide +kernel)
theorem wd_705 : (Jvm.Cond.codeWith ({ cls := "FoxBurrowsLaw", name := "position", desc := "(LFoxBurrows;IIIZ[J)I" } : Jvm.MethodName) method_12_code (7 : Nat) (Option.some Jvm.ClassFile.FieldType.int) [((0 : Nat), (14 : Nat), (17 : Nat), (46 : Nat))]) ∈ TB := zTB 705 (by decide +kernel) (by decide +kernel)
theorem wd_728 : (Jvm.Cond.methodLink "FoxBurrowsLaw" (176 : Nat) ({ cls := "FoxBurrowsLaw", name := "positionOf", desc := "(LFoxBurrows;II[J)I" } : Jvm.MethodName)) ∈ TB := zTB 728 (by decide +kernel) (by decide +kernel)
theorem wd_729 : (Jvm.Cond.static ({ cls := "FoxBurrowsLaw", name := "positionOf", desc := "(LFoxBurrows;II[J)I" } : Jvm.MethodName)) ∈ TB := zTB 729 (by decide +kernel) (by decide +kernel)
theorem wd_730 : (Jvm.Cond.codeWith ({ cls := "FoxBurrowsLaw", name := "positionOf", desc := "(LFoxBurrows;II[J)I" } : Jvm.MethodName) method_13_code (5 : Nat) (Option.some Jvm.ClassFile.FieldType.int) [((0 : Nat), (10 : Nat), (13 : Nat), (51 : Nat)), ((0 : Nat), (10 : Nat), (17 : Nat), (46 : Nat))]) ∈ TB := zTB 730 (by decide +kernel) (by decide +kernel)
theorem wd_764 : (Jvm.Cond.methodLink "FoxBurrowsLaw" (179 : Nat) ({ cls := "FoxBurrowsLaw", name := "outcomeAgain", desc := "(LFoxBurrows;I[J)I" } : Jvm.MethodName)) ∈ TB := zTB 764 (by decide +kernel) (by decide +kernel)
theorem wd_765 : (Jvm.Cond.static ({ cls := "FoxBurrowsLaw", name := "outcomeAgain", desc := "(LFoxBurrows;I[J)I" } : Jvm.MethodName)) ∈ TB := zTB 765 (by decide +kernel) (by decide +kernel)
theorem wd_766 : (Jvm.Cond.codeWith ({ cls := "FoxBurrowsLaw", name := "outcomeAgain", desc := "(LFoxBurrows;I[J)I" } : Jvm.MethodName) method_14_code (4 : Nat) (Option.some Jvm.ClassFile.FieldType.int) [((0 : Nat), (9 : Nat), (12 : Nat), (46 : Nat))]) ∈ TB := zTB 766 (by decide +kernel) (by decide +kernel)
theorem wd_793 : (Jvm.Cond.methodLink "FoxBurrowsLaw" (182 : Nat) ({ cls := "FoxBurrowsLaw", name := "moveOf", desc := "(LFoxBurrows;IIZ[J)I" } : Jvm.MethodName)) ∈ TB := zTB 793 (by decide +kernel) (by decide +kernel)
theorem wd_794 : (Jvm.Cond.static ({ cls := "FoxBurrowsLaw", name := "moveOf", desc := "(LFoxBurrows;IIZ[J)I" } : Jvm.MethodName)) ∈ TB := zTB 794 (by decide +kernel) (by decide +kernel)
theorem wd_795 : (Jvm.Cond.codeWith ({ cls := "FoxBurrowsLaw", name := "moveOf", desc := "(LFoxBurrows;IIZ[J)I" } : Jvm.MethodName) method_15_code (6 : Nat) (Option.some Jvm.ClassFile.FieldType.int) [((0 : Nat), (12 : Nat), (15 : Nat), (46 : Nat))]) ∈ TB := zTB 795 (by decide +kernel) (by decide +kernel)
theorem wd_803 : (Jvm.Cond.methodLink "FoxBurrowsLaw" (186 : Nat) ({ cls := "FoxBurrowsLaw", name := "best", desc := "(LFoxBurrows;I[J)I" } : Jvm.MethodName)) ∈ TB := zTB 803 (by decide +kernel) (by decide +kernel)
theorem wd_804 : (Jvm.Cond.static ({ cls := "FoxBurrowsLaw", name := "best", desc := "(LFoxBurrows;I[J)I" } : Jvm.MethodName)) ∈ TB := zTB 804 (by decide +kernel) (by decide +kernel)
theorem wd_805 : (Jvm.Cond.codeWith ({ cls := "FoxBurrowsLaw", name := "best", desc := "(LFoxBurrows;I[J)I" } : Jvm.MethodName) method_16_code (4 : Nat) (Option.some Jvm.ClassFile.FieldType.int) [((0 : Nat), (9 : Nat), (12 : Nat), (46 : Nat))]) ∈ TB := zTB 805 (by decide +kernel) (by decide +kernel)
theorem wd_811 : (Jvm.Cond.methodLink "FoxBurrowsLaw" (189 : Nat) ({ cls := "FoxBurrowsLaw", name := "after", desc := "(LFoxBurrows;III[J)I" } : Jvm.MethodName)) ∈ TB := zTB 811 (by decide +kernel) (by decide +kernel)
theorem wd_812 : (Jvm.Cond.static ({ cls := "FoxBurrowsLaw", name := "after", desc := "(LFoxBurrows;III[J)I" } : Jvm.MethodName)) ∈ TB := zTB 812 (by decide +kernel) (by decide +kernel)
theorem wd_813 : (Jvm.Cond.codeWith ({ cls := "FoxBurrowsLaw", name := "after", desc := "(LFoxBurrows;III[J)I" } : Jvm.MethodName) method_17_code (6 : Nat) (Option.some Jvm.ClassFile.FieldType.int) [((0 : Nat), (12 : Nat), (15 : Nat), (46 : Nat))]) ∈ TB := zTB 813 (by decide +kernel) (by decide +kernel)
theorem wd_819 : (Jvm.Cond.methodLink "FoxBurrowsLaw" (193 : Nat) ({ cls := "FoxBurrowsLaw", name := "ends", desc := "(LFoxBurrows;I[J)I" } : Jvm.MethodName)) ∈ TB := zTB 819 (by decide +kernel) (by decide +kernel)
theorem wd_820 : (Jvm.Cond.static ({ cls := "FoxBurrowsLaw", name := "ends", desc := "(LFoxBurrows;I[J)I" } : Jvm.MethodName)) ∈ TB := zTB 820 (by decide +kernel) (by decide +kernel)
theorem wd_821 : (Jvm.Cond.codeWith ({ cls := "FoxBurrowsLaw", name := "ends", desc := "(LFoxBurrows;I[J)I" } : Jvm.MethodName) method_18_code (4 : Nat) (Option.some Jvm.ClassFile.FieldType.int) [((0 : Nat), (9 : Nat), (12 : Nat), (46 : Nat))]) ∈ TB := zTB 821 (by decide +kernel) (by decide +kernel)
theorem wd_827 : (Jvm.Cond.methodLink "FoxBurrowsLaw" (196 : Nat) ({ cls := "FoxBurrowsLaw", name := "count", desc := "(LFoxBurrows;IZ[J)I" } : Jvm.MethodName)) ∈ TB := zTB 827 (by decide +kernel) (by decide +kernel)
theorem wd_828 : (Jvm.Cond.static ({ cls := "FoxBurrowsLaw", name := "count", desc := "(LFoxBurrows;IZ[J)I" } : Jvm.MethodName)) ∈ TB := zTB 828 (by decide +kernel) (by decide +kernel)
theorem wd_829 : (Jvm.Cond.codeWith ({ cls := "FoxBurrowsLaw", name := "count", desc := "(LFoxBurrows;IZ[J)I" } : Jvm.MethodName) method_19_code (5 : Nat) (Option.some Jvm.ClassFile.FieldType.int) [((0 : Nat), (10 : Nat), (13 : Nat), (51 : Nat))]) ∈ TB := zTB 829 (by decide +kernel) (by decide +kernel)
theorem wd_839 : (Jvm.Cond.methodLink "FoxBurrowsLaw" (199 : Nat) ({ cls := "FoxBurrowsLaw", name := "longest", desc := "(LFoxBurrows;Z[J)I" } : Jvm.MethodName)) ∈ TB := zTB 839 (by decide +kernel) (by decide +kernel)
theorem wd_840 : (Jvm.Cond.static ({ cls := "FoxBurrowsLaw", name := "longest", desc := "(LFoxBurrows;Z[J)I" } : Jvm.MethodName)) ∈ TB := zTB 840 (by decide +kernel) (by decide +kernel)
theorem wd_841 : (Jvm.Cond.codeWith ({ cls := "FoxBurrowsLaw", name := "longest", desc := "(LFoxBurrows;Z[J)I" } : Jvm.MethodName) method_20_code (4 : Nat) (Option.some Jvm.ClassFile.FieldType.int) [((0 : Nat), (9 : Nat), (12 : Nat), (46 : Nat))]) ∈ TB := zTB 841 (by decide +kernel) (by decide +kernel)
theorem wd_847 : (Jvm.Cond.methodLink "FoxBurrowsLaw" (203 : Nat) ({ cls := "FoxBurrowsLaw", name := "wonIn", desc := "(LFoxBurrows;I[J)I" } : Jvm.MethodName)) ∈ TB := zTB 847 (by decide +kernel) (by decide +kernel)
theorem wd_848 : (Jvm.Cond.static ({ cls := "FoxBurrowsLaw", name := "wonIn", desc := "(LFoxBurrows;I[J)I" } : Jvm.MethodName)) ∈ TB := zTB 848 (by decide +kernel) (by decide +kernel)
theorem wd_849 : (Jvm.Cond.codeWith ({ cls := "FoxBurrowsLaw", name := "wonIn", desc := "(LFoxBurrows;I[J)I" } : Jvm.MethodName) method_21_code (4 : Nat) (Option.some Jvm.ClassFile.FieldType.int) [((0 : Nat), (9 : Nat), (12 : Nat), (51 : Nat))]) ∈ TB := zTB 849 (by decide +kernel) (by decide +kernel)
theorem wd_859 : (Jvm.Cond.methodLink "FoxBurrowsLaw" (206 : Nat) ({ cls := "FoxBurrowsLaw", name := "wouldChange", desc := "(LFoxBurrows;II[J)I" } : Jvm.MethodName)) ∈ TB := zTB 859 (by decide +kernel) (by decide +kernel)
theorem wd_860 : (Jvm.Cond.static ({ cls := "FoxBurrowsLaw", name := "wouldChange", desc := "(LFoxBurrows;II[J)I" } : Jvm.MethodName)) ∈ TB := zTB 860 (by decide +kernel) (by decide +kernel)
theorem wd_861 : (Jvm.Cond.codeWith ({ cls := "FoxBurrowsLaw", name := "wouldChange", desc := "(LFoxBurrows;II[J)I" } : Jvm.MethodName) method_22_code (5 : Nat) (Option.some Jvm.ClassFile.FieldType.int) [((0 : Nat), (10 : Nat), (13 : Nat), (83 : Nat)), ((0 : Nat), (10 : Nat), (17 : Nat), (51 : Nat))]) ∈ TB := zTB 861 (by decide +kernel) (by decide +kernel)
theorem wd_906 : (Jvm.Cond.methodLink "FoxBurrowsLaw" (209 : Nat) ({ cls := "FoxBurrowsLaw", name := "bestBurrow", desc := "(LFoxBurrows;I[J)I" } : Jvm.MethodName)) ∈ TB := zTB 906 (by decide +kernel) (by decide +kernel)
theorem wd_907 : (Jvm.Cond.static ({ cls := "FoxBurrowsLaw", name := "bestBurrow", desc := "(LFoxBurrows;I[J)I" } : Jvm.MethodName)) ∈ TB := zTB 907 (by decide +kernel) (by decide +kernel)
theorem wd_908 : (Jvm.Cond.codeWith ({ cls := "FoxBurrowsLaw", name := "bestBurrow", desc := "(LFoxBurrows;I[J)I" } : Jvm.MethodName) method_23_code (4 : Nat) (Option.some Jvm.ClassFile.FieldType.int) [((0 : Nat), (9 : Nat), (12 : Nat), (46 : Nat))]) ∈ TB := zTB 908 (by decide +kernel) (by decide +kernel)
theorem wd_920 : (Jvm.Cond.methodLink "FoxBurrowsLaw" (212 : Nat) ({ cls := "FoxBurrowsLaw", name := "burrowOf", desc := "(LFoxBurrows;II[J)I" } : Jvm.MethodName)) ∈ TB := zTB 920 (by decide +kernel) (by decide +kernel)
theorem wd_921 : (Jvm.Cond.static ({ cls := "FoxBurrowsLaw", name := "burrowOf", desc := "(LFoxBurrows;II[J)I" } : Jvm.MethodName)) ∈ TB := zTB 921 (by decide +kernel) (by decide +kernel)
theorem wd_922 : (Jvm.Cond.codeWith ({ cls := "FoxBurrowsLaw", name := "burrowOf", desc := "(LFoxBurrows;II[J)I" } : Jvm.MethodName) method_24_code (5 : Nat) (Option.some Jvm.ClassFile.FieldType.int) [((0 : Nat), (10 : Nat), (13 : Nat), (83 : Nat)), ((0 : Nat), (10 : Nat), (17 : Nat), (51 : Nat))]) ∈ TB := zTB 922 (by decide +kernel) (by decide +kernel)
theorem wd_933 : (Jvm.Cond.methodLink "FoxBurrowsLaw" (215 : Nat) ({ cls := "FoxBurrowsLaw", name := "pathOf", desc := "(LFoxBurrows;IZ[J)I" } : Jvm.MethodName)) ∈ TB := zTB 933 (by decide +kernel) (by decide +kernel)
theorem wd_934 : (Jvm.Cond.static ({ cls := "FoxBurrowsLaw", name := "pathOf", desc := "(LFoxBurrows;IZ[J)I" } : Jvm.MethodName)) ∈ TB := zTB 934 (by decide +kernel) (by decide +kernel)
theorem wd_935 : (Jvm.Cond.codeWith ({ cls := "FoxBurrowsLaw", name := "pathOf", desc := "(LFoxBurrows;IZ[J)I" } : Jvm.MethodName) method_25_code (5 : Nat) (Option.some Jvm.ClassFile.FieldType.int) [((0 : Nat), (10 : Nat), (13 : Nat), (83 : Nat))]) ∈ TB := zTB 935 (by decide +kernel) (by decide +kernel)
theorem wd_941 : (Jvm.Cond.methodLink "FoxBurrowsLaw" (218 : Nat) ({ cls := "FoxBurrowsLaw", name := "now", desc := "(LFoxBurrows;[J)I" } : Jvm.MethodName)) ∈ TB := zTB 941 (by decide +kernel) (by decide +kernel)
theorem wd_942 : (Jvm.Cond.static ({ cls := "FoxBurrowsLaw", name := "now", desc := "(LFoxBurrows;[J)I" } : Jvm.MethodName)) ∈ TB := zTB 942 (by decide +kernel) (by decide +kernel)
theorem wd_943 : (Jvm.Cond.codeWith ({ cls := "FoxBurrowsLaw", name := "now", desc := "(LFoxBurrows;[J)I" } : Jvm.MethodName) method_26_code (3 : Nat) (Option.some Jvm.ClassFile.FieldType.int) [((0 : Nat), (8 : Nat), (11 : Nat), (46 : Nat))]) ∈ TB := zTB 943 (by decide +kernel) (by decide +kernel)
theorem wd_949 : (Jvm.Cond.methodLink "FoxBurrowsLaw" (221 : Nat) ({ cls := "FoxBurrowsLaw", name := "append", desc := "(LFoxBurrows;C[J)I" } : Jvm.MethodName)) ∈ TB := zTB 949 (by decide +kernel) (by decide +kernel)
theorem wd_950 : (Jvm.Cond.static ({ cls := "FoxBurrowsLaw", name := "append", desc := "(LFoxBurrows;C[J)I" } : Jvm.MethodName)) ∈ TB := zTB 950 (by decide +kernel) (by decide +kernel)
theorem wd_951 : (Jvm.Cond.codeWith ({ cls := "FoxBurrowsLaw", name := "append", desc := "(LFoxBurrows;C[J)I" } : Jvm.MethodName) method_27_code (4 : Nat) (Option.some Jvm.ClassFile.FieldType.int) [((0 : Nat), (9 : Nat), (12 : Nat), (101 : Nat))]) ∈ TB := zTB 951 (by decide +kernel) (by decide +kernel)
theorem wd_973 : (Jvm.Cond.methodLink "FoxBurrowsLaw" (225 : Nat) ({ cls := "FoxBurrowsLaw", name := "commands", desc := "(LFoxBurrows;[J)I" } : Jvm.MethodName)) ∈ TB := zTB 973 (by decide +kernel) (by decide +kernel)
theorem wd_974 : (Jvm.Cond.static ({ cls := "FoxBurrowsLaw", name := "commands", desc := "(LFoxBurrows;[J)I" } : Jvm.MethodName)) ∈ TB := zTB 974 (by decide +kernel) (by decide +kernel)
theorem wd_975 : (Jvm.Cond.codeWith ({ cls := "FoxBurrowsLaw", name := "commands", desc := "(LFoxBurrows;[J)I" } : Jvm.MethodName) method_28_code (3 : Nat) (Option.some Jvm.ClassFile.FieldType.int) [((0 : Nat), (8 : Nat), (11 : Nat), (51 : Nat)), ((0 : Nat), (8 : Nat), (14 : Nat), (13 : Nat))]) ∈ TB := zTB 975 (by decide +kernel) (by decide +kernel)
theorem hz_L_account : (yL_account.cls ≠ "java/lang/invoke/MethodHandle" ∧ yL_account.cls ≠ "java/lang/invoke/VarHandle" ∧ (parseMethodDescriptor yL_account.desc).map (fun d => d.parameters.length) = some 3) := ⟨by decide +kernel, by decide +kernel, by decide +kernel⟩
theorem hy_L_account : yL_account.cls = RL ∧ (yL_account.cls ≠ "java/lang/invoke/MethodHandle" ∧ yL_account.cls ≠ "java/lang/invoke/VarHandle" ∧ (parseMethodDescriptor yL_account.desc).map (fun d => d.parameters.length) = some 3) := ⟨rfl, hz_L_account⟩
theorem hz_L_after : (yL_after.cls ≠ "java/lang/invoke/MethodHandle" ∧ yL_after.cls ≠ "java/lang/invoke/VarHandle" ∧ (parseMethodDescriptor yL_after.desc).map (fun d => d.parameters.length) = some 5) := ⟨by decide +kernel, by decide +kernel, by decide +kernel⟩
theorem hy_L_after : yL_after.cls = RL ∧ (yL_after.cls ≠ "java/lang/invoke/MethodHandle" ∧ yL_after.cls ≠ "java/lang/invoke/VarHandle" ∧ (parseMethodDescriptor yL_after.desc).map (fun d => d.parameters.length) = some 5) := ⟨rfl, hz_L_after⟩
theorem hz_L_append : (yL_append.cls ≠ "java/lang/invoke/MethodHandle" ∧ yL_append.cls ≠ "java/lang/invoke/VarHandle" ∧ (parseMethodDescriptor yL_append.desc).map (fun d => d.parameters.length) = some 3) := ⟨by decide +kernel, by decide +kernel, by decide +kernel⟩
theorem hy_L_append : yL_append.cls = RL ∧ (yL_append.cls ≠ "java/lang/invoke/MethodHandle" ∧ yL_append.cls ≠ "java/lang/invoke/VarHandle" ∧ (parseMethodDescriptor yL_append.desc).map (fun d => d.parameters.length) = some 3) := ⟨rfl, hz_L_append⟩
theorem hz_L_back : (yL_back.cls ≠ "java/lang/invoke/MethodHandle" ∧ yL_back.cls ≠ "java/lang/invoke/VarHandle" ∧ (parseMethodDescriptor yL_back.desc).map (fun d => d.parameters.length) = some 2) := ⟨by decide +kernel, by decide +kernel, by decide +kernel⟩
theorem hy_L_back : yL_back.cls = RL ∧ (yL_back.cls ≠ "java/lang/invoke/MethodHandle" ∧ yL_back.cls ≠ "java/lang/invoke/VarHandle" ∧ (parseMethodDescriptor yL_back.desc).map (fun d => d.parameters.length) = some 2) := ⟨rfl, hz_L_back⟩
theorem hz_L_begin : (yL_begin.cls ≠ "java/lang/invoke/MethodHandle" ∧ yL_begin.cls ≠ "java/lang/invoke/VarHandle" ∧ (parseMethodDescriptor yL_begin.desc).map (fun d => d.parameters.length) = some 3) := ⟨by decide +kernel, by decide +kernel, by decide +kernel⟩
theorem hy_L_begin : yL_begin.cls = RL ∧ (yL_begin.cls ≠ "java/lang/invoke/MethodHandle" ∧ yL_begin.cls ≠ "java/lang/invoke/VarHandle" ∧ (parseMethodDescriptor yL_begin.desc).map (fun d => d.parameters.length) = some 3) := ⟨rfl, hz_L_begin⟩
theorem hz_L_best : (yL_best.cls ≠ "java/lang/invoke/MethodHandle" ∧ yL_best.cls ≠ "java/lang/invoke/VarHandle" ∧ (parseMethodDescriptor yL_best.desc).map (fun d => d.parameters.length) = some 3) := ⟨by decide +kernel, by decide +kernel, by decide +kernel⟩
theorem hy_L_best : yL_best.cls = RL ∧ (yL_best.cls ≠ "java/lang/invoke/MethodHandle" ∧ yL_best.cls ≠ "java/lang/invoke/VarHandle" ∧ (parseMethodDescriptor yL_best.desc).map (fun d => d.parameters.length) = some 3) := ⟨rfl, hz_L_best⟩
theorem hz_L_bestBurrow : (yL_bestBurrow.cls ≠ "java/lang/invoke/MethodHandle" ∧ yL_bestBurrow.cls ≠ "java/lang/invoke/VarHandle" ∧ (parseMethodDescriptor yL_bestBurrow.desc).map (fun d => d.parameters.length) = some 3) := ⟨by decide +kernel, by decide +kernel, by decide +kernel⟩
theorem hy_L_bestBurrow : yL_bestBurrow.cls = RL ∧ (yL_bestBurrow.cls ≠ "java/lang/invoke/MethodHandle" ∧ yL_bestBurrow.cls ≠ "java/lang/invoke/VarHandle" ∧ (parseMethodDescriptor yL_bestBurrow.desc).map (fun d => d.parameters.length) = some 3) := ⟨rfl, hz_L_bestBurrow⟩
theorem hz_L_burrowOf : (yL_burrowOf.cls ≠ "java/lang/invoke/MethodHandle" ∧ yL_burrowOf.cls ≠ "java/lang/invoke/VarHandle" ∧ (parseMethodDescriptor yL_burrowOf.desc).map (fun d => d.parameters.length) = some 4) := ⟨by decide +kernel, by decide +kernel, by decide +kernel⟩
theorem hy_L_burrowOf : yL_burrowOf.cls = RL ∧ (yL_burrowOf.cls ≠ "java/lang/invoke/MethodHandle" ∧ yL_burrowOf.cls ≠ "java/lang/invoke/VarHandle" ∧ (parseMethodDescriptor yL_burrowOf.desc).map (fun d => d.parameters.length) = some 4) := ⟨rfl, hz_L_burrowOf⟩
theorem hz_L_character : (yL_character.cls ≠ "java/lang/invoke/MethodHandle" ∧ yL_character.cls ≠ "java/lang/invoke/VarHandle" ∧ (parseMethodDescriptor yL_character.desc).map (fun d => d.parameters.length) = some 3) := ⟨by decide +kernel, by decide +kernel, by decide +kernel⟩
theorem hy_L_character : yL_character.cls = RL ∧ (yL_character.cls ≠ "java/lang/invoke/MethodHandle" ∧ yL_character.cls ≠ "java/lang/invoke/VarHandle" ∧ (parseMethodDescriptor yL_character.desc).map (fun d => d.parameters.length) = some 3) := ⟨rfl, hz_L_character⟩
theorem hz_L_commands : (yL_commands.cls ≠ "java/lang/invoke/MethodHandle" ∧ yL_commands.cls ≠ "java/lang/invoke/VarHandle" ∧ (parseMethodDescriptor yL_commands.desc).map (fun d => d.parameters.length) = some 2) := ⟨by decide +kernel, by decide +kernel, by decide +kernel⟩
theorem hy_L_commands : yL_commands.cls = RL ∧ (yL_commands.cls ≠ "java/lang/invoke/MethodHandle" ∧ yL_commands.cls ≠ "java/lang/invoke/VarHandle" ∧ (parseMethodDescriptor yL_commands.desc).map (fun d => d.parameters.length) = some 2) := ⟨rfl, hz_L_commands⟩
theorem hz_L_count : (yL_count.cls ≠ "java/lang/invoke/MethodHandle" ∧ yL_count.cls ≠ "java/lang/invoke/VarHandle" ∧ (parseMethodDescriptor yL_count.desc).map (fun d => d.parameters.length) = some 4) := ⟨by decide +kernel, by decide +kernel, by decide +kernel⟩
theorem hy_L_count : yL_count.cls = RL ∧ (yL_count.cls ≠ "java/lang/invoke/MethodHandle" ∧ yL_count.cls ≠ "java/lang/invoke/VarHandle" ∧ (parseMethodDescriptor yL_count.desc).map (fun d => d.parameters.length) = some 4) := ⟨rfl, hz_L_count⟩
theorem hz_L_dig : (yL_dig.cls ≠ "java/lang/invoke/MethodHandle" ∧ yL_dig.cls ≠ "java/lang/invoke/VarHandle" ∧ (parseMethodDescriptor yL_dig.desc).map (fun d => d.parameters.length) = some 2) := ⟨by decide +kernel, by decide +kernel, by decide +kernel⟩
theorem hy_L_dig : yL_dig.cls = RL ∧ (yL_dig.cls ≠ "java/lang/invoke/MethodHandle" ∧ yL_dig.cls ≠ "java/lang/invoke/VarHandle" ∧ (parseMethodDescriptor yL_dig.desc).map (fun d => d.parameters.length) = some 2) := ⟨rfl, hz_L_dig⟩
theorem hz_L_drawn : (yL_drawn.cls ≠ "java/lang/invoke/MethodHandle" ∧ yL_drawn.cls ≠ "java/lang/invoke/VarHandle" ∧ (parseMethodDescriptor yL_drawn.desc).map (fun d => d.parameters.length) = some 2) := ⟨by decide +kernel, by decide +kernel, by decide +kernel⟩
theorem hy_L_drawn : yL_drawn.cls = RL ∧ (yL_drawn.cls ≠ "java/lang/invoke/MethodHandle" ∧ yL_drawn.cls ≠ "java/lang/invoke/VarHandle" ∧ (parseMethodDescriptor yL_drawn.desc).map (fun d => d.parameters.length) = some 2) := ⟨rfl, hz_L_drawn⟩
theorem hz_L_ends : (yL_ends.cls ≠ "java/lang/invoke/MethodHandle" ∧ yL_ends.cls ≠ "java/lang/invoke/VarHandle" ∧ (parseMethodDescriptor yL_ends.desc).map (fun d => d.parameters.length) = some 3) := ⟨by decide +kernel, by decide +kernel, by decide +kernel⟩
theorem hy_L_ends : yL_ends.cls = RL ∧ (yL_ends.cls ≠ "java/lang/invoke/MethodHandle" ∧ yL_ends.cls ≠ "java/lang/invoke/VarHandle" ∧ (parseMethodDescriptor yL_ends.desc).map (fun d => d.parameters.length) = some 3) := ⟨rfl, hz_L_ends⟩
theorem hz_L_flock : (yL_flock.cls ≠ "java/lang/invoke/MethodHandle" ∧ yL_flock.cls ≠ "java/lang/invoke/VarHandle" ∧ (parseMethodDescriptor yL_flock.desc).map (fun d => d.parameters.length) = some 3) := ⟨by decide +kernel, by decide +kernel, by decide +kernel⟩
theorem hy_L_flock : yL_flock.cls = RL ∧ (yL_flock.cls ≠ "java/lang/invoke/MethodHandle" ∧ yL_flock.cls ≠ "java/lang/invoke/VarHandle" ∧ (parseMethodDescriptor yL_flock.desc).map (fun d => d.parameters.length) = some 3) := ⟨rfl, hz_L_flock⟩
theorem hz_L_grow : (yL_grow.cls ≠ "java/lang/invoke/MethodHandle" ∧ yL_grow.cls ≠ "java/lang/invoke/VarHandle" ∧ (parseMethodDescriptor yL_grow.desc).map (fun d => d.parameters.length) = some 4) := ⟨by decide +kernel, by decide +kernel, by decide +kernel⟩
theorem hy_L_grow : yL_grow.cls = RL ∧ (yL_grow.cls ≠ "java/lang/invoke/MethodHandle" ∧ yL_grow.cls ≠ "java/lang/invoke/VarHandle" ∧ (parseMethodDescriptor yL_grow.desc).map (fun d => d.parameters.length) = some 4) := ⟨rfl, hz_L_grow⟩
theorem hz_L_longest : (yL_longest.cls ≠ "java/lang/invoke/MethodHandle" ∧ yL_longest.cls ≠ "java/lang/invoke/VarHandle" ∧ (parseMethodDescriptor yL_longest.desc).map (fun d => d.parameters.length) = some 3) := ⟨by decide +kernel, by decide +kernel, by decide +kernel⟩
theorem hy_L_longest : yL_longest.cls = RL ∧ (yL_longest.cls ≠ "java/lang/invoke/MethodHandle" ∧ yL_longest.cls ≠ "java/lang/invoke/VarHandle" ∧ (parseMethodDescriptor yL_longest.desc).map (fun d => d.parameters.length) = some 3) := ⟨rfl, hz_L_longest⟩
theorem hz_L_meanMoves : (yL_meanMoves.cls ≠ "java/lang/invoke/MethodHandle" ∧ yL_meanMoves.cls ≠ "java/lang/invoke/VarHandle" ∧ (parseMethodDescriptor yL_meanMoves.desc).map (fun d => d.parameters.length) = some 2) := ⟨by decide +kernel, by decide +kernel, by decide +kernel⟩
theorem hy_L_meanMoves : yL_meanMoves.cls = RL ∧ (yL_meanMoves.cls ≠ "java/lang/invoke/MethodHandle" ∧ yL_meanMoves.cls ≠ "java/lang/invoke/VarHandle" ∧ (parseMethodDescriptor yL_meanMoves.desc).map (fun d => d.parameters.length) = some 2) := ⟨rfl, hz_L_meanMoves⟩
theorem hz_L_move : (yL_move.cls ≠ "java/lang/invoke/MethodHandle" ∧ yL_move.cls ≠ "java/lang/invoke/VarHandle" ∧ (parseMethodDescriptor yL_move.desc).map (fun d => d.parameters.length) = some 4) := ⟨by decide +kernel, by decide +kernel, by decide +kernel⟩
theorem hy_L_move : yL_move.cls = RL ∧ (yL_move.cls ≠ "java/lang/invoke/MethodHandle" ∧ yL_move.cls ≠ "java/lang/invoke/VarHandle" ∧ (parseMethodDescriptor yL_move.desc).map (fun d => d.parameters.length) = some 4) := ⟨rfl, hz_L_move⟩
theorem hz_L_moveOf : (yL_moveOf.cls ≠ "java/lang/invoke/MethodHandle" ∧ yL_moveOf.cls ≠ "java/lang/invoke/VarHandle" ∧ (parseMethodDescriptor yL_moveOf.desc).map (fun d => d.parameters.length) = some 5) := ⟨by decide +kernel, by decide +kernel, by decide +kernel⟩
theorem hy_L_moveOf : yL_moveOf.cls = RL ∧ (yL_moveOf.cls ≠ "java/lang/invoke/MethodHandle" ∧ yL_moveOf.cls ≠ "java/lang/invoke/VarHandle" ∧ (parseMethodDescriptor yL_moveOf.desc).map (fun d => d.parameters.length) = some 5) := ⟨rfl, hz_L_moveOf⟩
theorem hz_L_now : (yL_now.cls ≠ "java/lang/invoke/MethodHandle" ∧ yL_now.cls ≠ "java/lang/invoke/VarHandle" ∧ (parseMethodDescriptor yL_now.desc).map (fun d => d.parameters.length) = some 2) := ⟨by decide +kernel, by decide +kernel, by decide +kernel⟩
theorem hy_L_now : yL_now.cls = RL ∧ (yL_now.cls ≠ "java/lang/invoke/MethodHandle" ∧ yL_now.cls ≠ "java/lang/invoke/VarHandle" ∧ (parseMethodDescriptor yL_now.desc).map (fun d => d.parameters.length) = some 2) := ⟨rfl, hz_L_now⟩
theorem hz_L_outcomeAgain : (yL_outcomeAgain.cls ≠ "java/lang/invoke/MethodHandle" ∧ yL_outcomeAgain.cls ≠ "java/lang/invoke/VarHandle" ∧ (parseMethodDescriptor yL_outcomeAgain.desc).map (fun d => d.parameters.length) = some 3) := ⟨by decide +kernel, by decide +kernel, by decide +kernel⟩
theorem hy_L_outcomeAgain : yL_outcomeAgain.cls = RL ∧ (yL_outcomeAgain.cls ≠ "java/lang/invoke/MethodHandle" ∧ yL_outcomeAgain.cls ≠ "java/lang/invoke/VarHandle" ∧ (parseMethodDescriptor yL_outcomeAgain.desc).map (fun d => d.parameters.length) = some 3) := ⟨rfl, hz_L_outcomeAgain⟩
theorem hz_L_pathOf : (yL_pathOf.cls ≠ "java/lang/invoke/MethodHandle" ∧ yL_pathOf.cls ≠ "java/lang/invoke/VarHandle" ∧ (parseMethodDescriptor yL_pathOf.desc).map (fun d => d.parameters.length) = some 4) := ⟨by decide +kernel, by decide +kernel, by decide +kernel⟩
theorem hy_L_pathOf : yL_pathOf.cls = RL ∧ (yL_pathOf.cls ≠ "java/lang/invoke/MethodHandle" ∧ yL_pathOf.cls ≠ "java/lang/invoke/VarHandle" ∧ (parseMethodDescriptor yL_pathOf.desc).map (fun d => d.parameters.length) = some 4) := ⟨rfl, hz_L_pathOf⟩
theorem hz_L_play : (yL_play.cls ≠ "java/lang/invoke/MethodHandle" ∧ yL_play.cls ≠ "java/lang/invoke/VarHandle" ∧ (parseMethodDescriptor yL_play.desc).map (fun d => d.parameters.length) = some 3) := ⟨by decide +kernel, by decide +kernel, by decide +kernel⟩
theorem hy_L_play : yL_play.cls = RL ∧ (yL_play.cls ≠ "java/lang/invoke/MethodHandle" ∧ yL_play.cls ≠ "java/lang/invoke/VarHandle" ∧ (parseMethodDescriptor yL_play.desc).map (fun d => d.parameters.length) = some 3) := ⟨rfl, hz_L_play⟩
theorem hz_L_position : (yL_position.cls ≠ "java/lang/invoke/MethodHandle" ∧ yL_position.cls ≠ "java/lang/invoke/VarHandle" ∧ (parseMethodDescriptor yL_position.desc).map (fun d => d.parameters.length) = some 6) := ⟨by decide +kernel, by decide +kernel, by decide +kernel⟩
theorem hy_L_position : yL_position.cls = RL ∧ (yL_position.cls ≠ "java/lang/invoke/MethodHandle" ∧ yL_position.cls ≠ "java/lang/invoke/VarHandle" ∧ (parseMethodDescriptor yL_position.desc).map (fun d => d.parameters.length) = some 6) := ⟨rfl, hz_L_position⟩
theorem hz_L_positionOf : (yL_positionOf.cls ≠ "java/lang/invoke/MethodHandle" ∧ yL_positionOf.cls ≠ "java/lang/invoke/VarHandle" ∧ (parseMethodDescriptor yL_positionOf.desc).map (fun d => d.parameters.length) = some 4) := ⟨by decide +kernel, by decide +kernel, by decide +kernel⟩
theorem hy_L_positionOf : yL_positionOf.cls = RL ∧ (yL_positionOf.cls ≠ "java/lang/invoke/MethodHandle" ∧ yL_positionOf.cls ≠ "java/lang/invoke/VarHandle" ∧ (parseMethodDescriptor yL_positionOf.desc).map (fun d => d.parameters.length) = some 4) := ⟨rfl, hz_L_positionOf⟩
theorem hz_L_reason : (yL_reason.cls ≠ "java/lang/invoke/MethodHandle" ∧ yL_reason.cls ≠ "java/lang/invoke/VarHandle" ∧ (parseMethodDescriptor yL_reason.desc).map (fun d => d.parameters.length) = some 3) := ⟨by decide +kernel, by decide +kernel, by decide +kernel⟩
theorem hy_L_reason : yL_reason.cls = RL ∧ (yL_reason.cls ≠ "java/lang/invoke/MethodHandle" ∧ yL_reason.cls ≠ "java/lang/invoke/VarHandle" ∧ (parseMethodDescriptor yL_reason.desc).map (fun d => d.parameters.length) = some 3) := ⟨rfl, hz_L_reason⟩
theorem hz_L_restore : (yL_restore.cls ≠ "java/lang/invoke/MethodHandle" ∧ yL_restore.cls ≠ "java/lang/invoke/VarHandle" ∧ (parseMethodDescriptor yL_restore.desc).map (fun d => d.parameters.length) = some 2) := ⟨by decide +kernel, by decide +kernel, by decide +kernel⟩
theorem hy_L_restore : yL_restore.cls = RL ∧ (yL_restore.cls ≠ "java/lang/invoke/MethodHandle" ∧ yL_restore.cls ≠ "java/lang/invoke/VarHandle" ∧ (parseMethodDescriptor yL_restore.desc).map (fun d => d.parameters.length) = some 2) := ⟨rfl, hz_L_restore⟩
theorem hz_L_trap : (yL_trap.cls ≠ "java/lang/invoke/MethodHandle" ∧ yL_trap.cls ≠ "java/lang/invoke/VarHandle" ∧ (parseMethodDescriptor yL_trap.desc).map (fun d => d.parameters.length) = some 4) := ⟨by decide +kernel, by decide +kernel, by decide +kernel⟩
theorem hy_L_trap : yL_trap.cls = RL ∧ (yL_trap.cls ≠ "java/lang/invoke/MethodHandle" ∧ yL_trap.cls ≠ "java/lang/invoke/VarHandle" ∧ (parseMethodDescriptor yL_trap.desc).map (fun d => d.parameters.length) = some 4) := ⟨rfl, hz_L_trap⟩
theorem hz_L_tread : (yL_tread.cls ≠ "java/lang/invoke/MethodHandle" ∧ yL_tread.cls ≠ "java/lang/invoke/VarHandle" ∧ (parseMethodDescriptor yL_tread.desc).map (fun d => d.parameters.length) = some 4) := ⟨by decide +kernel, by decide +kernel, by decide +kernel⟩
theorem hy_L_tread : yL_tread.cls = RL ∧ (yL_tread.cls ≠ "java/lang/invoke/MethodHandle" ∧ yL_tread.cls ≠ "java/lang/invoke/VarHandle" ∧ (parseMethodDescriptor yL_tread.desc).map (fun d => d.parameters.length) = some 4) := ⟨rfl, hz_L_tread⟩
theorem hz_L_undo : (yL_undo.cls ≠ "java/lang/invoke/MethodHandle" ∧ yL_undo.cls ≠ "java/lang/invoke/VarHandle" ∧ (parseMethodDescriptor yL_undo.desc).map (fun d => d.parameters.length) = some 2) := ⟨by decide +kernel, by decide +kernel, by decide +kernel⟩
theorem hy_L_undo : yL_undo.cls = RL ∧ (yL_undo.cls ≠ "java/lang/invoke/MethodHandle" ∧ yL_undo.cls ≠ "java/lang/invoke/VarHandle" ∧ (parseMethodDescriptor yL_undo.desc).map (fun d => d.parameters.length) = some 2) := ⟨rfl, hz_L_undo⟩
theorem hz_L_wonIn : (yL_wonIn.cls ≠ "java/lang/invoke/MethodHandle" ∧ yL_wonIn.cls ≠ "java/lang/invoke/VarHandle" ∧ (parseMethodDescriptor yL_wonIn.desc).map (fun d => d.parameters.length) = some 3) := ⟨by decide +kernel, by decide +kernel, by decide +kernel⟩
theorem hy_L_wonIn : yL_wonIn.cls = RL ∧ (yL_wonIn.cls ≠ "java/lang/invoke/MethodHandle" ∧ yL_wonIn.cls ≠ "java/lang/invoke/VarHandle" ∧ (parseMethodDescriptor yL_wonIn.desc).map (fun d => d.parameters.length) = some 3) := ⟨rfl, hz_L_wonIn⟩
theorem hz_L_wouldChange : (yL_wouldChange.cls ≠ "java/lang/invoke/MethodHandle" ∧ yL_wouldChange.cls ≠ "java/lang/invoke/VarHandle" ∧ (parseMethodDescriptor yL_wouldChange.desc).map (fun d => d.parameters.length) = some 4) := ⟨by decide +kernel, by decide +kernel, by decide +kernel⟩
theorem hy_L_wouldChange : yL_wouldChange.cls = RL ∧ (yL_wouldChange.cls ≠ "java/lang/invoke/MethodHandle" ∧ yL_wouldChange.cls ≠ "java/lang/invoke/VarHandle" ∧ (parseMethodDescriptor yL_wouldChange.desc).map (fun d => d.parameters.length) = some 4) := ⟨rfl, hz_L_wouldChange⟩
theorem hz_X10_account : (yX10_account.cls ≠ "java/lang/invoke/MethodHandle" ∧ yX10_account.cls ≠ "java/lang/invoke/VarHandle" ∧ (parseMethodDescriptor yX10_account.desc).map (fun d => d.parameters.length) = some 1) := ⟨by decide +kernel, by decide +kernel, by decide +kernel⟩
theorem hy_X10_account : yX10_account.cls = RX10 ∧ (yX10_account.cls ≠ "java/lang/invoke/MethodHandle" ∧ yX10_account.cls ≠ "java/lang/invoke/VarHandle" ∧ (parseMethodDescriptor yX10_account.desc).map (fun d => d.parameters.length) = some 1) := ⟨rfl, hz_X10_account⟩
theorem hz_X10_after : (yX10_after.cls ≠ "java/lang/invoke/MethodHandle" ∧ yX10_after.cls ≠ "java/lang/invoke/VarHandle" ∧ (parseMethodDescriptor yX10_after.desc).map (fun d => d.parameters.length) = some 3) := ⟨by decide +kernel, by decide +kernel, by decide +kernel⟩
theorem hy_X10_after : yX10_after.cls = RX10 ∧ (yX10_after.cls ≠ "java/lang/invoke/MethodHandle" ∧ yX10_after.cls ≠ "java/lang/invoke/VarHandle" ∧ (parseMethodDescriptor yX10_after.desc).map (fun d => d.parameters.length) = some 3) := ⟨rfl, hz_X10_after⟩
theorem hz_X10_append : (yX10_append.cls ≠ "java/lang/invoke/MethodHandle" ∧ yX10_append.cls ≠ "java/lang/invoke/VarHandle" ∧ (parseMethodDescriptor yX10_append.desc).map (fun d => d.parameters.length) = some 1) := ⟨by decide +kernel, by decide +kernel, by decide +kernel⟩
theorem hy_X10_append : yX10_append.cls = RX10 ∧ (yX10_append.cls ≠ "java/lang/invoke/MethodHandle" ∧ yX10_append.cls ≠ "java/lang/invoke/VarHandle" ∧ (parseMethodDescriptor yX10_append.desc).map (fun d => d.parameters.length) = some 1) := ⟨rfl, hz_X10_append⟩
theorem hz_X10_back : (yX10_back.cls ≠ "java/lang/invoke/MethodHandle" ∧ yX10_back.cls ≠ "java/lang/invoke/VarHandle" ∧ (parseMethodDescriptor yX10_back.desc).map (fun d => d.parameters.length) = some 0) := ⟨by decide +kernel, by decide +kernel, by decide +kernel⟩
theorem hy_X10_back : yX10_back.cls = RX10 ∧ (yX10_back.cls ≠ "java/lang/invoke/MethodHandle" ∧ yX10_back.cls ≠ "java/lang/invoke/VarHandle" ∧ (parseMethodDescriptor yX10_back.desc).map (fun d => d.parameters.length) = some 0) := ⟨rfl, hz_X10_back⟩
theorem hz_X10_begin : (yX10_begin.cls ≠ "java/lang/invoke/MethodHandle" ∧ yX10_begin.cls ≠ "java/lang/invoke/VarHandle" ∧ (parseMethodDescriptor yX10_begin.desc).map (fun d => d.parameters.length) = some 1) := ⟨by decide +kernel, by decide +kernel, by decide +kernel⟩
theorem hy_X10_begin : yX10_begin.cls = RX10 ∧ (yX10_begin.cls ≠ "java/lang/invoke/MethodHandle" ∧ yX10_begin.cls ≠ "java/lang/invoke/VarHandle" ∧ (parseMethodDescriptor yX10_begin.desc).map (fun d => d.parameters.length) = some 1) := ⟨rfl, hz_X10_begin⟩
theorem hz_X10_best : (yX10_best.cls ≠ "java/lang/invoke/MethodHandle" ∧ yX10_best.cls ≠ "java/lang/invoke/VarHandle" ∧ (parseMethodDescriptor yX10_best.desc).map (fun d => d.parameters.length) = some 1) := ⟨by decide +kernel, by decide +kernel, by decide +kernel⟩
theorem hy_X10_best : yX10_best.cls = RX10 ∧ (yX10_best.cls ≠ "java/lang/invoke/MethodHandle" ∧ yX10_best.cls ≠ "java/lang/invoke/VarHandle" ∧ (parseMethodDescriptor yX10_best.desc).map (fun d => d.parameters.length) = some 1) := ⟨rfl, hz_X10_best⟩
theorem hz_X10_bestBurrow : (yX10_bestBurrow.cls ≠ "java/lang/invoke/MethodHandle" ∧ yX10_bestBurrow.cls ≠ "java/lang/invoke/VarHandle" ∧ (parseMethodDescriptor yX10_bestBurrow.desc).map (fun d => d.parameters.length) = some 1) := ⟨by decide +kernel, by decide +kernel, by decide +kernel⟩
theorem hy_X10_bestBurrow : yX10_bestBurrow.cls = RX10 ∧ (yX10_bestBurrow.cls ≠ "java/lang/invoke/MethodHandle" ∧ yX10_bestBurrow.cls ≠ "java/lang/invoke/VarHandle" ∧ (parseMethodDescriptor yX10_bestBurrow.desc).map (fun d => d.parameters.length) = some 1) := ⟨rfl, hz_X10_bestBurrow⟩
theorem hz_X10_burrowOf : (yX10_burrowOf.cls ≠ "java/lang/invoke/MethodHandle" ∧ yX10_burrowOf.cls ≠ "java/lang/invoke/VarHandle" ∧ (parseMethodDescriptor yX10_burrowOf.desc).map (fun d => d.parameters.length) = some 2) := ⟨by decide +kernel, by decide +kernel, by decide +kernel⟩
theorem hy_X10_burrowOf : yX10_burrowOf.cls = RX10 ∧ (yX10_burrowOf.cls ≠ "java/lang/invoke/MethodHandle" ∧ yX10_burrowOf.cls ≠ "java/lang/invoke/VarHandle" ∧ (parseMethodDescriptor yX10_burrowOf.desc).map (fun d => d.parameters.length) = some 2) := ⟨rfl, hz_X10_burrowOf⟩
theorem hz_X10_character : (yX10_character.cls ≠ "java/lang/invoke/MethodHandle" ∧ yX10_character.cls ≠ "java/lang/invoke/VarHandle" ∧ (parseMethodDescriptor yX10_character.desc).map (fun d => d.parameters.length) = some 1) := ⟨by decide +kernel, by decide +kernel, by decide +kernel⟩
theorem hy_X10_character : yX10_character.cls = RX10 ∧ (yX10_character.cls ≠ "java/lang/invoke/MethodHandle" ∧ yX10_character.cls ≠ "java/lang/invoke/VarHandle" ∧ (parseMethodDescriptor yX10_character.desc).map (fun d => d.parameters.length) = some 1) := ⟨rfl, hz_X10_character⟩
theorem hz_X10_commands : (yX10_commands.cls ≠ "java/lang/invoke/MethodHandle" ∧ yX10_commands.cls ≠ "java/lang/invoke/VarHandle" ∧ (parseMethodDescriptor yX10_commands.desc).map (fun d => d.parameters.length) = some 0) := ⟨by decide +kernel, by decide +kernel, by decide +kernel⟩
theorem hy_X10_commands : yX10_commands.cls = RX10 ∧ (yX10_commands.cls ≠ "java/lang/invoke/MethodHandle" ∧ yX10_commands.cls ≠ "java/lang/invoke/VarHandle" ∧ (parseMethodDescriptor yX10_commands.desc).map (fun d => d.parameters.length) = some 0) := ⟨rfl, hz_X10_commands⟩
theorem hz_X10_count : (yX10_count.cls ≠ "java/lang/invoke/MethodHandle" ∧ yX10_count.cls ≠ "java/lang/invoke/VarHandle" ∧ (parseMethodDescriptor yX10_count.desc).map (fun d => d.parameters.length) = some 2) := ⟨by decide +kernel, by decide +kernel, by decide +kernel⟩
theorem hy_X10_count : yX10_count.cls = RX10 ∧ (yX10_count.cls ≠ "java/lang/invoke/MethodHandle" ∧ yX10_count.cls ≠ "java/lang/invoke/VarHandle" ∧ (parseMethodDescriptor yX10_count.desc).map (fun d => d.parameters.length) = some 2) := ⟨rfl, hz_X10_count⟩
theorem hz_X10_dig : (yX10_dig.cls ≠ "java/lang/invoke/MethodHandle" ∧ yX10_dig.cls ≠ "java/lang/invoke/VarHandle" ∧ (parseMethodDescriptor yX10_dig.desc).map (fun d => d.parameters.length) = some 0) := ⟨by decide +kernel, by decide +kernel, by decide +kernel⟩
theorem hy_X10_dig : yX10_dig.cls = RX10 ∧ (yX10_dig.cls ≠ "java/lang/invoke/MethodHandle" ∧ yX10_dig.cls ≠ "java/lang/invoke/VarHandle" ∧ (parseMethodDescriptor yX10_dig.desc).map (fun d => d.parameters.length) = some 0) := ⟨rfl, hz_X10_dig⟩
theorem hz_X10_drawn : (yX10_drawn.cls ≠ "java/lang/invoke/MethodHandle" ∧ yX10_drawn.cls ≠ "java/lang/invoke/VarHandle" ∧ (parseMethodDescriptor yX10_drawn.desc).map (fun d => d.parameters.length) = some 0) := ⟨by decide +kernel, by decide +kernel, by decide +kernel⟩
theorem hy_X10_drawn : yX10_drawn.cls = RX10 ∧ (yX10_drawn.cls ≠ "java/lang/invoke/MethodHandle" ∧ yX10_drawn.cls ≠ "java/lang/invoke/VarHandle" ∧ (parseMethodDescriptor yX10_drawn.desc).map (fun d => d.parameters.length) = some 0) := ⟨rfl, hz_X10_drawn⟩
theorem hz_X10_ends : (yX10_ends.cls ≠ "java/lang/invoke/MethodHandle" ∧ yX10_ends.cls ≠ "java/lang/invoke/VarHandle" ∧ (parseMethodDescriptor yX10_ends.desc).map (fun d => d.parameters.length) = some 1) := ⟨by decide +kernel, by decide +kernel, by decide +kernel⟩
theorem hy_X10_ends : yX10_ends.cls = RX10 ∧ (yX10_ends.cls ≠ "java/lang/invoke/MethodHandle" ∧ yX10_ends.cls ≠ "java/lang/invoke/VarHandle" ∧ (parseMethodDescriptor yX10_ends.desc).map (fun d => d.parameters.length) = some 1) := ⟨rfl, hz_X10_ends⟩
theorem hz_X10_faultPosition : (yX10_faultPosition.cls ≠ "java/lang/invoke/MethodHandle" ∧ yX10_faultPosition.cls ≠ "java/lang/invoke/VarHandle" ∧ (parseMethodDescriptor yX10_faultPosition.desc).map (fun d => d.parameters.length) = some 0) := ⟨by decide +kernel, by decide +kernel, by decide +kernel⟩
theorem hy_X10_faultPosition : yX10_faultPosition.cls = RX10 ∧ (yX10_faultPosition.cls ≠ "java/lang/invoke/MethodHandle" ∧ yX10_faultPosition.cls ≠ "java/lang/invoke/VarHandle" ∧ (parseMethodDescriptor yX10_faultPosition.desc).map (fun d => d.parameters.length) = some 0) := ⟨rfl, hz_X10_faultPosition⟩
theorem hz_X10_flock : (yX10_flock.cls ≠ "java/lang/invoke/MethodHandle" ∧ yX10_flock.cls ≠ "java/lang/invoke/VarHandle" ∧ (parseMethodDescriptor yX10_flock.desc).map (fun d => d.parameters.length) = some 1) := ⟨by decide +kernel, by decide +kernel, by decide +kernel⟩
theorem hy_X10_flock : yX10_flock.cls = RX10 ∧ (yX10_flock.cls ≠ "java/lang/invoke/MethodHandle" ∧ yX10_flock.cls ≠ "java/lang/invoke/VarHandle" ∧ (parseMethodDescriptor yX10_flock.desc).map (fun d => d.parameters.length) = some 1) := ⟨rfl, hz_X10_flock⟩
theorem hz_X10_grow : (yX10_grow.cls ≠ "java/lang/invoke/MethodHandle" ∧ yX10_grow.cls ≠ "java/lang/invoke/VarHandle" ∧ (parseMethodDescriptor yX10_grow.desc).map (fun d => d.parameters.length) = some 2) := ⟨by decide +kernel, by decide +kernel, by decide +kernel⟩
theorem hy_X10_grow : yX10_grow.cls = RX10 ∧ (yX10_grow.cls ≠ "java/lang/invoke/MethodHandle" ∧ yX10_grow.cls ≠ "java/lang/invoke/VarHandle" ∧ (parseMethodDescriptor yX10_grow.desc).map (fun d => d.parameters.length) = some 2) := ⟨rfl, hz_X10_grow⟩
theorem hz_X10_line : (yX10_line.cls ≠ "java/lang/invoke/MethodHandle" ∧ yX10_line.cls ≠ "java/lang/invoke/VarHandle" ∧ (parseMethodDescriptor yX10_line.desc).map (fun d => d.parameters.length) = some 0) := ⟨by decide +kernel, by decide +kernel, by decide +kernel⟩
theorem hy_X10_line : yX10_line.cls = RX10 ∧ (yX10_line.cls ≠ "java/lang/invoke/MethodHandle" ∧ yX10_line.cls ≠ "java/lang/invoke/VarHandle" ∧ (parseMethodDescriptor yX10_line.desc).map (fun d => d.parameters.length) = some 0) := ⟨rfl, hz_X10_line⟩
theorem hz_X10_longest : (yX10_longest.cls ≠ "java/lang/invoke/MethodHandle" ∧ yX10_longest.cls ≠ "java/lang/invoke/VarHandle" ∧ (parseMethodDescriptor yX10_longest.desc).map (fun d => d.parameters.length) = some 1) := ⟨by decide +kernel, by decide +kernel, by decide +kernel⟩
theorem hy_X10_longest : yX10_longest.cls = RX10 ∧ (yX10_longest.cls ≠ "java/lang/invoke/MethodHandle" ∧ yX10_longest.cls ≠ "java/lang/invoke/VarHandle" ∧ (parseMethodDescriptor yX10_longest.desc).map (fun d => d.parameters.length) = some 1) := ⟨rfl, hz_X10_longest⟩
theorem hz_X10_meanMoves : (yX10_meanMoves.cls ≠ "java/lang/invoke/MethodHandle" ∧ yX10_meanMoves.cls ≠ "java/lang/invoke/VarHandle" ∧ (parseMethodDescriptor yX10_meanMoves.desc).map (fun d => d.parameters.length) = some 0) := ⟨by decide +kernel, by decide +kernel, by decide +kernel⟩
theorem hy_X10_meanMoves : yX10_meanMoves.cls = RX10 ∧ (yX10_meanMoves.cls ≠ "java/lang/invoke/MethodHandle" ∧ yX10_meanMoves.cls ≠ "java/lang/invoke/VarHandle" ∧ (parseMethodDescriptor yX10_meanMoves.desc).map (fun d => d.parameters.length) = some 0) := ⟨rfl, hz_X10_meanMoves⟩
theorem hz_X10_move : (yX10_move.cls ≠ "java/lang/invoke/MethodHandle" ∧ yX10_move.cls ≠ "java/lang/invoke/VarHandle" ∧ (parseMethodDescriptor yX10_move.desc).map (fun d => d.parameters.length) = some 2) := ⟨by decide +kernel, by decide +kernel, by decide +kernel⟩
theorem hy_X10_move : yX10_move.cls = RX10 ∧ (yX10_move.cls ≠ "java/lang/invoke/MethodHandle" ∧ yX10_move.cls ≠ "java/lang/invoke/VarHandle" ∧ (parseMethodDescriptor yX10_move.desc).map (fun d => d.parameters.length) = some 2) := ⟨rfl, hz_X10_move⟩
theorem hz_X10_moveOf : (yX10_moveOf.cls ≠ "java/lang/invoke/MethodHandle" ∧ yX10_moveOf.cls ≠ "java/lang/invoke/VarHandle" ∧ (parseMethodDescriptor yX10_moveOf.desc).map (fun d => d.parameters.length) = some 3) := ⟨by decide +kernel, by decide +kernel, by decide +kernel⟩
theorem hy_X10_moveOf : yX10_moveOf.cls = RX10 ∧ (yX10_moveOf.cls ≠ "java/lang/invoke/MethodHandle" ∧ yX10_moveOf.cls ≠ "java/lang/invoke/VarHandle" ∧ (parseMethodDescriptor yX10_moveOf.desc).map (fun d => d.parameters.length) = some 3) := ⟨rfl, hz_X10_moveOf⟩
theorem hz_X10_now : (yX10_now.cls ≠ "java/lang/invoke/MethodHandle" ∧ yX10_now.cls ≠ "java/lang/invoke/VarHandle" ∧ (parseMethodDescriptor yX10_now.desc).map (fun d => d.parameters.length) = some 0) := ⟨by decide +kernel, by decide +kernel, by decide +kernel⟩
theorem hy_X10_now : yX10_now.cls = RX10 ∧ (yX10_now.cls ≠ "java/lang/invoke/MethodHandle" ∧ yX10_now.cls ≠ "java/lang/invoke/VarHandle" ∧ (parseMethodDescriptor yX10_now.desc).map (fun d => d.parameters.length) = some 0) := ⟨rfl, hz_X10_now⟩
theorem hz_X10_outcomeAgain : (yX10_outcomeAgain.cls ≠ "java/lang/invoke/MethodHandle" ∧ yX10_outcomeAgain.cls ≠ "java/lang/invoke/VarHandle" ∧ (parseMethodDescriptor yX10_outcomeAgain.desc).map (fun d => d.parameters.length) = some 1) := ⟨by decide +kernel, by decide +kernel, by decide +kernel⟩
theorem hy_X10_outcomeAgain : yX10_outcomeAgain.cls = RX10 ∧ (yX10_outcomeAgain.cls ≠ "java/lang/invoke/MethodHandle" ∧ yX10_outcomeAgain.cls ≠ "java/lang/invoke/VarHandle" ∧ (parseMethodDescriptor yX10_outcomeAgain.desc).map (fun d => d.parameters.length) = some 1) := ⟨rfl, hz_X10_outcomeAgain⟩
theorem hz_X10_pathOf : (yX10_pathOf.cls ≠ "java/lang/invoke/MethodHandle" ∧ yX10_pathOf.cls ≠ "java/lang/invoke/VarHandle" ∧ (parseMethodDescriptor yX10_pathOf.desc).map (fun d => d.parameters.length) = some 2) := ⟨by decide +kernel, by decide +kernel, by decide +kernel⟩
theorem hy_X10_pathOf : yX10_pathOf.cls = RX10 ∧ (yX10_pathOf.cls ≠ "java/lang/invoke/MethodHandle" ∧ yX10_pathOf.cls ≠ "java/lang/invoke/VarHandle" ∧ (parseMethodDescriptor yX10_pathOf.desc).map (fun d => d.parameters.length) = some 2) := ⟨rfl, hz_X10_pathOf⟩
theorem hz_X10_play : (yX10_play.cls ≠ "java/lang/invoke/MethodHandle" ∧ yX10_play.cls ≠ "java/lang/invoke/VarHandle" ∧ (parseMethodDescriptor yX10_play.desc).map (fun d => d.parameters.length) = some 1) := ⟨by decide +kernel, by decide +kernel, by decide +kernel⟩
theorem hy_X10_play : yX10_play.cls = RX10 ∧ (yX10_play.cls ≠ "java/lang/invoke/MethodHandle" ∧ yX10_play.cls ≠ "java/lang/invoke/VarHandle" ∧ (parseMethodDescriptor yX10_play.desc).map (fun d => d.parameters.length) = some 1) := ⟨rfl, hz_X10_play⟩
theorem hz_X10_position : (yX10_position.cls ≠ "java/lang/invoke/MethodHandle" ∧ yX10_position.cls ≠ "java/lang/invoke/VarHandle" ∧ (parseMethodDescriptor yX10_position.desc).map (fun d => d.parameters.length) = some 4) := ⟨by decide +kernel, by decide +kernel, by decide +kernel⟩
theorem hy_X10_position : yX10_position.cls = RX10 ∧ (yX10_position.cls ≠ "java/lang/invoke/MethodHandle" ∧ yX10_position.cls ≠ "java/lang/invoke/VarHandle" ∧ (parseMethodDescriptor yX10_position.desc).map (fun d => d.parameters.length) = some 4) := ⟨rfl, hz_X10_position⟩
theorem hz_X10_positionOf : (yX10_positionOf.cls ≠ "java/lang/invoke/MethodHandle" ∧ yX10_positionOf.cls ≠ "java/lang/invoke/VarHandle" ∧ (parseMethodDescriptor yX10_positionOf.desc).map (fun d => d.parameters.length) = some 2) := ⟨by decide +kernel, by decide +kernel, by decide +kernel⟩
theorem hy_X10_positionOf : yX10_positionOf.cls = RX10 ∧ (yX10_positionOf.cls ≠ "java/lang/invoke/MethodHandle" ∧ yX10_positionOf.cls ≠ "java/lang/invoke/VarHandle" ∧ (parseMethodDescriptor yX10_positionOf.desc).map (fun d => d.parameters.length) = some 2) := ⟨rfl, hz_X10_positionOf⟩
theorem hz_X10_reason : (yX10_reason.cls ≠ "java/lang/invoke/MethodHandle" ∧ yX10_reason.cls ≠ "java/lang/invoke/VarHandle" ∧ (parseMethodDescriptor yX10_reason.desc).map (fun d => d.parameters.length) = some 1) := ⟨by decide +kernel, by decide +kernel, by decide +kernel⟩
theorem hy_X10_reason : yX10_reason.cls = RX10 ∧ (yX10_reason.cls ≠ "java/lang/invoke/MethodHandle" ∧ yX10_reason.cls ≠ "java/lang/invoke/VarHandle" ∧ (parseMethodDescriptor yX10_reason.desc).map (fun d => d.parameters.length) = some 1) := ⟨rfl, hz_X10_reason⟩
theorem hz_X10_restore : (yX10_restore.cls ≠ "java/lang/invoke/MethodHandle" ∧ yX10_restore.cls ≠ "java/lang/invoke/VarHandle" ∧ (parseMethodDescriptor yX10_restore.desc).map (fun d => d.parameters.length) = some 0) := ⟨by decide +kernel, by decide +kernel, by decide +kernel⟩
theorem hy_X10_restore : yX10_restore.cls = RX10 ∧ (yX10_restore.cls ≠ "java/lang/invoke/MethodHandle" ∧ yX10_restore.cls ≠ "java/lang/invoke/VarHandle" ∧ (parseMethodDescriptor yX10_restore.desc).map (fun d => d.parameters.length) = some 0) := ⟨rfl, hz_X10_restore⟩
theorem hz_X10_save : (yX10_save.cls ≠ "java/lang/invoke/MethodHandle" ∧ yX10_save.cls ≠ "java/lang/invoke/VarHandle" ∧ (parseMethodDescriptor yX10_save.desc).map (fun d => d.parameters.length) = some 0) := ⟨by decide +kernel, by decide +kernel, by decide +kernel⟩
theorem hy_X10_save : yX10_save.cls = RX10 ∧ (yX10_save.cls ≠ "java/lang/invoke/MethodHandle" ∧ yX10_save.cls ≠ "java/lang/invoke/VarHandle" ∧ (parseMethodDescriptor yX10_save.desc).map (fun d => d.parameters.length) = some 0) := ⟨rfl, hz_X10_save⟩
theorem hz_X10_thrown : (yX10_thrown.cls ≠ "java/lang/invoke/MethodHandle" ∧ yX10_thrown.cls ≠ "java/lang/invoke/VarHandle" ∧ (parseMethodDescriptor yX10_thrown.desc).map (fun d => d.parameters.length) = some 0) := ⟨by decide +kernel, by decide +kernel, by decide +kernel⟩
theorem hy_X10_thrown : yX10_thrown.cls = RX10 ∧ (yX10_thrown.cls ≠ "java/lang/invoke/MethodHandle" ∧ yX10_thrown.cls ≠ "java/lang/invoke/VarHandle" ∧ (parseMethodDescriptor yX10_thrown.desc).map (fun d => d.parameters.length) = some 0) := ⟨rfl, hz_X10_thrown⟩
theorem hz_X10_trap : (yX10_trap.cls ≠ "java/lang/invoke/MethodHandle" ∧ yX10_trap.cls ≠ "java/lang/invoke/VarHandle" ∧ (parseMethodDescriptor yX10_trap.desc).map (fun d => d.parameters.length) = some 2) := ⟨by decide +kernel, by decide +kernel, by decide +kernel⟩
theorem hy_X10_trap : yX10_trap.cls = RX10 ∧ (yX10_trap.cls ≠ "java/lang/invoke/MethodHandle" ∧ yX10_trap.cls ≠ "java/lang/invoke/VarHandle" ∧ (parseMethodDescriptor yX10_trap.desc).map (fun d => d.parameters.length) = some 2) := ⟨rfl, hz_X10_trap⟩
theorem hz_X10_tread : (yX10_tread.cls ≠ "java/lang/invoke/MethodHandle" ∧ yX10_tread.cls ≠ "java/lang/invoke/VarHandle" ∧ (parseMethodDescriptor yX10_tread.desc).map (fun d => d.parameters.length) = some 2) := ⟨by decide +kernel, by decide +kernel, by decide +kernel⟩
theorem hy_X10_tread : yX10_tread.cls = RX10 ∧ (yX10_tread.cls ≠ "java/lang/invoke/MethodHandle" ∧ yX10_tread.cls ≠ "java/lang/invoke/VarHandle" ∧ (parseMethodDescriptor yX10_tread.desc).map (fun d => d.parameters.length) = some 2) := ⟨rfl, hz_X10_tread⟩
theorem hz_X10_undo : (yX10_undo.cls ≠ "java/lang/invoke/MethodHandle" ∧ yX10_undo.cls ≠ "java/lang/invoke/VarHandle" ∧ (parseMethodDescriptor yX10_undo.desc).map (fun d => d.parameters.length) = some 0) := ⟨by decide +kernel, by decide +kernel, by decide +kernel⟩
theorem hy_X10_undo : yX10_undo.cls = RX10 ∧ (yX10_undo.cls ≠ "java/lang/invoke/MethodHandle" ∧ yX10_undo.cls ≠ "java/lang/invoke/VarHandle" ∧ (parseMethodDescriptor yX10_undo.desc).map (fun d => d.parameters.length) = some 0) := ⟨rfl, hz_X10_undo⟩
theorem hz_X10_wonIn : (yX10_wonIn.cls ≠ "java/lang/invoke/MethodHandle" ∧ yX10_wonIn.cls ≠ "java/lang/invoke/VarHandle" ∧ (parseMethodDescriptor yX10_wonIn.desc).map (fun d => d.parameters.length) = some 1) := ⟨by decide +kernel, by decide +kernel, by decide +kernel⟩
theorem hy_X10_wonIn : yX10_wonIn.cls = RX10 ∧ (yX10_wonIn.cls ≠ "java/lang/invoke/MethodHandle" ∧ yX10_wonIn.cls ≠ "java/lang/invoke/VarHandle" ∧ (parseMethodDescriptor yX10_wonIn.desc).map (fun d => d.parameters.length) = some 1) := ⟨rfl, hz_X10_wonIn⟩
theorem hz_X10_wouldChange : (yX10_wouldChange.cls ≠ "java/lang/invoke/MethodHandle" ∧ yX10_wouldChange.cls ≠ "java/lang/invoke/VarHandle" ∧ (parseMethodDescriptor yX10_wouldChange.desc).map (fun d => d.parameters.length) = some 2) := ⟨by decide +kernel, by decide +kernel, by decide +kernel⟩
theorem hy_X10_wouldChange : yX10_wouldChange.cls = RX10 ∧ (yX10_wouldChange.cls ≠ "java/lang/invoke/MethodHandle" ∧ yX10_wouldChange.cls ≠ "java/lang/invoke/VarHandle" ∧ (parseMethodDescriptor yX10_wouldChange.desc).map (fun d => d.parameters.length) = some 2) := ⟨rfl, hz_X10_wouldChange⟩
theorem hz_X9_faultPosition : (yX9_faultPosition.cls ≠ "java/lang/invoke/MethodHandle" ∧ yX9_faultPosition.cls ≠ "java/lang/invoke/VarHandle" ∧ (parseMethodDescriptor yX9_faultPosition.desc).map (fun d => d.parameters.length) = some 0) := ⟨by decide +kernel, by decide +kernel, by decide +kernel⟩
theorem hy_X9_faultPosition : yX9_faultPosition.cls = RX9 ∧ (yX9_faultPosition.cls ≠ "java/lang/invoke/MethodHandle" ∧ yX9_faultPosition.cls ≠ "java/lang/invoke/VarHandle" ∧ (parseMethodDescriptor yX9_faultPosition.desc).map (fun d => d.parameters.length) = some 0) := ⟨rfl, hz_X9_faultPosition⟩
theorem hz_X9_line : (yX9_line.cls ≠ "java/lang/invoke/MethodHandle" ∧ yX9_line.cls ≠ "java/lang/invoke/VarHandle" ∧ (parseMethodDescriptor yX9_line.desc).map (fun d => d.parameters.length) = some 0) := ⟨by decide +kernel, by decide +kernel, by decide +kernel⟩
theorem hy_X9_line : yX9_line.cls = RX9 ∧ (yX9_line.cls ≠ "java/lang/invoke/MethodHandle" ∧ yX9_line.cls ≠ "java/lang/invoke/VarHandle" ∧ (parseMethodDescriptor yX9_line.desc).map (fun d => d.parameters.length) = some 0) := ⟨rfl, hz_X9_line⟩
theorem hz_X9_save : (yX9_save.cls ≠ "java/lang/invoke/MethodHandle" ∧ yX9_save.cls ≠ "java/lang/invoke/VarHandle" ∧ (parseMethodDescriptor yX9_save.desc).map (fun d => d.parameters.length) = some 0) := ⟨by decide +kernel, by decide +kernel, by decide +kernel⟩
theorem hy_X9_save : yX9_save.cls = RX9 ∧ (yX9_save.cls ≠ "java/lang/invoke/MethodHandle" ∧ yX9_save.cls ≠ "java/lang/invoke/VarHandle" ∧ (parseMethodDescriptor yX9_save.desc).map (fun d => d.parameters.length) = some 0) := ⟨rfl, hz_X9_save⟩
def wb_law_2328 (xs : Nat → Int32) (L : Nat) (L28 : Int32 → MU → MU → (Nat → Int64) → (Nat → UInt64) → Prop) (x5 : Int32) (u v : MU) (o : Nat → Int64) (dd : Nat → UInt64) : Prop := ∀ x5_1, x5_1 = x5 + (5 : Int32) → L28 x5_1 u v o dd
set_option maxHeartbeats 4000000 in
set_option maxRecDepth 100000 in
theorem vb_law_2328 {p : Program} {l : Launch} {e : Env} {s : State} {m : MethodId} {args : Array Value} {below : List Frame} {meth : Method} {c : Code} {g : GE} {Qz : State → Prop} {b L : Nat} {xs : Nat → Int32} (C : zCx p l s m args meth c g RL cL_law 9) (hX : va_X b L xs s s.heap) (hbl : b < s.heap.size) (hbA : ¬ zA g b) {cz sz : Nat} (hcz : cz + 2 ≤ 603072) (hsz : sz + 12 ≤ 7207018) (hstk : l.stackTraces = false) {L28 : Int32 → MU → MU → (Nat → Int64) → (Nat → UInt64) → Prop} (hL28 : ∀ (x5 : Int32) (u v : MU) (o : Nat → Int64) (dd : Nat → UInt64), L28 x5 u v o dd → WM p l e room_1 s m args below meth c g 9 (cz + 2) (sz + 12) Qz 28 [(0, .ref b), (1, .ref (g.2.2.1 0)), (2, .ref (g.2.2.1 117)), (3, .ref (g.2.2.1 131)), (4, .ref (g.2.2.1 132)), (5, .int x5)] [] (u, v, o, dd)) (x5 : Int32) (u v : MU) (o : Nat → Int64) (dd : Nat → UInt64) (h : wb_law_2328 xs L L28 x5 u v o dd) : WM p l e room_1 s m args below meth c g 9 (cz + 2) (sz + 12) Qz 2328 [(0, .ref b), (1, .ref (g.2.2.1 0)), (2, .ref (g.2.2.1 117)), (3, .ref (g.2.2.1 131)), (4, .ref (g.2.2.1 132)), (5, .int x5)] [] (u, v, o, dd) := by
  unfold wb_law_2328 at h
  obtain ⟨x5_1, hx5_1⟩ : ∃ z, z = x5 + (5 : Int32) := ⟨_, rfl⟩
  have h := h x5_1 hx5_1
  refine zm_iinc (v := x5_1) (lv' := [(5, .int x5_1), (0, .ref b), (1, .ref (g.2.2.1 0)), (2, .ref (g.2.2.1 117)), (3, .ref (g.2.2.1 131)), (4, .ref (g.2.2.1 132))]) C dL_law_2328 5 rfl (by rw [hx5_1]; rfl) (by decide) rfl ?_
  refine zm_goto (tgt := 28) C dL_law_2331 (by decide) ?_
  exact (zm_sub [1, 2, 3, 4, 5, 0] rfl (hL28 _ _ _ _ _ h))
def wb_law_245 (xs : Nat → Int32) (L : Nat) (L28 : Int32 → MU → MU → (Nat → Int64) → (Nat → UInt64) → Prop) (x5 : Int32) (u v : MU) (o : Nat → Int64) (dd : Nat → UInt64) : Prop := wb_law_2328 xs L L28 x5 u v o dd
set_option maxHeartbeats 4000000 in
set_option maxRecDepth 100000 in
theorem vb_law_245 {p : Program} {l : Launch} {e : Env} {s : State} {m : MethodId} {args : Array Value} {below : List Frame} {meth : Method} {c : Code} {g : GE} {Qz : State → Prop} {b L : Nat} {xs : Nat → Int32} (C : zCx p l s m args meth c g RL cL_law 9) (hX : va_X b L xs s s.heap) (hbl : b < s.heap.size) (hbA : ¬ zA g b) {cz sz : Nat} (hcz : cz + 2 ≤ 603072) (hsz : sz + 12 ≤ 7207018) (hstk : l.stackTraces = false) {L28 : Int32 → MU → MU → (Nat → Int64) → (Nat → UInt64) → Prop} (hL28 : ∀ (x5 : Int32) (u v : MU) (o : Nat → Int64) (dd : Nat → UInt64), L28 x5 u v o dd → WM p l e room_1 s m args below meth c g 9 (cz + 2) (sz + 12) Qz 28 [(0, .ref b), (1, .ref (g.2.2.1 0)), (2, .ref (g.2.2.1 117)), (3, .ref (g.2.2.1 131)), (4, .ref (g.2.2.1 132)), (5, .int x5)] [] (u, v, o, dd)) (x5 : Int32) (u v : MU) (o : Nat → Int64) (dd : Nat → UInt64) (h : wb_law_245 xs L L28 x5 u v o dd) : WM p l e room_1 s m args below meth c g 9 (cz + 1) (sz + 6) Qz 245 [(0, .ref b), (1, .ref (g.2.2.1 0)), (2, .ref (g.2.2.1 117)), (3, .ref (g.2.2.1 131)), (4, .ref (g.2.2.1 132)), (5, .int x5)] [] (u, v, o, dd) := by
  unfold wb_law_245 at h
  refine zm_goto (tgt := 2328) C dL_law_245 (by decide) ?_
  exact zm_widen (by omega) (by omega) (zm_sub [0, 1, 2, 3, 4, 5] rfl (vb_law_2328 C hX hbl hbA hcz hsz hstk hL28 _ _ _ _ _ h))
def wb_law_204 (xs : Nat → Int32) (L : Nat) (L28 : Int32 → MU → MU → (Nat → Int64) → (Nat → UInt64) → Prop) (x5 : Int32) (u v : MU) (o : Nat → Int64) (dd : Nat → UInt64) : Prop := w_L_dig  u o (fun r_1 u_2 o_3 => w_X10_dig  v (fun r_4 u_5 => w_X10_thrown u_5  (fun r_6 => ((r_6 = r_1) → ((¬ r_1 = 0) → wb_law_245 xs L L28 x5 u_2 u_5 o_3 dd) ∧ ((r_1 = 0) → (((lg_cmp (o_3 ((0 : Int32)).toNatClampNeg) r_4.toInt64) = 0) → wb_law_245 xs L L28 x5 u_2 u_5 o_3 dd) ∧ ((¬ (lg_cmp (o_3 ((0 : Int32)).toNatClampNeg) r_4.toInt64) = 0) → False))) ∧ ((¬ r_6 = r_1) → False))))
set_option maxHeartbeats 4000000 in
set_option maxRecDepth 100000 in
theorem vb_law_204 {p : Program} {l : Launch} {e : Env} {s : State} {m : MethodId} {args : Array Value} {below : List Frame} {meth : Method} {c : Code} {g : GE} {Qz : State → Prop} {b L : Nat} {xs : Nat → Int32} (C : zCx p l s m args meth c g RL cL_law 9) (hX : va_X b L xs s s.heap) (hbl : b < s.heap.size) (hbA : ¬ zA g b) {cz sz : Nat} (hcz : cz + 2 ≤ 603072) (hsz : sz + 12 ≤ 7207018) (hstk : l.stackTraces = false) {L28 : Int32 → MU → MU → (Nat → Int64) → (Nat → UInt64) → Prop} (hL28 : ∀ (x5 : Int32) (u v : MU) (o : Nat → Int64) (dd : Nat → UInt64), L28 x5 u v o dd → WM p l e room_1 s m args below meth c g 9 (cz + 2) (sz + 12) Qz 28 [(0, .ref b), (1, .ref (g.2.2.1 0)), (2, .ref (g.2.2.1 117)), (3, .ref (g.2.2.1 131)), (4, .ref (g.2.2.1 132)), (5, .int x5)] [] (u, v, o, dd)) (x5 : Int32) (u v : MU) (o : Nat → Int64) (dd : Nat → UInt64) (h : wb_law_204 xs L L28 x5 u v o dd) : WM p l e room_1 s m args below meth c g 9 cz sz Qz 204 [(0, .ref b), (1, .ref (g.2.2.1 0)), (2, .ref (g.2.2.1 117)), (3, .ref (g.2.2.1 131)), (4, .ref (g.2.2.1 132)), (5, .int x5)] [] (u, v, o, dd) := by
  unfold wb_law_204 at h
  refine zm_aload_n C dL_law_204 rfl 1 rfl ?_
  refine zm_aload_n C dL_law_205 rfl 3 rfl ?_
  refine zm_ci (zr_SW (As := [.ref (g.2.2.1 0), .ref (g.2.2.1 131)]) (rest := []) C (c_L_dig l hstk g u v o dd  h) wd_343 wd_344 wd_0 wd_345 hz_L_dig rfl rfl ⟨by decide, by decide⟩ ⟨(show cz + 1 ≤ 603072 by omega), (show sz + 6 ≤ 7207018 by omega)⟩ rfl rfl (Nat.le_of_ble_eq_true rfl) dL_law_206) (fun r_1 M1 hq => ?_)
  obtain ⟨u_2, o_3, rfl, h⟩ := hq
  refine zm_istore (lv' := [(6, .int r_1), (0, .ref b), (1, .ref (g.2.2.1 0)), (2, .ref (g.2.2.1 117)), (3, .ref (g.2.2.1 131)), (4, .ref (g.2.2.1 132)), (5, .int x5)]) C dL_law_209 (by decide) rfl ?_
  refine zm_aload_n C dL_law_211 rfl 3 rfl ?_
  refine zm_ci (zr_V (As := []) (rest := []) C (c_X10_dig l g u_2 v (o_3, dd)  h) wd_1180 wd_1181 wd_1182 wd_11 wd_1183 hy_X10_dig rfl rfl ⟨by decide, by decide⟩ ⟨(show (cz + 1) + 0 ≤ 603072 by omega), (show (sz + 6) + 0 ≤ 7207018 by omega)⟩ (ci := 10) (by decide) (zCell_k kd_117) rfl rfl rfl rfl (Nat.le_of_ble_eq_true rfl) dL_law_212) (fun r_4 M1 hq => ?_)
  obtain ⟨u_5, rfl, h⟩ := hq
  refine zm_istore (lv' := [(7, .int r_4), (6, .int r_1), (0, .ref b), (1, .ref (g.2.2.1 0)), (2, .ref (g.2.2.1 117)), (3, .ref (g.2.2.1 131)), (4, .ref (g.2.2.1 132)), (5, .int x5)]) C dL_law_215 (by decide) rfl ?_
  refine zm_aload_n C dL_law_217 rfl 4 rfl ?_
  refine zm_ci (zr_V (As := []) (rest := []) C (c_X10_thrown l g u_2 u_5 (o_3, dd)  h) wd_1176 wd_1177 wd_1178 wd_11 wd_1179 hy_X10_thrown rfl rfl ⟨by decide, by decide⟩ ⟨(show (cz + 1) + 0 ≤ 603072 by omega), (show (sz + 6) + 0 ≤ 7207018 by omega)⟩ (ci := 10) (by decide) (zCell_k kd_117) rfl rfl rfl rfl (Nat.le_of_ble_eq_true rfl) dL_law_218) (fun r_6 M1 hq => ?_)
  obtain ⟨rfl, h⟩ := hq
  refine zm_iload C dL_law_221 1 rfl ?_
  refine zm_icmp_eq (tgt := 228) C dL_law_223 (by decide) (fun hc_8 => ?_) (fun hc_8 => ?_)
  · have h := h.1 hc_8
    refine zm_iload C dL_law_228 1 rfl ?_
    refine zm_if_ne (tgt := 245) C dL_law_230 (by decide) (fun hc_9 => ?_) (fun hc_9 => ?_)
    · have h := h.1 hc_9
      exact (zm_sub [2, 3, 4, 5, 6, 7] rfl (vb_law_245 C hX hbl hbA hcz hsz hstk hL28 _ _ _ _ _ h))
    · have h := h.2 hc_9
      refine zm_aload_n C dL_law_233 rfl 5 rfl ?_
      refine zm_iconst (v := 0) C dL_law_234 (by decide) ?_
      refine zm_ldL C zIn01 dL_law_235 ?_
      refine zm_iload C dL_law_236 0 rfl ?_
      refine zm_i2l C dL_law_238 ?_
      refine zm_lcmp C dL_law_239 ?_
      refine zm_if_eq (tgt := 245) C dL_law_240 (by decide) (fun hc_10 => ?_) (fun hc_10 => ?_)
      · have h := h.1 hc_10
        exact (zm_sub [2, 3, 4, 5, 6, 7] rfl (vb_law_245 C hX hbl hbA hcz hsz hstk hL28 _ _ _ _ _ h))
      · have h := h.2 hc_10
        refine zm_iconst (v := 0) C dL_law_243 (by decide) ?_
        exact h.elim
  · have h := h.2 hc_8
    refine zm_iconst (v := 0) C dL_law_226 (by decide) ?_
    exact h.elim
def wb_law_313 (xs : Nat → Int32) (L : Nat) (L28 : Int32 → MU → MU → (Nat → Int64) → (Nat → UInt64) → Prop) (x5 : Int32) (u v : MU) (o : Nat → Int64) (dd : Nat → UInt64) : Prop := wb_law_2328 xs L L28 x5 u v o dd
set_option maxHeartbeats 4000000 in
set_option maxRecDepth 100000 in
theorem vb_law_313 {p : Program} {l : Launch} {e : Env} {s : State} {m : MethodId} {args : Array Value} {below : List Frame} {meth : Method} {c : Code} {g : GE} {Qz : State → Prop} {b L : Nat} {xs : Nat → Int32} (C : zCx p l s m args meth c g RL cL_law 9) (hX : va_X b L xs s s.heap) (hbl : b < s.heap.size) (hbA : ¬ zA g b) {cz sz : Nat} (hcz : cz + 2 ≤ 603072) (hsz : sz + 12 ≤ 7207018) (hstk : l.stackTraces = false) {L28 : Int32 → MU → MU → (Nat → Int64) → (Nat → UInt64) → Prop} (hL28 : ∀ (x5 : Int32) (u v : MU) (o : Nat → Int64) (dd : Nat → UInt64), L28 x5 u v o dd → WM p l e room_1 s m args below meth c g 9 (cz + 2) (sz + 12) Qz 28 [(0, .ref b), (1, .ref (g.2.2.1 0)), (2, .ref (g.2.2.1 117)), (3, .ref (g.2.2.1 131)), (4, .ref (g.2.2.1 132)), (5, .int x5)] [] (u, v, o, dd)) (x5 : Int32) (u v : MU) (o : Nat → Int64) (dd : Nat → UInt64) (h : wb_law_313 xs L L28 x5 u v o dd) : WM p l e room_1 s m args below meth c g 9 (cz + 1) (sz + 6) Qz 313 [(0, .ref b), (1, .ref (g.2.2.1 0)), (2, .ref (g.2.2.1 117)), (3, .ref (g.2.2.1 131)), (4, .ref (g.2.2.1 132)), (5, .int x5)] [] (u, v, o, dd) := by
  unfold wb_law_313 at h
  refine zm_goto (tgt := 2328) C dL_law_313 (by decide) ?_
  exact zm_widen (by omega) (by omega) (zm_sub [0, 1, 2, 3, 4, 5] rfl (vb_law_2328 C hX hbl hbA hcz hsz hstk hL28 _ _ _ _ _ h))
def wb_law_248 (xs : Nat → Int32) (L : Nat) (L28 : Int32 → MU → MU → (Nat → Int64) → (Nat → UInt64) → Prop) (x5 : Int32) (u v : MU) (o : Nat → Int64) (dd : Nat → UInt64) : Prop := vp_in (x5 + (1 : Int32)) L ∧ (vp_in (x5 + (2 : Int32)) L ∧ (w_L_tread (xs ((x5 + (1 : Int32))).toNatClampNeg) (xs ((x5 + (2 : Int32))).toNatClampNeg) u o (fun r_3 u_4 o_5 => vp_in (x5 + (1 : Int32)) L ∧ (vp_in (x5 + (2 : Int32)) L ∧ (w_X10_tread (xs ((x5 + (1 : Int32))).toNatClampNeg) (xs ((x5 + (2 : Int32))).toNatClampNeg) v (fun r_8 u_9 => w_X10_thrown u_9  (fun r_10 => ((r_10 = r_3) → ((¬ r_3 = 0) → wb_law_313 xs L L28 x5 u_4 u_9 o_5 dd) ∧ ((r_3 = 0) → (((lg_cmp (o_5 ((0 : Int32)).toNatClampNeg) r_8.toInt64) = 0) → wb_law_313 xs L L28 x5 u_4 u_9 o_5 dd) ∧ ((¬ (lg_cmp (o_5 ((0 : Int32)).toNatClampNeg) r_8.toInt64) = 0) → False))) ∧ ((¬ r_10 = r_3) → False))))))))
set_option maxHeartbeats 4000000 in
set_option maxRecDepth 100000 in
theorem vb_law_248 {p : Program} {l : Launch} {e : Env} {s : State} {m : MethodId} {args : Array Value} {below : List Frame} {meth : Method} {c : Code} {g : GE} {Qz : State → Prop} {b L : Nat} {xs : Nat → Int32} (C : zCx p l s m args meth c g RL cL_law 9) (hX : va_X b L xs s s.heap) (hbl : b < s.heap.size) (hbA : ¬ zA g b) {cz sz : Nat} (hcz : cz + 2 ≤ 603072) (hsz : sz + 12 ≤ 7207018) (hstk : l.stackTraces = false) {L28 : Int32 → MU → MU → (Nat → Int64) → (Nat → UInt64) → Prop} (hL28 : ∀ (x5 : Int32) (u v : MU) (o : Nat → Int64) (dd : Nat → UInt64), L28 x5 u v o dd → WM p l e room_1 s m args below meth c g 9 (cz + 2) (sz + 12) Qz 28 [(0, .ref b), (1, .ref (g.2.2.1 0)), (2, .ref (g.2.2.1 117)), (3, .ref (g.2.2.1 131)), (4, .ref (g.2.2.1 132)), (5, .int x5)] [] (u, v, o, dd)) (x5 : Int32) (u v : MU) (o : Nat → Int64) (dd : Nat → UInt64) (h : wb_law_248 xs L L28 x5 u v o dd) : WM p l e room_1 s m args below meth c g 9 cz sz Qz 248 [(0, .ref b), (1, .ref (g.2.2.1 0)), (2, .ref (g.2.2.1 117)), (3, .ref (g.2.2.1 131)), (4, .ref (g.2.2.1 132)), (5, .int x5)] [] (u, v, o, dd) := by
  unfold wb_law_248 at h
  refine zm_aload_n C dL_law_248 rfl 1 rfl ?_
  refine zm_aload_n C dL_law_249 rfl 0 rfl ?_
  refine zm_iload C dL_law_250 5 rfl ?_
  refine zm_iconst (v := 1) C dL_law_252 (by decide) ?_
  refine zm_iadd C dL_law_253 ?_
  obtain ⟨hg_1, h⟩ := h
  refine zm_sld C hX hbl hbA hg_1 dL_law_254 ?_
  refine zm_aload_n C dL_law_255 rfl 0 rfl ?_
  refine zm_iload C dL_law_256 5 rfl ?_
  refine zm_iconst (v := 2) C dL_law_258 (by decide) ?_
  refine zm_iadd C dL_law_259 ?_
  obtain ⟨hg_2, h⟩ := h
  refine zm_sld C hX hbl hbA hg_2 dL_law_260 ?_
  refine zm_aload_n C dL_law_261 rfl 3 rfl ?_
  refine zm_ci (zr_SW (As := [.ref (g.2.2.1 0), .int (xs ((x5 + (1 : Int32))).toNatClampNeg), .int (xs ((x5 + (2 : Int32))).toNatClampNeg), .ref (g.2.2.1 131)]) (rest := []) C (c_L_tread l hstk g u v o dd (xs ((x5 + (1 : Int32))).toNatClampNeg) (xs ((x5 + (2 : Int32))).toNatClampNeg) h) wd_457 wd_458 wd_0 wd_459 hz_L_tread rfl rfl ⟨by decide, by decide⟩ ⟨(show cz + 1 ≤ 603072 by omega), (show sz + 6 ≤ 7207018 by omega)⟩ rfl rfl (Nat.le_of_ble_eq_true rfl) dL_law_262) (fun r_3 M1 hq => ?_)
  obtain ⟨u_4, o_5, rfl, h⟩ := hq
  refine zm_istore (lv' := [(6, .int r_3), (0, .ref b), (1, .ref (g.2.2.1 0)), (2, .ref (g.2.2.1 117)), (3, .ref (g.2.2.1 131)), (4, .ref (g.2.2.1 132)), (5, .int x5)]) C dL_law_265 (by decide) rfl ?_
  refine zm_aload_n C dL_law_267 rfl 3 rfl ?_
  refine zm_aload_n C dL_law_268 rfl 1 rfl ?_
  refine zm_iload C dL_law_269 6 rfl ?_
  refine zm_iconst (v := 1) C dL_law_271 (by decide) ?_
  refine zm_iadd C dL_law_272 ?_
  obtain ⟨hg_6, h⟩ := h
  refine zm_sld C hX hbl hbA hg_6 dL_law_273 ?_
  refine zm_aload_n C dL_law_274 rfl 1 rfl ?_
  refine zm_iload C dL_law_275 6 rfl ?_
  refine zm_iconst (v := 2) C dL_law_277 (by decide) ?_
  refine zm_iadd C dL_law_278 ?_
  obtain ⟨hg_7, h⟩ := h
  refine zm_sld C hX hbl hbA hg_7 dL_law_279 ?_
  refine zm_ci (zr_V (As := [.int (xs ((x5 + (1 : Int32))).toNatClampNeg), .int (xs ((x5 + (2 : Int32))).toNatClampNeg)]) (rest := []) C (c_X10_tread l g u_4 v (o_5, dd) (xs ((x5 + (1 : Int32))).toNatClampNeg) (xs ((x5 + (2 : Int32))).toNatClampNeg) h) wd_1208 wd_1209 wd_1210 wd_11 wd_1211 hy_X10_tread rfl rfl ⟨by decide, by decide⟩ ⟨(show (cz + 1) + 0 ≤ 603072 by omega), (show (sz + 6) + 0 ≤ 7207018 by omega)⟩ (ci := 10) (by decide) (zCell_k kd_117) rfl rfl rfl rfl (Nat.le_of_ble_eq_true rfl) dL_law_280) (fun r_8 M1 hq => ?_)
  obtain ⟨u_9, rfl, h⟩ := hq
  refine zm_istore (lv' := [(7, .int r_8), (6, .int r_3), (0, .ref b), (1, .ref (g.2.2.1 0)), (2, .ref (g.2.2.1 117)), (3, .ref (g.2.2.1 131)), (4, .ref (g.2.2.1 132)), (5, .int x5)]) C dL_law_283 (by decide) rfl ?_
  refine zm_aload_n C dL_law_285 rfl 4 rfl ?_
  refine zm_ci (zr_V (As := []) (rest := []) C (c_X10_thrown l g u_4 u_9 (o_5, dd)  h) wd_1176 wd_1177 wd_1178 wd_11 wd_1179 hy_X10_thrown rfl rfl ⟨by decide, by decide⟩ ⟨(show (cz + 1) + 0 ≤ 603072 by omega), (show (sz + 6) + 0 ≤ 7207018 by omega)⟩ (ci := 10) (by decide) (zCell_k kd_117) rfl rfl rfl rfl (Nat.le_of_ble_eq_true rfl) dL_law_286) (fun r_10 M1 hq => ?_)
  obtain ⟨rfl, h⟩ := hq
  refine zm_iload C dL_law_289 1 rfl ?_
  refine zm_icmp_eq (tgt := 296) C dL_law_291 (by decide) (fun hc_12 => ?_) (fun hc_12 => ?_)
  · have h := h.1 hc_12
    refine zm_iload C dL_law_296 1 rfl ?_
    refine zm_if_ne (tgt := 313) C dL_law_298 (by decide) (fun hc_13 => ?_) (fun hc_13 => ?_)
    · have h := h.1 hc_13
      exact (zm_sub [2, 3, 4, 5, 6, 7] rfl (vb_law_313 C hX hbl hbA hcz hsz hstk hL28 _ _ _ _ _ h))
    · have h := h.2 hc_13
      refine zm_aload_n C dL_law_301 rfl 5 rfl ?_
      refine zm_iconst (v := 0) C dL_law_302 (by decide) ?_
      refine zm_ldL C zIn01 dL_law_303 ?_
      refine zm_iload C dL_law_304 0 rfl ?_
      refine zm_i2l C dL_law_306 ?_
      refine zm_lcmp C dL_law_307 ?_
      refine zm_if_eq (tgt := 313) C dL_law_308 (by decide) (fun hc_14 => ?_) (fun hc_14 => ?_)
      · have h := h.1 hc_14
        exact (zm_sub [2, 3, 4, 5, 6, 7] rfl (vb_law_313 C hX hbl hbA hcz hsz hstk hL28 _ _ _ _ _ h))
      · have h := h.2 hc_14
        refine zm_iconst (v := 0) C dL_law_311 (by decide) ?_
        exact h.elim
  · have h := h.2 hc_12
    refine zm_iconst (v := 0) C dL_law_294 (by decide) ?_
    exact h.elim
def wb_law_381 (xs : Nat → Int32) (L : Nat) (L28 : Int32 → MU → MU → (Nat → Int64) → (Nat → UInt64) → Prop) (x5 : Int32) (u v : MU) (o : Nat → Int64) (dd : Nat → UInt64) : Prop := wb_law_2328 xs L L28 x5 u v o dd
set_option maxHeartbeats 4000000 in
set_option maxRecDepth 100000 in
theorem vb_law_381 {p : Program} {l : Launch} {e : Env} {s : State} {m : MethodId} {args : Array Value} {below : List Frame} {meth : Method} {c : Code} {g : GE} {Qz : State → Prop} {b L : Nat} {xs : Nat → Int32} (C : zCx p l s m args meth c g RL cL_law 9) (hX : va_X b L xs s s.heap) (hbl : b < s.heap.size) (hbA : ¬ zA g b) {cz sz : Nat} (hcz : cz + 2 ≤ 603072) (hsz : sz + 12 ≤ 7207018) (hstk : l.stackTraces = false) {L28 : Int32 → MU → MU → (Nat → Int64) → (Nat → UInt64) → Prop} (hL28 : ∀ (x5 : Int32) (u v : MU) (o : Nat → Int64) (dd : Nat → UInt64), L28 x5 u v o dd → WM p l e room_1 s m args below meth c g 9 (cz + 2) (sz + 12) Qz 28 [(0, .ref b), (1, .ref (g.2.2.1 0)), (2, .ref (g.2.2.1 117)), (3, .ref (g.2.2.1 131)), (4, .ref (g.2.2.1 132)), (5, .int x5)] [] (u, v, o, dd)) (x5 : Int32) (u v : MU) (o : Nat → Int64) (dd : Nat → UInt64) (h : wb_law_381 xs L L28 x5 u v o dd) : WM p l e room_1 s m args below meth c g 9 (cz + 1) (sz + 6) Qz 381 [(0, .ref b), (1, .ref (g.2.2.1 0)), (2, .ref (g.2.2.1 117)), (3, .ref (g.2.2.1 131)), (4, .ref (g.2.2.1 132)), (5, .int x5)] [] (u, v, o, dd) := by
  unfold wb_law_381 at h
  refine zm_goto (tgt := 2328) C dL_law_381 (by decide) ?_
  exact zm_widen (by omega) (by omega) (zm_sub [0, 1, 2, 3, 4, 5] rfl (vb_law_2328 C hX hbl hbA hcz hsz hstk hL28 _ _ _ _ _ h))
def wb_law_316 (xs : Nat → Int32) (L : Nat) (L28 : Int32 → MU → MU → (Nat → Int64) → (Nat → UInt64) → Prop) (x5 : Int32) (u v : MU) (o : Nat → Int64) (dd : Nat → UInt64) : Prop := vp_in (x5 + (1 : Int32)) L ∧ (vp_in (x5 + (2 : Int32)) L ∧ (w_L_grow (xs ((x5 + (1 : Int32))).toNatClampNeg) (xs ((x5 + (2 : Int32))).toNatClampNeg) u o (fun r_3 u_4 o_5 => vp_in (x5 + (1 : Int32)) L ∧ (vp_in (x5 + (2 : Int32)) L ∧ (w_X10_grow (xs ((x5 + (1 : Int32))).toNatClampNeg) (xs ((x5 + (2 : Int32))).toNatClampNeg) v (fun r_8 u_9 => w_X10_thrown u_9  (fun r_10 => ((r_10 = r_3) → ((¬ r_3 = 0) → wb_law_381 xs L L28 x5 u_4 u_9 o_5 dd) ∧ ((r_3 = 0) → (((lg_cmp (o_5 ((0 : Int32)).toNatClampNeg) r_8.toInt64) = 0) → wb_law_381 xs L L28 x5 u_4 u_9 o_5 dd) ∧ ((¬ (lg_cmp (o_5 ((0 : Int32)).toNatClampNeg) r_8.toInt64) = 0) → False))) ∧ ((¬ r_10 = r_3) → False))))))))
set_option maxHeartbeats 4000000 in
set_option maxRecDepth 100000 in
theorem vb_law_316 {p : Program} {l : Launch} {e : Env} {s : State} {m : MethodId} {args : Array Value} {below : List Frame} {meth : Method} {c : Code} {g : GE} {Qz : State → Prop} {b L : Nat} {xs : Nat → Int32} (C : zCx p l s m args meth c g RL cL_law 9) (hX : va_X b L xs s s.heap) (hbl : b < s.heap.size) (hbA : ¬ zA g b) {cz sz : Nat} (hcz : cz + 2 ≤ 603072) (hsz : sz + 12 ≤ 7207018) (hstk : l.stackTraces = false) {L28 : Int32 → MU → MU → (Nat → Int64) → (Nat → UInt64) → Prop} (hL28 : ∀ (x5 : Int32) (u v : MU) (o : Nat → Int64) (dd : Nat → UInt64), L28 x5 u v o dd → WM p l e room_1 s m args below meth c g 9 (cz + 2) (sz + 12) Qz 28 [(0, .ref b), (1, .ref (g.2.2.1 0)), (2, .ref (g.2.2.1 117)), (3, .ref (g.2.2.1 131)), (4, .ref (g.2.2.1 132)), (5, .int x5)] [] (u, v, o, dd)) (x5 : Int32) (u v : MU) (o : Nat → Int64) (dd : Nat → UInt64) (h : wb_law_316 xs L L28 x5 u v o dd) : WM p l e room_1 s m args below meth c g 9 cz sz Qz 316 [(0, .ref b), (1, .ref (g.2.2.1 0)), (2, .ref (g.2.2.1 117)), (3, .ref (g.2.2.1 131)), (4, .ref (g.2.2.1 132)), (5, .int x5)] [] (u, v, o, dd) := by
  unfold wb_law_316 at h
  refine zm_aload_n C dL_law_316 rfl 1 rfl ?_
  refine zm_aload_n C dL_law_317 rfl 0 rfl ?_
  refine zm_iload C dL_law_318 5 rfl ?_
  refine zm_iconst (v := 1) C dL_law_320 (by decide) ?_
  refine zm_iadd C dL_law_321 ?_
  obtain ⟨hg_1, h⟩ := h
  refine zm_sld C hX hbl hbA hg_1 dL_law_322 ?_
  refine zm_aload_n C dL_law_323 rfl 0 rfl ?_
  refine zm_iload C dL_law_324 5 rfl ?_
  refine zm_iconst (v := 2) C dL_law_326 (by decide) ?_
  refine zm_iadd C dL_law_327 ?_
  obtain ⟨hg_2, h⟩ := h
  refine zm_sld C hX hbl hbA hg_2 dL_law_328 ?_
  refine zm_aload_n C dL_law_329 rfl 3 rfl ?_
  refine zm_ci (zr_SW (As := [.ref (g.2.2.1 0), .int (xs ((x5 + (1 : Int32))).toNatClampNeg), .int (xs ((x5 + (2 : Int32))).toNatClampNeg), .ref (g.2.2.1 131)]) (rest := []) C (c_L_grow l hstk g u v o dd (xs ((x5 + (1 : Int32))).toNatClampNeg) (xs ((x5 + (2 : Int32))).toNatClampNeg) h) wd_495 wd_496 wd_0 wd_497 hz_L_grow rfl rfl ⟨by decide, by decide⟩ ⟨(show cz + 1 ≤ 603072 by omega), (show sz + 6 ≤ 7207018 by omega)⟩ rfl rfl (Nat.le_of_ble_eq_true rfl) dL_law_330) (fun r_3 M1 hq => ?_)
  obtain ⟨u_4, o_5, rfl, h⟩ := hq
  refine zm_istore (lv' := [(6, .int r_3), (0, .ref b), (1, .ref (g.2.2.1 0)), (2, .ref (g.2.2.1 117)), (3, .ref (g.2.2.1 131)), (4, .ref (g.2.2.1 132)), (5, .int x5)]) C dL_law_333 (by decide) rfl ?_
  refine zm_aload_n C dL_law_335 rfl 3 rfl ?_
  refine zm_aload_n C dL_law_336 rfl 1 rfl ?_
  refine zm_iload C dL_law_337 6 rfl ?_
  refine zm_iconst (v := 1) C dL_law_339 (by decide) ?_
  refine zm_iadd C dL_law_340 ?_
  obtain ⟨hg_6, h⟩ := h
  refine zm_sld C hX hbl hbA hg_6 dL_law_341 ?_
  refine zm_aload_n C dL_law_342 rfl 1 rfl ?_
  refine zm_iload C dL_law_343 6 rfl ?_
  refine zm_iconst (v := 2) C dL_law_345 (by decide) ?_
  refine zm_iadd C dL_law_346 ?_
  obtain ⟨hg_7, h⟩ := h
  refine zm_sld C hX hbl hbA hg_7 dL_law_347 ?_
  refine zm_ci (zr_V (As := [.int (xs ((x5 + (1 : Int32))).toNatClampNeg), .int (xs ((x5 + (2 : Int32))).toNatClampNeg)]) (rest := []) C (c_X10_grow l g u_4 v (o_5, dd) (xs ((x5 + (1 : Int32))).toNatClampNeg) (xs ((x5 + (2 : Int32))).toNatClampNeg) h) wd_1231 wd_1232 wd_1233 wd_11 wd_1234 hy_X10_grow rfl rfl ⟨by decide, by decide⟩ ⟨(show (cz + 1) + 0 ≤ 603072 by omega), (show (sz + 6) + 0 ≤ 7207018 by omega)⟩ (ci := 10) (by decide) (zCell_k kd_117) rfl rfl rfl rfl (Nat.le_of_ble_eq_true rfl) dL_law_348) (fun r_8 M1 hq => ?_)
  obtain ⟨u_9, rfl, h⟩ := hq
  refine zm_istore (lv' := [(7, .int r_8), (6, .int r_3), (0, .ref b), (1, .ref (g.2.2.1 0)), (2, .ref (g.2.2.1 117)), (3, .ref (g.2.2.1 131)), (4, .ref (g.2.2.1 132)), (5, .int x5)]) C dL_law_351 (by decide) rfl ?_
  refine zm_aload_n C dL_law_353 rfl 4 rfl ?_
  refine zm_ci (zr_V (As := []) (rest := []) C (c_X10_thrown l g u_4 u_9 (o_5, dd)  h) wd_1176 wd_1177 wd_1178 wd_11 wd_1179 hy_X10_thrown rfl rfl ⟨by decide, by decide⟩ ⟨(show (cz + 1) + 0 ≤ 603072 by omega), (show (sz + 6) + 0 ≤ 7207018 by omega)⟩ (ci := 10) (by decide) (zCell_k kd_117) rfl rfl rfl rfl (Nat.le_of_ble_eq_true rfl) dL_law_354) (fun r_10 M1 hq => ?_)
  obtain ⟨rfl, h⟩ := hq
  refine zm_iload C dL_law_357 1 rfl ?_
  refine zm_icmp_eq (tgt := 364) C dL_law_359 (by decide) (fun hc_12 => ?_) (fun hc_12 => ?_)
  · have h := h.1 hc_12
    refine zm_iload C dL_law_364 1 rfl ?_
    refine zm_if_ne (tgt := 381) C dL_law_366 (by decide) (fun hc_13 => ?_) (fun hc_13 => ?_)
    · have h := h.1 hc_13
      exact (zm_sub [2, 3, 4, 5, 6, 7] rfl (vb_law_381 C hX hbl hbA hcz hsz hstk hL28 _ _ _ _ _ h))
    · have h := h.2 hc_13
      refine zm_aload_n C dL_law_369 rfl 5 rfl ?_
      refine zm_iconst (v := 0) C dL_law_370 (by decide) ?_
      refine zm_ldL C zIn01 dL_law_371 ?_
      refine zm_iload C dL_law_372 0 rfl ?_
      refine zm_i2l C dL_law_374 ?_
      refine zm_lcmp C dL_law_375 ?_
      refine zm_if_eq (tgt := 381) C dL_law_376 (by decide) (fun hc_14 => ?_) (fun hc_14 => ?_)
      · have h := h.1 hc_14
        exact (zm_sub [2, 3, 4, 5, 6, 7] rfl (vb_law_381 C hX hbl hbA hcz hsz hstk hL28 _ _ _ _ _ h))
      · have h := h.2 hc_14
        refine zm_iconst (v := 0) C dL_law_379 (by decide) ?_
        exact h.elim
  · have h := h.2 hc_12
    refine zm_iconst (v := 0) C dL_law_362 (by decide) ?_
    exact h.elim
def wb_law_465 (xs : Nat → Int32) (L : Nat) (L28 : Int32 → MU → MU → (Nat → Int64) → (Nat → UInt64) → Prop) (x5 : Int32) (u v : MU) (o : Nat → Int64) (dd : Nat → UInt64) : Prop := wb_law_2328 xs L L28 x5 u v o dd
set_option maxHeartbeats 4000000 in
set_option maxRecDepth 100000 in
theorem vb_law_465 {p : Program} {l : Launch} {e : Env} {s : State} {m : MethodId} {args : Array Value} {below : List Frame} {meth : Method} {c : Code} {g : GE} {Qz : State → Prop} {b L : Nat} {xs : Nat → Int32} (C : zCx p l s m args meth c g RL cL_law 9) (hX : va_X b L xs s s.heap) (hbl : b < s.heap.size) (hbA : ¬ zA g b) {cz sz : Nat} (hcz : cz + 2 ≤ 603072) (hsz : sz + 12 ≤ 7207018) (hstk : l.stackTraces = false) {L28 : Int32 → MU → MU → (Nat → Int64) → (Nat → UInt64) → Prop} (hL28 : ∀ (x5 : Int32) (u v : MU) (o : Nat → Int64) (dd : Nat → UInt64), L28 x5 u v o dd → WM p l e room_1 s m args below meth c g 9 (cz + 2) (sz + 12) Qz 28 [(0, .ref b), (1, .ref (g.2.2.1 0)), (2, .ref (g.2.2.1 117)), (3, .ref (g.2.2.1 131)), (4, .ref (g.2.2.1 132)), (5, .int x5)] [] (u, v, o, dd)) (x5 : Int32) (u v : MU) (o : Nat → Int64) (dd : Nat → UInt64) (h : wb_law_465 xs L L28 x5 u v o dd) : WM p l e room_1 s m args below meth c g 9 (cz + 1) (sz + 6) Qz 465 [(0, .ref b), (1, .ref (g.2.2.1 0)), (2, .ref (g.2.2.1 117)), (3, .ref (g.2.2.1 131)), (4, .ref (g.2.2.1 132)), (5, .int x5)] [] (u, v, o, dd) := by
  unfold wb_law_465 at h
  refine zm_goto (tgt := 2328) C dL_law_465 (by decide) ?_
  exact zm_widen (by omega) (by omega) (zm_sub [0, 1, 2, 3, 4, 5] rfl (vb_law_2328 C hX hbl hbA hcz hsz hstk hL28 _ _ _ _ _ h))
def wb_law_432 (xs : Nat → Int32) (L : Nat) (L28 : Int32 → MU → MU → (Nat → Int64) → (Nat → UInt64) → Prop) (x5 : Int32) (x6 : Int32) (s0 : Int32) (s1 : Int32) (u v : MU) (o : Nat → Int64) (dd : Nat → UInt64) : Prop := w_X10_trap s1 s0 v (fun r_1 u_2 => w_X10_thrown u_2  (fun r_3 => ((r_3 = x6) → ((¬ x6 = 0) → wb_law_465 xs L L28 x5 u u_2 o dd) ∧ ((x6 = 0) → (((lg_cmp (o ((0 : Int32)).toNatClampNeg) r_1.toInt64) = 0) → wb_law_465 xs L L28 x5 u u_2 o dd) ∧ ((¬ (lg_cmp (o ((0 : Int32)).toNatClampNeg) r_1.toInt64) = 0) → False))) ∧ ((¬ r_3 = x6) → False)))
set_option maxHeartbeats 4000000 in
set_option maxRecDepth 100000 in
theorem vb_law_432 {p : Program} {l : Launch} {e : Env} {s : State} {m : MethodId} {args : Array Value} {below : List Frame} {meth : Method} {c : Code} {g : GE} {Qz : State → Prop} {b L : Nat} {xs : Nat → Int32} (C : zCx p l s m args meth c g RL cL_law 9) (hX : va_X b L xs s s.heap) (hbl : b < s.heap.size) (hbA : ¬ zA g b) {cz sz : Nat} (hcz : cz + 2 ≤ 603072) (hsz : sz + 12 ≤ 7207018) (hstk : l.stackTraces = false) {L28 : Int32 → MU → MU → (Nat → Int64) → (Nat → UInt64) → Prop} (hL28 : ∀ (x5 : Int32) (u v : MU) (o : Nat → Int64) (dd : Nat → UInt64), L28 x5 u v o dd → WM p l e room_1 s m args below meth c g 9 (cz + 2) (sz + 12) Qz 28 [(0, .ref b), (1, .ref (g.2.2.1 0)), (2, .ref (g.2.2.1 117)), (3, .ref (g.2.2.1 131)), (4, .ref (g.2.2.1 132)), (5, .int x5)] [] (u, v, o, dd)) (x5 : Int32) (x6 : Int32) (s0 : Int32) (s1 : Int32) (u v : MU) (o : Nat → Int64) (dd : Nat → UInt64) (h : wb_law_432 xs L L28 x5 x6 s0 s1 u v o dd) : WM p l e room_1 s m args below meth c g 9 (cz + 1) (sz + 6) Qz 432 [(0, .ref b), (1, .ref (g.2.2.1 0)), (2, .ref (g.2.2.1 117)), (3, .ref (g.2.2.1 131)), (4, .ref (g.2.2.1 132)), (5, .int x5), (6, .int x6)] [.int s0, .int s1, .ref (g.2.2.1 117)] (u, v, o, dd) := by
  unfold wb_law_432 at h
  refine zm_ci (zr_V (As := [.int s1, .int s0]) (rest := []) C (c_X10_trap l g u v (o, dd) s1 s0 h) wd_1239 wd_1240 wd_1241 wd_11 wd_1242 hy_X10_trap rfl rfl ⟨by decide, by decide⟩ ⟨(show (cz + 1) + 0 ≤ 603072 by omega), (show (sz + 6) + 0 ≤ 7207018 by omega)⟩ (ci := 10) (by decide) (zCell_k kd_117) rfl rfl rfl rfl (Nat.le_of_ble_eq_true rfl) dL_law_432) (fun r_1 M1 hq => ?_)
  obtain ⟨u_2, rfl, h⟩ := hq
  refine zm_istore (lv' := [(7, .int r_1), (0, .ref b), (1, .ref (g.2.2.1 0)), (2, .ref (g.2.2.1 117)), (3, .ref (g.2.2.1 131)), (4, .ref (g.2.2.1 132)), (5, .int x5), (6, .int x6)]) C dL_law_435 (by decide) rfl ?_
  refine zm_aload_n C dL_law_437 rfl 3 rfl ?_
  refine zm_ci (zr_V (As := []) (rest := []) C (c_X10_thrown l g u u_2 (o, dd)  h) wd_1176 wd_1177 wd_1178 wd_11 wd_1179 hy_X10_thrown rfl rfl ⟨by decide, by decide⟩ ⟨(show (cz + 1) + 0 ≤ 603072 by omega), (show (sz + 6) + 0 ≤ 7207018 by omega)⟩ (ci := 10) (by decide) (zCell_k kd_117) rfl rfl rfl rfl (Nat.le_of_ble_eq_true rfl) dL_law_438) (fun r_3 M1 hq => ?_)
  obtain ⟨rfl, h⟩ := hq
  refine zm_iload C dL_law_441 7 rfl ?_
  refine zm_icmp_eq (tgt := 448) C dL_law_443 (by decide) (fun hc_5 => ?_) (fun hc_5 => ?_)
  · have h := h.1 hc_5
    refine zm_iload C dL_law_448 7 rfl ?_
    refine zm_if_ne (tgt := 465) C dL_law_450 (by decide) (fun hc_6 => ?_) (fun hc_6 => ?_)
    · have h := h.1 hc_6
      exact (zm_sub [1, 2, 3, 4, 5, 6] rfl (vb_law_465 C hX hbl hbA hcz hsz hstk hL28 _ _ _ _ _ h))
    · have h := h.2 hc_6
      refine zm_aload_n C dL_law_453 rfl 4 rfl ?_
      refine zm_iconst (v := 0) C dL_law_454 (by decide) ?_
      refine zm_ldL C zIn01 dL_law_455 ?_
      refine zm_iload C dL_law_456 0 rfl ?_
      refine zm_i2l C dL_law_458 ?_
      refine zm_lcmp C dL_law_459 ?_
      refine zm_if_eq (tgt := 465) C dL_law_460 (by decide) (fun hc_7 => ?_) (fun hc_7 => ?_)
      · have h := h.1 hc_7
        exact (zm_sub [1, 2, 3, 4, 5, 6] rfl (vb_law_465 C hX hbl hbA hcz hsz hstk hL28 _ _ _ _ _ h))
      · have h := h.2 hc_7
        refine zm_iconst (v := 0) C dL_law_463 (by decide) ?_
        exact h.elim
  · have h := h.2 hc_5
    refine zm_iconst (v := 0) C dL_law_446 (by decide) ?_
    exact h.elim
def wb_law_405 (xs : Nat → Int32) (L : Nat) (L28 : Int32 → MU → MU → (Nat → Int64) → (Nat → UInt64) → Prop) (x5 : Int32) (s0 : Int32) (s1 : Int32) (u v : MU) (o : Nat → Int64) (dd : Nat → UInt64) : Prop := w_L_trap s1 s0 u o (fun r_1 u_2 o_3 => vp_in (x5 + (1 : Int32)) L ∧ (vp_in (x5 + (2 : Int32)) L ∧ ((((xs ((x5 + (2 : Int32))).toNatClampNeg) = 0) → wb_law_432 xs L L28 x5 r_1 (0 : Int32) (xs ((x5 + (1 : Int32))).toNatClampNeg) u_2 v o_3 dd) ∧ ((¬ (xs ((x5 + (2 : Int32))).toNatClampNeg) = 0) → wb_law_432 xs L L28 x5 r_1 (1 : Int32) (xs ((x5 + (1 : Int32))).toNatClampNeg) u_2 v o_3 dd))))
set_option maxHeartbeats 4000000 in
set_option maxRecDepth 100000 in
theorem vb_law_405 {p : Program} {l : Launch} {e : Env} {s : State} {m : MethodId} {args : Array Value} {below : List Frame} {meth : Method} {c : Code} {g : GE} {Qz : State → Prop} {b L : Nat} {xs : Nat → Int32} (C : zCx p l s m args meth c g RL cL_law 9) (hX : va_X b L xs s s.heap) (hbl : b < s.heap.size) (hbA : ¬ zA g b) {cz sz : Nat} (hcz : cz + 2 ≤ 603072) (hsz : sz + 12 ≤ 7207018) (hstk : l.stackTraces = false) {L28 : Int32 → MU → MU → (Nat → Int64) → (Nat → UInt64) → Prop} (hL28 : ∀ (x5 : Int32) (u v : MU) (o : Nat → Int64) (dd : Nat → UInt64), L28 x5 u v o dd → WM p l e room_1 s m args below meth c g 9 (cz + 2) (sz + 12) Qz 28 [(0, .ref b), (1, .ref (g.2.2.1 0)), (2, .ref (g.2.2.1 117)), (3, .ref (g.2.2.1 131)), (4, .ref (g.2.2.1 132)), (5, .int x5)] [] (u, v, o, dd)) (x5 : Int32) (s0 : Int32) (s1 : Int32) (u v : MU) (o : Nat → Int64) (dd : Nat → UInt64) (h : wb_law_405 xs L L28 x5 s0 s1 u v o dd) : WM p l e room_1 s m args below meth c g 9 cz sz Qz 405 [(0, .ref b), (1, .ref (g.2.2.1 0)), (2, .ref (g.2.2.1 117)), (3, .ref (g.2.2.1 131)), (4, .ref (g.2.2.1 132)), (5, .int x5)] [.int s0, .int s1, .ref (g.2.2.1 0)] (u, v, o, dd) := by
  unfold wb_law_405 at h
  refine zm_aload_n C dL_law_405 rfl 3 rfl ?_
  refine zm_ci (zr_SW (As := [.ref (g.2.2.1 0), .int s1, .int s0, .ref (g.2.2.1 131)]) (rest := []) C (c_L_trap l hstk g u v o dd s1 s0 h) wd_510 wd_511 wd_0 wd_512 hz_L_trap rfl rfl ⟨by decide, by decide⟩ ⟨(show cz + 1 ≤ 603072 by omega), (show sz + 6 ≤ 7207018 by omega)⟩ rfl rfl (Nat.le_of_ble_eq_true rfl) dL_law_406) (fun r_1 M1 hq => ?_)
  obtain ⟨u_2, o_3, rfl, h⟩ := hq
  refine zm_istore (lv' := [(6, .int r_1), (0, .ref b), (1, .ref (g.2.2.1 0)), (2, .ref (g.2.2.1 117)), (3, .ref (g.2.2.1 131)), (4, .ref (g.2.2.1 132)), (5, .int x5)]) C dL_law_409 (by decide) rfl ?_
  refine zm_aload_n C dL_law_411 rfl 3 rfl ?_
  refine zm_aload_n C dL_law_412 rfl 1 rfl ?_
  refine zm_iload C dL_law_413 6 rfl ?_
  refine zm_iconst (v := 1) C dL_law_415 (by decide) ?_
  refine zm_iadd C dL_law_416 ?_
  obtain ⟨hg_4, h⟩ := h
  refine zm_sld C hX hbl hbA hg_4 dL_law_417 ?_
  refine zm_aload_n C dL_law_418 rfl 1 rfl ?_
  refine zm_iload C dL_law_419 6 rfl ?_
  refine zm_iconst (v := 2) C dL_law_421 (by decide) ?_
  refine zm_iadd C dL_law_422 ?_
  obtain ⟨hg_5, h⟩ := h
  refine zm_sld C hX hbl hbA hg_5 dL_law_423 ?_
  refine zm_if_eq (tgt := 431) C dL_law_424 (by decide) (fun hc_6 => ?_) (fun hc_6 => ?_)
  · have h := h.1 hc_6
    refine zm_iconst (v := 0) C dL_law_431 (by decide) ?_
    exact (zm_sub [1, 2, 3, 4, 5, 6, 0] rfl (vb_law_432 C hX hbl hbA hcz hsz hstk hL28 _ _ _ _ _ _ _ _ h))
  · have h := h.2 hc_6
    refine zm_iconst (v := 1) C dL_law_427 (by decide) ?_
    refine zm_goto (tgt := 432) C dL_law_428 (by decide) ?_
    exact (zm_sub [1, 2, 3, 4, 5, 6, 0] rfl (vb_law_432 C hX hbl hbA hcz hsz hstk hL28 _ _ _ _ _ _ _ _ h))
def wb_law_384 (xs : Nat → Int32) (L : Nat) (L28 : Int32 → MU → MU → (Nat → Int64) → (Nat → UInt64) → Prop) (x5 : Int32) (u v : MU) (o : Nat → Int64) (dd : Nat → UInt64) : Prop := vp_in (x5 + (1 : Int32)) L ∧ (vp_in (x5 + (2 : Int32)) L ∧ ((((xs ((x5 + (2 : Int32))).toNatClampNeg) = 0) → wb_law_405 xs L L28 x5 (0 : Int32) (xs ((x5 + (1 : Int32))).toNatClampNeg) u v o dd) ∧ ((¬ (xs ((x5 + (2 : Int32))).toNatClampNeg) = 0) → wb_law_405 xs L L28 x5 (1 : Int32) (xs ((x5 + (1 : Int32))).toNatClampNeg) u v o dd)))
set_option maxHeartbeats 4000000 in
set_option maxRecDepth 100000 in
theorem vb_law_384 {p : Program} {l : Launch} {e : Env} {s : State} {m : MethodId} {args : Array Value} {below : List Frame} {meth : Method} {c : Code} {g : GE} {Qz : State → Prop} {b L : Nat} {xs : Nat → Int32} (C : zCx p l s m args meth c g RL cL_law 9) (hX : va_X b L xs s s.heap) (hbl : b < s.heap.size) (hbA : ¬ zA g b) {cz sz : Nat} (hcz : cz + 2 ≤ 603072) (hsz : sz + 12 ≤ 7207018) (hstk : l.stackTraces = false) {L28 : Int32 → MU → MU → (Nat → Int64) → (Nat → UInt64) → Prop} (hL28 : ∀ (x5 : Int32) (u v : MU) (o : Nat → Int64) (dd : Nat → UInt64), L28 x5 u v o dd → WM p l e room_1 s m args below meth c g 9 (cz + 2) (sz + 12) Qz 28 [(0, .ref b), (1, .ref (g.2.2.1 0)), (2, .ref (g.2.2.1 117)), (3, .ref (g.2.2.1 131)), (4, .ref (g.2.2.1 132)), (5, .int x5)] [] (u, v, o, dd)) (x5 : Int32) (u v : MU) (o : Nat → Int64) (dd : Nat → UInt64) (h : wb_law_384 xs L L28 x5 u v o dd) : WM p l e room_1 s m args below meth c g 9 cz sz Qz 384 [(0, .ref b), (1, .ref (g.2.2.1 0)), (2, .ref (g.2.2.1 117)), (3, .ref (g.2.2.1 131)), (4, .ref (g.2.2.1 132)), (5, .int x5)] [] (u, v, o, dd) := by
  unfold wb_law_384 at h
  refine zm_aload_n C dL_law_384 rfl 1 rfl ?_
  refine zm_aload_n C dL_law_385 rfl 0 rfl ?_
  refine zm_iload C dL_law_386 5 rfl ?_
  refine zm_iconst (v := 1) C dL_law_388 (by decide) ?_
  refine zm_iadd C dL_law_389 ?_
  obtain ⟨hg_1, h⟩ := h
  refine zm_sld C hX hbl hbA hg_1 dL_law_390 ?_
  refine zm_aload_n C dL_law_391 rfl 0 rfl ?_
  refine zm_iload C dL_law_392 5 rfl ?_
  refine zm_iconst (v := 2) C dL_law_394 (by decide) ?_
  refine zm_iadd C dL_law_395 ?_
  obtain ⟨hg_2, h⟩ := h
  refine zm_sld C hX hbl hbA hg_2 dL_law_396 ?_
  refine zm_if_eq (tgt := 404) C dL_law_397 (by decide) (fun hc_3 => ?_) (fun hc_3 => ?_)
  · have h := h.1 hc_3
    refine zm_iconst (v := 0) C dL_law_404 (by decide) ?_
    exact (zm_sub [0, 1, 2, 3, 4, 5] rfl (vb_law_405 C hX hbl hbA hcz hsz hstk hL28 _ _ _ _ _ _ _ h))
  · have h := h.2 hc_3
    refine zm_iconst (v := 1) C dL_law_400 (by decide) ?_
    refine zm_goto (tgt := 405) C dL_law_401 (by decide) ?_
    exact (zm_sub [0, 1, 2, 3, 4, 5] rfl (vb_law_405 C hX hbl hbA hcz hsz hstk hL28 _ _ _ _ _ _ _ h))
def wb_law_521 (xs : Nat → Int32) (L : Nat) (L28 : Int32 → MU → MU → (Nat → Int64) → (Nat → UInt64) → Prop) (x5 : Int32) (u v : MU) (o : Nat → Int64) (dd : Nat → UInt64) : Prop := wb_law_2328 xs L L28 x5 u v o dd
set_option maxHeartbeats 4000000 in
set_option maxRecDepth 100000 in
theorem vb_law_521 {p : Program} {l : Launch} {e : Env} {s : State} {m : MethodId} {args : Array Value} {below : List Frame} {meth : Method} {c : Code} {g : GE} {Qz : State → Prop} {b L : Nat} {xs : Nat → Int32} (C : zCx p l s m args meth c g RL cL_law 9) (hX : va_X b L xs s s.heap) (hbl : b < s.heap.size) (hbA : ¬ zA g b) {cz sz : Nat} (hcz : cz + 2 ≤ 603072) (hsz : sz + 12 ≤ 7207018) (hstk : l.stackTraces = false) {L28 : Int32 → MU → MU → (Nat → Int64) → (Nat → UInt64) → Prop} (hL28 : ∀ (x5 : Int32) (u v : MU) (o : Nat → Int64) (dd : Nat → UInt64), L28 x5 u v o dd → WM p l e room_1 s m args below meth c g 9 (cz + 2) (sz + 12) Qz 28 [(0, .ref b), (1, .ref (g.2.2.1 0)), (2, .ref (g.2.2.1 117)), (3, .ref (g.2.2.1 131)), (4, .ref (g.2.2.1 132)), (5, .int x5)] [] (u, v, o, dd)) (x5 : Int32) (u v : MU) (o : Nat → Int64) (dd : Nat → UInt64) (h : wb_law_521 xs L L28 x5 u v o dd) : WM p l e room_1 s m args below meth c g 9 (cz + 1) (sz + 6) Qz 521 [(0, .ref b), (1, .ref (g.2.2.1 0)), (2, .ref (g.2.2.1 117)), (3, .ref (g.2.2.1 131)), (4, .ref (g.2.2.1 132)), (5, .int x5)] [] (u, v, o, dd) := by
  unfold wb_law_521 at h
  refine zm_goto (tgt := 2328) C dL_law_521 (by decide) ?_
  exact zm_widen (by omega) (by omega) (zm_sub [0, 1, 2, 3, 4, 5] rfl (vb_law_2328 C hX hbl hbA hcz hsz hstk hL28 _ _ _ _ _ h))
def wb_law_468 (xs : Nat → Int32) (L : Nat) (L28 : Int32 → MU → MU → (Nat → Int64) → (Nat → UInt64) → Prop) (x5 : Int32) (u v : MU) (o : Nat → Int64) (dd : Nat → UInt64) : Prop := vp_in (x5 + (1 : Int32)) L ∧ (w_L_flock (xs ((x5 + (1 : Int32))).toNatClampNeg) u o (fun r_2 u_3 o_4 => vp_in (x5 + (1 : Int32)) L ∧ (w_X10_flock (xs ((x5 + (1 : Int32))).toNatClampNeg) v (fun r_6 u_7 => w_X10_thrown u_7  (fun r_8 => ((r_8 = r_2) → ((¬ r_2 = 0) → wb_law_521 xs L L28 x5 u_3 u_7 o_4 dd) ∧ ((r_2 = 0) → (((lg_cmp (o_4 ((0 : Int32)).toNatClampNeg) r_6.toInt64) = 0) → wb_law_521 xs L L28 x5 u_3 u_7 o_4 dd) ∧ ((¬ (lg_cmp (o_4 ((0 : Int32)).toNatClampNeg) r_6.toInt64) = 0) → False))) ∧ ((¬ r_8 = r_2) → False))))))
set_option maxHeartbeats 4000000 in
set_option maxRecDepth 100000 in
theorem vb_law_468 {p : Program} {l : Launch} {e : Env} {s : State} {m : MethodId} {args : Array Value} {below : List Frame} {meth : Method} {c : Code} {g : GE} {Qz : State → Prop} {b L : Nat} {xs : Nat → Int32} (C : zCx p l s m args meth c g RL cL_law 9) (hX : va_X b L xs s s.heap) (hbl : b < s.heap.size) (hbA : ¬ zA g b) {cz sz : Nat} (hcz : cz + 2 ≤ 603072) (hsz : sz + 12 ≤ 7207018) (hstk : l.stackTraces = false) {L28 : Int32 → MU → MU → (Nat → Int64) → (Nat → UInt64) → Prop} (hL28 : ∀ (x5 : Int32) (u v : MU) (o : Nat → Int64) (dd : Nat → UInt64), L28 x5 u v o dd → WM p l e room_1 s m args below meth c g 9 (cz + 2) (sz + 12) Qz 28 [(0, .ref b), (1, .ref (g.2.2.1 0)), (2, .ref (g.2.2.1 117)), (3, .ref (g.2.2.1 131)), (4, .ref (g.2.2.1 132)), (5, .int x5)] [] (u, v, o, dd)) (x5 : Int32) (u v : MU) (o : Nat → Int64) (dd : Nat → UInt64) (h : wb_law_468 xs L L28 x5 u v o dd) : WM p l e room_1 s m args below meth c g 9 cz sz Qz 468 [(0, .ref b), (1, .ref (g.2.2.1 0)), (2, .ref (g.2.2.1 117)), (3, .ref (g.2.2.1 131)), (4, .ref (g.2.2.1 132)), (5, .int x5)] [] (u, v, o, dd) := by
  unfold wb_law_468 at h
  refine zm_aload_n C dL_law_468 rfl 1 rfl ?_
  refine zm_aload_n C dL_law_469 rfl 0 rfl ?_
  refine zm_iload C dL_law_470 5 rfl ?_
  refine zm_iconst (v := 1) C dL_law_472 (by decide) ?_
  refine zm_iadd C dL_law_473 ?_
  obtain ⟨hg_1, h⟩ := h
  refine zm_sld C hX hbl hbA hg_1 dL_law_474 ?_
  refine zm_aload_n C dL_law_475 rfl 3 rfl ?_
  refine zm_ci (zr_SW (As := [.ref (g.2.2.1 0), .int (xs ((x5 + (1 : Int32))).toNatClampNeg), .ref (g.2.2.1 131)]) (rest := []) C (c_L_flock l hstk g u v o dd (xs ((x5 + (1 : Int32))).toNatClampNeg) h) wd_531 wd_532 wd_0 wd_533 hz_L_flock rfl rfl ⟨by decide, by decide⟩ ⟨(show cz + 1 ≤ 603072 by omega), (show sz + 6 ≤ 7207018 by omega)⟩ rfl rfl (Nat.le_of_ble_eq_true rfl) dL_law_476) (fun r_2 M1 hq => ?_)
  obtain ⟨u_3, o_4, rfl, h⟩ := hq
  refine zm_istore (lv' := [(6, .int r_2), (0, .ref b), (1, .ref (g.2.2.1 0)), (2, .ref (g.2.2.1 117)), (3, .ref (g.2.2.1 131)), (4, .ref (g.2.2.1 132)), (5, .int x5)]) C dL_law_479 (by decide) rfl ?_
  refine zm_aload_n C dL_law_481 rfl 3 rfl ?_
  refine zm_aload_n C dL_law_482 rfl 1 rfl ?_
  refine zm_iload C dL_law_483 6 rfl ?_
  refine zm_iconst (v := 1) C dL_law_485 (by decide) ?_
  refine zm_iadd C dL_law_486 ?_
  obtain ⟨hg_5, h⟩ := h
  refine zm_sld C hX hbl hbA hg_5 dL_law_487 ?_
  refine zm_ci (zr_V (As := [.int (xs ((x5 + (1 : Int32))).toNatClampNeg)]) (rest := []) C (c_X10_flock l g u_3 v (o_4, dd) (xs ((x5 + (1 : Int32))).toNatClampNeg) h) wd_1252 wd_1253 wd_1254 wd_11 wd_1255 hy_X10_flock rfl rfl ⟨by decide, by decide⟩ ⟨(show (cz + 1) + 0 ≤ 603072 by omega), (show (sz + 6) + 0 ≤ 7207018 by omega)⟩ (ci := 10) (by decide) (zCell_k kd_117) rfl rfl rfl rfl (Nat.le_of_ble_eq_true rfl) dL_law_488) (fun r_6 M1 hq => ?_)
  obtain ⟨u_7, rfl, h⟩ := hq
  refine zm_istore (lv' := [(7, .int r_6), (6, .int r_2), (0, .ref b), (1, .ref (g.2.2.1 0)), (2, .ref (g.2.2.1 117)), (3, .ref (g.2.2.1 131)), (4, .ref (g.2.2.1 132)), (5, .int x5)]) C dL_law_491 (by decide) rfl ?_
  refine zm_aload_n C dL_law_493 rfl 4 rfl ?_
  refine zm_ci (zr_V (As := []) (rest := []) C (c_X10_thrown l g u_3 u_7 (o_4, dd)  h) wd_1176 wd_1177 wd_1178 wd_11 wd_1179 hy_X10_thrown rfl rfl ⟨by decide, by decide⟩ ⟨(show (cz + 1) + 0 ≤ 603072 by omega), (show (sz + 6) + 0 ≤ 7207018 by omega)⟩ (ci := 10) (by decide) (zCell_k kd_117) rfl rfl rfl rfl (Nat.le_of_ble_eq_true rfl) dL_law_494) (fun r_8 M1 hq => ?_)
  obtain ⟨rfl, h⟩ := hq
  refine zm_iload C dL_law_497 1 rfl ?_
  refine zm_icmp_eq (tgt := 504) C dL_law_499 (by decide) (fun hc_10 => ?_) (fun hc_10 => ?_)
  · have h := h.1 hc_10
    refine zm_iload C dL_law_504 1 rfl ?_
    refine zm_if_ne (tgt := 521) C dL_law_506 (by decide) (fun hc_11 => ?_) (fun hc_11 => ?_)
    · have h := h.1 hc_11
      exact (zm_sub [2, 3, 4, 5, 6, 7] rfl (vb_law_521 C hX hbl hbA hcz hsz hstk hL28 _ _ _ _ _ h))
    · have h := h.2 hc_11
      refine zm_aload_n C dL_law_509 rfl 5 rfl ?_
      refine zm_iconst (v := 0) C dL_law_510 (by decide) ?_
      refine zm_ldL C zIn01 dL_law_511 ?_
      refine zm_iload C dL_law_512 0 rfl ?_
      refine zm_i2l C dL_law_514 ?_
      refine zm_lcmp C dL_law_515 ?_
      refine zm_if_eq (tgt := 521) C dL_law_516 (by decide) (fun hc_12 => ?_) (fun hc_12 => ?_)
      · have h := h.1 hc_12
        exact (zm_sub [2, 3, 4, 5, 6, 7] rfl (vb_law_521 C hX hbl hbA hcz hsz hstk hL28 _ _ _ _ _ h))
      · have h := h.2 hc_12
        refine zm_iconst (v := 0) C dL_law_519 (by decide) ?_
        exact h.elim
  · have h := h.2 hc_10
    refine zm_iconst (v := 0) C dL_law_502 (by decide) ?_
    exact h.elim
def wb_law_577 (xs : Nat → Int32) (L : Nat) (L28 : Int32 → MU → MU → (Nat → Int64) → (Nat → UInt64) → Prop) (x5 : Int32) (u v : MU) (o : Nat → Int64) (dd : Nat → UInt64) : Prop := wb_law_2328 xs L L28 x5 u v o dd
set_option maxHeartbeats 4000000 in
set_option maxRecDepth 100000 in
theorem vb_law_577 {p : Program} {l : Launch} {e : Env} {s : State} {m : MethodId} {args : Array Value} {below : List Frame} {meth : Method} {c : Code} {g : GE} {Qz : State → Prop} {b L : Nat} {xs : Nat → Int32} (C : zCx p l s m args meth c g RL cL_law 9) (hX : va_X b L xs s s.heap) (hbl : b < s.heap.size) (hbA : ¬ zA g b) {cz sz : Nat} (hcz : cz + 2 ≤ 603072) (hsz : sz + 12 ≤ 7207018) (hstk : l.stackTraces = false) {L28 : Int32 → MU → MU → (Nat → Int64) → (Nat → UInt64) → Prop} (hL28 : ∀ (x5 : Int32) (u v : MU) (o : Nat → Int64) (dd : Nat → UInt64), L28 x5 u v o dd → WM p l e room_1 s m args below meth c g 9 (cz + 2) (sz + 12) Qz 28 [(0, .ref b), (1, .ref (g.2.2.1 0)), (2, .ref (g.2.2.1 117)), (3, .ref (g.2.2.1 131)), (4, .ref (g.2.2.1 132)), (5, .int x5)] [] (u, v, o, dd)) (x5 : Int32) (u v : MU) (o : Nat → Int64) (dd : Nat → UInt64) (h : wb_law_577 xs L L28 x5 u v o dd) : WM p l e room_1 s m args below meth c g 9 (cz + 1) (sz + 6) Qz 577 [(0, .ref b), (1, .ref (g.2.2.1 0)), (2, .ref (g.2.2.1 117)), (3, .ref (g.2.2.1 131)), (4, .ref (g.2.2.1 132)), (5, .int x5)] [] (u, v, o, dd) := by
  unfold wb_law_577 at h
  refine zm_goto (tgt := 2328) C dL_law_577 (by decide) ?_
  exact zm_widen (by omega) (by omega) (zm_sub [0, 1, 2, 3, 4, 5] rfl (vb_law_2328 C hX hbl hbA hcz hsz hstk hL28 _ _ _ _ _ h))
def wb_law_524 (xs : Nat → Int32) (L : Nat) (L28 : Int32 → MU → MU → (Nat → Int64) → (Nat → UInt64) → Prop) (x5 : Int32) (u v : MU) (o : Nat → Int64) (dd : Nat → UInt64) : Prop := vp_in (x5 + (1 : Int32)) L ∧ (w_L_begin (xs ((x5 + (1 : Int32))).toNatClampNeg) u o (fun r_2 u_3 o_4 => vp_in (x5 + (1 : Int32)) L ∧ (w_X10_begin (xs ((x5 + (1 : Int32))).toNatClampNeg) v (fun r_6 u_7 => w_X10_thrown u_7  (fun r_8 => ((r_8 = r_2) → ((¬ r_2 = 0) → wb_law_577 xs L L28 x5 u_3 u_7 o_4 dd) ∧ ((r_2 = 0) → (((lg_cmp (o_4 ((0 : Int32)).toNatClampNeg) r_6.toInt64) = 0) → wb_law_577 xs L L28 x5 u_3 u_7 o_4 dd) ∧ ((¬ (lg_cmp (o_4 ((0 : Int32)).toNatClampNeg) r_6.toInt64) = 0) → False))) ∧ ((¬ r_8 = r_2) → False))))))
set_option maxHeartbeats 4000000 in
set_option maxRecDepth 100000 in
theorem vb_law_524 {p : Program} {l : Launch} {e : Env} {s : State} {m : MethodId} {args : Array Value} {below : List Frame} {meth : Method} {c : Code} {g : GE} {Qz : State → Prop} {b L : Nat} {xs : Nat → Int32} (C : zCx p l s m args meth c g RL cL_law 9) (hX : va_X b L xs s s.heap) (hbl : b < s.heap.size) (hbA : ¬ zA g b) {cz sz : Nat} (hcz : cz + 2 ≤ 603072) (hsz : sz + 12 ≤ 7207018) (hstk : l.stackTraces = false) {L28 : Int32 → MU → MU → (Nat → Int64) → (Nat → UInt64) → Prop} (hL28 : ∀ (x5 : Int32) (u v : MU) (o : Nat → Int64) (dd : Nat → UInt64), L28 x5 u v o dd → WM p l e room_1 s m args below meth c g 9 (cz + 2) (sz + 12) Qz 28 [(0, .ref b), (1, .ref (g.2.2.1 0)), (2, .ref (g.2.2.1 117)), (3, .ref (g.2.2.1 131)), (4, .ref (g.2.2.1 132)), (5, .int x5)] [] (u, v, o, dd)) (x5 : Int32) (u v : MU) (o : Nat → Int64) (dd : Nat → UInt64) (h : wb_law_524 xs L L28 x5 u v o dd) : WM p l e room_1 s m args below meth c g 9 cz sz Qz 524 [(0, .ref b), (1, .ref (g.2.2.1 0)), (2, .ref (g.2.2.1 117)), (3, .ref (g.2.2.1 131)), (4, .ref (g.2.2.1 132)), (5, .int x5)] [] (u, v, o, dd) := by
  unfold wb_law_524 at h
  refine zm_aload_n C dL_law_524 rfl 1 rfl ?_
  refine zm_aload_n C dL_law_525 rfl 0 rfl ?_
  refine zm_iload C dL_law_526 5 rfl ?_
  refine zm_iconst (v := 1) C dL_law_528 (by decide) ?_
  refine zm_iadd C dL_law_529 ?_
  obtain ⟨hg_1, h⟩ := h
  refine zm_sld C hX hbl hbA hg_1 dL_law_530 ?_
  refine zm_aload_n C dL_law_531 rfl 3 rfl ?_
  refine zm_ci (zr_SW (As := [.ref (g.2.2.1 0), .int (xs ((x5 + (1 : Int32))).toNatClampNeg), .ref (g.2.2.1 131)]) (rest := []) C (c_L_begin l hstk g u v o dd (xs ((x5 + (1 : Int32))).toNatClampNeg) h) wd_542 wd_543 wd_0 wd_544 hz_L_begin rfl rfl ⟨by decide, by decide⟩ ⟨(show cz + 1 ≤ 603072 by omega), (show sz + 6 ≤ 7207018 by omega)⟩ rfl rfl (Nat.le_of_ble_eq_true rfl) dL_law_532) (fun r_2 M1 hq => ?_)
  obtain ⟨u_3, o_4, rfl, h⟩ := hq
  refine zm_istore (lv' := [(6, .int r_2), (0, .ref b), (1, .ref (g.2.2.1 0)), (2, .ref (g.2.2.1 117)), (3, .ref (g.2.2.1 131)), (4, .ref (g.2.2.1 132)), (5, .int x5)]) C dL_law_535 (by decide) rfl ?_
  refine zm_aload_n C dL_law_537 rfl 3 rfl ?_
  refine zm_aload_n C dL_law_538 rfl 1 rfl ?_
  refine zm_iload C dL_law_539 6 rfl ?_
  refine zm_iconst (v := 1) C dL_law_541 (by decide) ?_
  refine zm_iadd C dL_law_542 ?_
  obtain ⟨hg_5, h⟩ := h
  refine zm_sld C hX hbl hbA hg_5 dL_law_543 ?_
  refine zm_ci (zr_V (As := [.int (xs ((x5 + (1 : Int32))).toNatClampNeg)]) (rest := []) C (c_X10_begin l g u_3 v (o_4, dd) (xs ((x5 + (1 : Int32))).toNatClampNeg) h) wd_1260 wd_1261 wd_1262 wd_11 wd_1263 hy_X10_begin rfl rfl ⟨by decide, by decide⟩ ⟨(show (cz + 1) + 0 ≤ 603072 by omega), (show (sz + 6) + 0 ≤ 7207018 by omega)⟩ (ci := 10) (by decide) (zCell_k kd_117) rfl rfl rfl rfl (Nat.le_of_ble_eq_true rfl) dL_law_544) (fun r_6 M1 hq => ?_)
  obtain ⟨u_7, rfl, h⟩ := hq
  refine zm_istore (lv' := [(7, .int r_6), (6, .int r_2), (0, .ref b), (1, .ref (g.2.2.1 0)), (2, .ref (g.2.2.1 117)), (3, .ref (g.2.2.1 131)), (4, .ref (g.2.2.1 132)), (5, .int x5)]) C dL_law_547 (by decide) rfl ?_
  refine zm_aload_n C dL_law_549 rfl 4 rfl ?_
  refine zm_ci (zr_V (As := []) (rest := []) C (c_X10_thrown l g u_3 u_7 (o_4, dd)  h) wd_1176 wd_1177 wd_1178 wd_11 wd_1179 hy_X10_thrown rfl rfl ⟨by decide, by decide⟩ ⟨(show (cz + 1) + 0 ≤ 603072 by omega), (show (sz + 6) + 0 ≤ 7207018 by omega)⟩ (ci := 10) (by decide) (zCell_k kd_117) rfl rfl rfl rfl (Nat.le_of_ble_eq_true rfl) dL_law_550) (fun r_8 M1 hq => ?_)
  obtain ⟨rfl, h⟩ := hq
  refine zm_iload C dL_law_553 1 rfl ?_
  refine zm_icmp_eq (tgt := 560) C dL_law_555 (by decide) (fun hc_10 => ?_) (fun hc_10 => ?_)
  · have h := h.1 hc_10
    refine zm_iload C dL_law_560 1 rfl ?_
    refine zm_if_ne (tgt := 577) C dL_law_562 (by decide) (fun hc_11 => ?_) (fun hc_11 => ?_)
    · have h := h.1 hc_11
      exact (zm_sub [2, 3, 4, 5, 6, 7] rfl (vb_law_577 C hX hbl hbA hcz hsz hstk hL28 _ _ _ _ _ h))
    · have h := h.2 hc_11
      refine zm_aload_n C dL_law_565 rfl 5 rfl ?_
      refine zm_iconst (v := 0) C dL_law_566 (by decide) ?_
      refine zm_ldL C zIn01 dL_law_567 ?_
      refine zm_iload C dL_law_568 0 rfl ?_
      refine zm_i2l C dL_law_570 ?_
      refine zm_lcmp C dL_law_571 ?_
      refine zm_if_eq (tgt := 577) C dL_law_572 (by decide) (fun hc_12 => ?_) (fun hc_12 => ?_)
      · have h := h.1 hc_12
        exact (zm_sub [2, 3, 4, 5, 6, 7] rfl (vb_law_577 C hX hbl hbA hcz hsz hstk hL28 _ _ _ _ _ h))
      · have h := h.2 hc_12
        refine zm_iconst (v := 0) C dL_law_575 (by decide) ?_
        exact h.elim
  · have h := h.2 hc_10
    refine zm_iconst (v := 0) C dL_law_558 (by decide) ?_
    exact h.elim
def wb_law_645 (xs : Nat → Int32) (L : Nat) (L28 : Int32 → MU → MU → (Nat → Int64) → (Nat → UInt64) → Prop) (x5 : Int32) (u v : MU) (o : Nat → Int64) (dd : Nat → UInt64) : Prop := wb_law_2328 xs L L28 x5 u v o dd
set_option maxHeartbeats 4000000 in
set_option maxRecDepth 100000 in
theorem vb_law_645 {p : Program} {l : Launch} {e : Env} {s : State} {m : MethodId} {args : Array Value} {below : List Frame} {meth : Method} {c : Code} {g : GE} {Qz : State → Prop} {b L : Nat} {xs : Nat → Int32} (C : zCx p l s m args meth c g RL cL_law 9) (hX : va_X b L xs s s.heap) (hbl : b < s.heap.size) (hbA : ¬ zA g b) {cz sz : Nat} (hcz : cz + 2 ≤ 603072) (hsz : sz + 12 ≤ 7207018) (hstk : l.stackTraces = false) {L28 : Int32 → MU → MU → (Nat → Int64) → (Nat → UInt64) → Prop} (hL28 : ∀ (x5 : Int32) (u v : MU) (o : Nat → Int64) (dd : Nat → UInt64), L28 x5 u v o dd → WM p l e room_1 s m args below meth c g 9 (cz + 2) (sz + 12) Qz 28 [(0, .ref b), (1, .ref (g.2.2.1 0)), (2, .ref (g.2.2.1 117)), (3, .ref (g.2.2.1 131)), (4, .ref (g.2.2.1 132)), (5, .int x5)] [] (u, v, o, dd)) (x5 : Int32) (u v : MU) (o : Nat → Int64) (dd : Nat → UInt64) (h : wb_law_645 xs L L28 x5 u v o dd) : WM p l e room_1 s m args below meth c g 9 (cz + 1) (sz + 6) Qz 645 [(0, .ref b), (1, .ref (g.2.2.1 0)), (2, .ref (g.2.2.1 117)), (3, .ref (g.2.2.1 131)), (4, .ref (g.2.2.1 132)), (5, .int x5)] [] (u, v, o, dd) := by
  unfold wb_law_645 at h
  refine zm_goto (tgt := 2328) C dL_law_645 (by decide) ?_
  exact zm_widen (by omega) (by omega) (zm_sub [0, 1, 2, 3, 4, 5] rfl (vb_law_2328 C hX hbl hbA hcz hsz hstk hL28 _ _ _ _ _ h))
def wb_law_580 (xs : Nat → Int32) (L : Nat) (L28 : Int32 → MU → MU → (Nat → Int64) → (Nat → UInt64) → Prop) (x5 : Int32) (u v : MU) (o : Nat → Int64) (dd : Nat → UInt64) : Prop := vp_in (x5 + (1 : Int32)) L ∧ (vp_in (x5 + (2 : Int32)) L ∧ (w_L_move (xs ((x5 + (1 : Int32))).toNatClampNeg) (xs ((x5 + (2 : Int32))).toNatClampNeg) u o (fun r_3 u_4 o_5 => vp_in (x5 + (1 : Int32)) L ∧ (vp_in (x5 + (2 : Int32)) L ∧ (w_X10_move (xs ((x5 + (1 : Int32))).toNatClampNeg) (xs ((x5 + (2 : Int32))).toNatClampNeg) v (fun r_8 u_9 => w_X10_thrown u_9  (fun r_10 => ((r_10 = r_3) → ((¬ r_3 = 0) → wb_law_645 xs L L28 x5 u_4 u_9 o_5 dd) ∧ ((r_3 = 0) → (((lg_cmp (o_5 ((0 : Int32)).toNatClampNeg) r_8.toInt64) = 0) → wb_law_645 xs L L28 x5 u_4 u_9 o_5 dd) ∧ ((¬ (lg_cmp (o_5 ((0 : Int32)).toNatClampNeg) r_8.toInt64) = 0) → False))) ∧ ((¬ r_10 = r_3) → False))))))))
set_option maxHeartbeats 4000000 in
set_option maxRecDepth 100000 in
theorem vb_law_580 {p : Program} {l : Launch} {e : Env} {s : State} {m : MethodId} {args : Array Value} {below : List Frame} {meth : Method} {c : Code} {g : GE} {Qz : State → Prop} {b L : Nat} {xs : Nat → Int32} (C : zCx p l s m args meth c g RL cL_law 9) (hX : va_X b L xs s s.heap) (hbl : b < s.heap.size) (hbA : ¬ zA g b) {cz sz : Nat} (hcz : cz + 2 ≤ 603072) (hsz : sz + 12 ≤ 7207018) (hstk : l.stackTraces = false) {L28 : Int32 → MU → MU → (Nat → Int64) → (Nat → UInt64) → Prop} (hL28 : ∀ (x5 : Int32) (u v : MU) (o : Nat → Int64) (dd : Nat → UInt64), L28 x5 u v o dd → WM p l e room_1 s m args below meth c g 9 (cz + 2) (sz + 12) Qz 28 [(0, .ref b), (1, .ref (g.2.2.1 0)), (2, .ref (g.2.2.1 117)), (3, .ref (g.2.2.1 131)), (4, .ref (g.2.2.1 132)), (5, .int x5)] [] (u, v, o, dd)) (x5 : Int32) (u v : MU) (o : Nat → Int64) (dd : Nat → UInt64) (h : wb_law_580 xs L L28 x5 u v o dd) : WM p l e room_1 s m args below meth c g 9 cz sz Qz 580 [(0, .ref b), (1, .ref (g.2.2.1 0)), (2, .ref (g.2.2.1 117)), (3, .ref (g.2.2.1 131)), (4, .ref (g.2.2.1 132)), (5, .int x5)] [] (u, v, o, dd) := by
  unfold wb_law_580 at h
  refine zm_aload_n C dL_law_580 rfl 1 rfl ?_
  refine zm_aload_n C dL_law_581 rfl 0 rfl ?_
  refine zm_iload C dL_law_582 5 rfl ?_
  refine zm_iconst (v := 1) C dL_law_584 (by decide) ?_
  refine zm_iadd C dL_law_585 ?_
  obtain ⟨hg_1, h⟩ := h
  refine zm_sld C hX hbl hbA hg_1 dL_law_586 ?_
  refine zm_aload_n C dL_law_587 rfl 0 rfl ?_
  refine zm_iload C dL_law_588 5 rfl ?_
  refine zm_iconst (v := 2) C dL_law_590 (by decide) ?_
  refine zm_iadd C dL_law_591 ?_
  obtain ⟨hg_2, h⟩ := h
  refine zm_sld C hX hbl hbA hg_2 dL_law_592 ?_
  refine zm_aload_n C dL_law_593 rfl 3 rfl ?_
  refine zm_ci (zr_SW (As := [.ref (g.2.2.1 0), .int (xs ((x5 + (1 : Int32))).toNatClampNeg), .int (xs ((x5 + (2 : Int32))).toNatClampNeg), .ref (g.2.2.1 131)]) (rest := []) C (c_L_move l hstk g u v o dd (xs ((x5 + (1 : Int32))).toNatClampNeg) (xs ((x5 + (2 : Int32))).toNatClampNeg) h) wd_598 wd_599 wd_0 wd_600 hz_L_move rfl rfl ⟨by decide, by decide⟩ ⟨(show cz + 1 ≤ 603072 by omega), (show sz + 6 ≤ 7207018 by omega)⟩ rfl rfl (Nat.le_of_ble_eq_true rfl) dL_law_594) (fun r_3 M1 hq => ?_)
  obtain ⟨u_4, o_5, rfl, h⟩ := hq
  refine zm_istore (lv' := [(6, .int r_3), (0, .ref b), (1, .ref (g.2.2.1 0)), (2, .ref (g.2.2.1 117)), (3, .ref (g.2.2.1 131)), (4, .ref (g.2.2.1 132)), (5, .int x5)]) C dL_law_597 (by decide) rfl ?_
  refine zm_aload_n C dL_law_599 rfl 3 rfl ?_
  refine zm_aload_n C dL_law_600 rfl 1 rfl ?_
  refine zm_iload C dL_law_601 6 rfl ?_
  refine zm_iconst (v := 1) C dL_law_603 (by decide) ?_
  refine zm_iadd C dL_law_604 ?_
  obtain ⟨hg_6, h⟩ := h
  refine zm_sld C hX hbl hbA hg_6 dL_law_605 ?_
  refine zm_aload_n C dL_law_606 rfl 1 rfl ?_
  refine zm_iload C dL_law_607 6 rfl ?_
  refine zm_iconst (v := 2) C dL_law_609 (by decide) ?_
  refine zm_iadd C dL_law_610 ?_
  obtain ⟨hg_7, h⟩ := h
  refine zm_sld C hX hbl hbA hg_7 dL_law_611 ?_
  refine zm_ci (zr_V (As := [.int (xs ((x5 + (1 : Int32))).toNatClampNeg), .int (xs ((x5 + (2 : Int32))).toNatClampNeg)]) (rest := []) C (c_X10_move l g u_4 v (o_5, dd) (xs ((x5 + (1 : Int32))).toNatClampNeg) (xs ((x5 + (2 : Int32))).toNatClampNeg) h) wd_1300 wd_1301 wd_1302 wd_11 wd_1303 hy_X10_move rfl rfl ⟨by decide, by decide⟩ ⟨(show (cz + 1) + 0 ≤ 603072 by omega), (show (sz + 6) + 0 ≤ 7207018 by omega)⟩ (ci := 10) (by decide) (zCell_k kd_117) rfl rfl rfl rfl (Nat.le_of_ble_eq_true rfl) dL_law_612) (fun r_8 M1 hq => ?_)
  obtain ⟨u_9, rfl, h⟩ := hq
  refine zm_istore (lv' := [(7, .int r_8), (6, .int r_3), (0, .ref b), (1, .ref (g.2.2.1 0)), (2, .ref (g.2.2.1 117)), (3, .ref (g.2.2.1 131)), (4, .ref (g.2.2.1 132)), (5, .int x5)]) C dL_law_615 (by decide) rfl ?_
  refine zm_aload_n C dL_law_617 rfl 4 rfl ?_
  refine zm_ci (zr_V (As := []) (rest := []) C (c_X10_thrown l g u_4 u_9 (o_5, dd)  h) wd_1176 wd_1177 wd_1178 wd_11 wd_1179 hy_X10_thrown rfl rfl ⟨by decide, by decide⟩ ⟨(show (cz + 1) + 0 ≤ 603072 by omega), (show (sz + 6) + 0 ≤ 7207018 by omega)⟩ (ci := 10) (by decide) (zCell_k kd_117) rfl rfl rfl rfl (Nat.le_of_ble_eq_true rfl) dL_law_618) (fun r_10 M1 hq => ?_)
  obtain ⟨rfl, h⟩ := hq
  refine zm_iload C dL_law_621 1 rfl ?_
  refine zm_icmp_eq (tgt := 628) C dL_law_623 (by decide) (fun hc_12 => ?_) (fun hc_12 => ?_)
  · have h := h.1 hc_12
    refine zm_iload C dL_law_628 1 rfl ?_
    refine zm_if_ne (tgt := 645) C dL_law_630 (by decide) (fun hc_13 => ?_) (fun hc_13 => ?_)
    · have h := h.1 hc_13
      exact (zm_sub [2, 3, 4, 5, 6, 7] rfl (vb_law_645 C hX hbl hbA hcz hsz hstk hL28 _ _ _ _ _ h))
    · have h := h.2 hc_13
      refine zm_aload_n C dL_law_633 rfl 5 rfl ?_
      refine zm_iconst (v := 0) C dL_law_634 (by decide) ?_
      refine zm_ldL C zIn01 dL_law_635 ?_
      refine zm_iload C dL_law_636 0 rfl ?_
      refine zm_i2l C dL_law_638 ?_
      refine zm_lcmp C dL_law_639 ?_
      refine zm_if_eq (tgt := 645) C dL_law_640 (by decide) (fun hc_14 => ?_) (fun hc_14 => ?_)
      · have h := h.1 hc_14
        exact (zm_sub [2, 3, 4, 5, 6, 7] rfl (vb_law_645 C hX hbl hbA hcz hsz hstk hL28 _ _ _ _ _ h))
      · have h := h.2 hc_14
        refine zm_iconst (v := 0) C dL_law_643 (by decide) ?_
        exact h.elim
  · have h := h.2 hc_12
    refine zm_iconst (v := 0) C dL_law_626 (by decide) ?_
    exact h.elim
def wb_law_701 (xs : Nat → Int32) (L : Nat) (L28 : Int32 → MU → MU → (Nat → Int64) → (Nat → UInt64) → Prop) (x5 : Int32) (u v : MU) (o : Nat → Int64) (dd : Nat → UInt64) : Prop := wb_law_2328 xs L L28 x5 u v o dd
set_option maxHeartbeats 4000000 in
set_option maxRecDepth 100000 in
theorem vb_law_701 {p : Program} {l : Launch} {e : Env} {s : State} {m : MethodId} {args : Array Value} {below : List Frame} {meth : Method} {c : Code} {g : GE} {Qz : State → Prop} {b L : Nat} {xs : Nat → Int32} (C : zCx p l s m args meth c g RL cL_law 9) (hX : va_X b L xs s s.heap) (hbl : b < s.heap.size) (hbA : ¬ zA g b) {cz sz : Nat} (hcz : cz + 2 ≤ 603072) (hsz : sz + 12 ≤ 7207018) (hstk : l.stackTraces = false) {L28 : Int32 → MU → MU → (Nat → Int64) → (Nat → UInt64) → Prop} (hL28 : ∀ (x5 : Int32) (u v : MU) (o : Nat → Int64) (dd : Nat → UInt64), L28 x5 u v o dd → WM p l e room_1 s m args below meth c g 9 (cz + 2) (sz + 12) Qz 28 [(0, .ref b), (1, .ref (g.2.2.1 0)), (2, .ref (g.2.2.1 117)), (3, .ref (g.2.2.1 131)), (4, .ref (g.2.2.1 132)), (5, .int x5)] [] (u, v, o, dd)) (x5 : Int32) (u v : MU) (o : Nat → Int64) (dd : Nat → UInt64) (h : wb_law_701 xs L L28 x5 u v o dd) : WM p l e room_1 s m args below meth c g 9 (cz + 1) (sz + 6) Qz 701 [(0, .ref b), (1, .ref (g.2.2.1 0)), (2, .ref (g.2.2.1 117)), (3, .ref (g.2.2.1 131)), (4, .ref (g.2.2.1 132)), (5, .int x5)] [] (u, v, o, dd) := by
  unfold wb_law_701 at h
  refine zm_goto (tgt := 2328) C dL_law_701 (by decide) ?_
  exact zm_widen (by omega) (by omega) (zm_sub [0, 1, 2, 3, 4, 5] rfl (vb_law_2328 C hX hbl hbA hcz hsz hstk hL28 _ _ _ _ _ h))
def wb_law_648 (xs : Nat → Int32) (L : Nat) (L28 : Int32 → MU → MU → (Nat → Int64) → (Nat → UInt64) → Prop) (x5 : Int32) (u v : MU) (o : Nat → Int64) (dd : Nat → UInt64) : Prop := vp_in (x5 + (1 : Int32)) L ∧ (w_L_play (xs ((x5 + (1 : Int32))).toNatClampNeg) u o (fun r_2 u_3 o_4 => vp_in (x5 + (1 : Int32)) L ∧ (w_X10_play (xs ((x5 + (1 : Int32))).toNatClampNeg) v (fun r_6 u_7 => w_X10_thrown u_7  (fun r_8 => ((r_8 = r_2) → ((¬ r_2 = 0) → wb_law_701 xs L L28 x5 u_3 u_7 o_4 dd) ∧ ((r_2 = 0) → (((lg_cmp (o_4 ((0 : Int32)).toNatClampNeg) r_6.toInt64) = 0) → wb_law_701 xs L L28 x5 u_3 u_7 o_4 dd) ∧ ((¬ (lg_cmp (o_4 ((0 : Int32)).toNatClampNeg) r_6.toInt64) = 0) → False))) ∧ ((¬ r_8 = r_2) → False))))))
set_option maxHeartbeats 4000000 in
set_option maxRecDepth 100000 in
theorem vb_law_648 {p : Program} {l : Launch} {e : Env} {s : State} {m : MethodId} {args : Array Value} {below : List Frame} {meth : Method} {c : Code} {g : GE} {Qz : State → Prop} {b L : Nat} {xs : Nat → Int32} (C : zCx p l s m args meth c g RL cL_law 9) (hX : va_X b L xs s s.heap) (hbl : b < s.heap.size) (hbA : ¬ zA g b) {cz sz : Nat} (hcz : cz + 2 ≤ 603072) (hsz : sz + 12 ≤ 7207018) (hstk : l.stackTraces = false) {L28 : Int32 → MU → MU → (Nat → Int64) → (Nat → UInt64) → Prop} (hL28 : ∀ (x5 : Int32) (u v : MU) (o : Nat → Int64) (dd : Nat → UInt64), L28 x5 u v o dd → WM p l e room_1 s m args below meth c g 9 (cz + 2) (sz + 12) Qz 28 [(0, .ref b), (1, .ref (g.2.2.1 0)), (2, .ref (g.2.2.1 117)), (3, .ref (g.2.2.1 131)), (4, .ref (g.2.2.1 132)), (5, .int x5)] [] (u, v, o, dd)) (x5 : Int32) (u v : MU) (o : Nat → Int64) (dd : Nat → UInt64) (h : wb_law_648 xs L L28 x5 u v o dd) : WM p l e room_1 s m args below meth c g 9 cz sz Qz 648 [(0, .ref b), (1, .ref (g.2.2.1 0)), (2, .ref (g.2.2.1 117)), (3, .ref (g.2.2.1 131)), (4, .ref (g.2.2.1 132)), (5, .int x5)] [] (u, v, o, dd) := by
  unfold wb_law_648 at h
  refine zm_aload_n C dL_law_648 rfl 1 rfl ?_
  refine zm_aload_n C dL_law_649 rfl 0 rfl ?_
  refine zm_iload C dL_law_650 5 rfl ?_
  refine zm_iconst (v := 1) C dL_law_652 (by decide) ?_
  refine zm_iadd C dL_law_653 ?_
  obtain ⟨hg_1, h⟩ := h
  refine zm_sld C hX hbl hbA hg_1 dL_law_654 ?_
  refine zm_aload_n C dL_law_655 rfl 3 rfl ?_
  refine zm_ci (zr_SW (As := [.ref (g.2.2.1 0), .int (xs ((x5 + (1 : Int32))).toNatClampNeg), .ref (g.2.2.1 131)]) (rest := []) C (c_L_play l hstk g u v o dd (xs ((x5 + (1 : Int32))).toNatClampNeg) h) wd_639 wd_640 wd_0 wd_641 hz_L_play rfl rfl ⟨by decide, by decide⟩ ⟨(show cz + 1 ≤ 603072 by omega), (show sz + 6 ≤ 7207018 by omega)⟩ rfl rfl (Nat.le_of_ble_eq_true rfl) dL_law_656) (fun r_2 M1 hq => ?_)
  obtain ⟨u_3, o_4, rfl, h⟩ := hq
  refine zm_istore (lv' := [(6, .int r_2), (0, .ref b), (1, .ref (g.2.2.1 0)), (2, .ref (g.2.2.1 117)), (3, .ref (g.2.2.1 131)), (4, .ref (g.2.2.1 132)), (5, .int x5)]) C dL_law_659 (by decide) rfl ?_
  refine zm_aload_n C dL_law_661 rfl 3 rfl ?_
  refine zm_aload_n C dL_law_662 rfl 1 rfl ?_
  refine zm_iload C dL_law_663 6 rfl ?_
  refine zm_iconst (v := 1) C dL_law_665 (by decide) ?_
  refine zm_iadd C dL_law_666 ?_
  obtain ⟨hg_5, h⟩ := h
  refine zm_sld C hX hbl hbA hg_5 dL_law_667 ?_
  refine zm_ci (zr_V (As := [.int (xs ((x5 + (1 : Int32))).toNatClampNeg)]) (rest := []) C (c_X10_play l g u_3 v (o_4, dd) (xs ((x5 + (1 : Int32))).toNatClampNeg) h) wd_1320 wd_1321 wd_1322 wd_11 wd_1323 hy_X10_play rfl rfl ⟨by decide, by decide⟩ ⟨(show (cz + 1) + 0 ≤ 603072 by omega), (show (sz + 6) + 0 ≤ 7207018 by omega)⟩ (ci := 10) (by decide) (zCell_k kd_117) rfl rfl rfl rfl (Nat.le_of_ble_eq_true rfl) dL_law_668) (fun r_6 M1 hq => ?_)
  obtain ⟨u_7, rfl, h⟩ := hq
  refine zm_istore (lv' := [(7, .int r_6), (6, .int r_2), (0, .ref b), (1, .ref (g.2.2.1 0)), (2, .ref (g.2.2.1 117)), (3, .ref (g.2.2.1 131)), (4, .ref (g.2.2.1 132)), (5, .int x5)]) C dL_law_671 (by decide) rfl ?_
  refine zm_aload_n C dL_law_673 rfl 4 rfl ?_
  refine zm_ci (zr_V (As := []) (rest := []) C (c_X10_thrown l g u_3 u_7 (o_4, dd)  h) wd_1176 wd_1177 wd_1178 wd_11 wd_1179 hy_X10_thrown rfl rfl ⟨by decide, by decide⟩ ⟨(show (cz + 1) + 0 ≤ 603072 by omega), (show (sz + 6) + 0 ≤ 7207018 by omega)⟩ (ci := 10) (by decide) (zCell_k kd_117) rfl rfl rfl rfl (Nat.le_of_ble_eq_true rfl) dL_law_674) (fun r_8 M1 hq => ?_)
  obtain ⟨rfl, h⟩ := hq
  refine zm_iload C dL_law_677 1 rfl ?_
  refine zm_icmp_eq (tgt := 684) C dL_law_679 (by decide) (fun hc_10 => ?_) (fun hc_10 => ?_)
  · have h := h.1 hc_10
    refine zm_iload C dL_law_684 1 rfl ?_
    refine zm_if_ne (tgt := 701) C dL_law_686 (by decide) (fun hc_11 => ?_) (fun hc_11 => ?_)
    · have h := h.1 hc_11
      exact (zm_sub [2, 3, 4, 5, 6, 7] rfl (vb_law_701 C hX hbl hbA hcz hsz hstk hL28 _ _ _ _ _ h))
    · have h := h.2 hc_11
      refine zm_aload_n C dL_law_689 rfl 5 rfl ?_
      refine zm_iconst (v := 0) C dL_law_690 (by decide) ?_
      refine zm_ldL C zIn01 dL_law_691 ?_
      refine zm_iload C dL_law_692 0 rfl ?_
      refine zm_i2l C dL_law_694 ?_
      refine zm_lcmp C dL_law_695 ?_
      refine zm_if_eq (tgt := 701) C dL_law_696 (by decide) (fun hc_12 => ?_) (fun hc_12 => ?_)
      · have h := h.1 hc_12
        exact (zm_sub [2, 3, 4, 5, 6, 7] rfl (vb_law_701 C hX hbl hbA hcz hsz hstk hL28 _ _ _ _ _ h))
      · have h := h.2 hc_12
        refine zm_iconst (v := 0) C dL_law_699 (by decide) ?_
        exact h.elim
  · have h := h.2 hc_10
    refine zm_iconst (v := 0) C dL_law_682 (by decide) ?_
    exact h.elim
def wb_law_745 (xs : Nat → Int32) (L : Nat) (L28 : Int32 → MU → MU → (Nat → Int64) → (Nat → UInt64) → Prop) (x5 : Int32) (u v : MU) (o : Nat → Int64) (dd : Nat → UInt64) : Prop := wb_law_2328 xs L L28 x5 u v o dd
set_option maxHeartbeats 4000000 in
set_option maxRecDepth 100000 in
theorem vb_law_745 {p : Program} {l : Launch} {e : Env} {s : State} {m : MethodId} {args : Array Value} {below : List Frame} {meth : Method} {c : Code} {g : GE} {Qz : State → Prop} {b L : Nat} {xs : Nat → Int32} (C : zCx p l s m args meth c g RL cL_law 9) (hX : va_X b L xs s s.heap) (hbl : b < s.heap.size) (hbA : ¬ zA g b) {cz sz : Nat} (hcz : cz + 2 ≤ 603072) (hsz : sz + 12 ≤ 7207018) (hstk : l.stackTraces = false) {L28 : Int32 → MU → MU → (Nat → Int64) → (Nat → UInt64) → Prop} (hL28 : ∀ (x5 : Int32) (u v : MU) (o : Nat → Int64) (dd : Nat → UInt64), L28 x5 u v o dd → WM p l e room_1 s m args below meth c g 9 (cz + 2) (sz + 12) Qz 28 [(0, .ref b), (1, .ref (g.2.2.1 0)), (2, .ref (g.2.2.1 117)), (3, .ref (g.2.2.1 131)), (4, .ref (g.2.2.1 132)), (5, .int x5)] [] (u, v, o, dd)) (x5 : Int32) (u v : MU) (o : Nat → Int64) (dd : Nat → UInt64) (h : wb_law_745 xs L L28 x5 u v o dd) : WM p l e room_1 s m args below meth c g 9 (cz + 1) (sz + 6) Qz 745 [(0, .ref b), (1, .ref (g.2.2.1 0)), (2, .ref (g.2.2.1 117)), (3, .ref (g.2.2.1 131)), (4, .ref (g.2.2.1 132)), (5, .int x5)] [] (u, v, o, dd) := by
  unfold wb_law_745 at h
  refine zm_goto (tgt := 2328) C dL_law_745 (by decide) ?_
  exact zm_widen (by omega) (by omega) (zm_sub [0, 1, 2, 3, 4, 5] rfl (vb_law_2328 C hX hbl hbA hcz hsz hstk hL28 _ _ _ _ _ h))
def wb_law_704 (xs : Nat → Int32) (L : Nat) (L28 : Int32 → MU → MU → (Nat → Int64) → (Nat → UInt64) → Prop) (x5 : Int32) (u v : MU) (o : Nat → Int64) (dd : Nat → UInt64) : Prop := w_L_back  u o (fun r_1 u_2 o_3 => w_X10_back  v (fun r_4 u_5 => w_X10_thrown u_5  (fun r_6 => ((r_6 = r_1) → ((¬ r_1 = 0) → wb_law_745 xs L L28 x5 u_2 u_5 o_3 dd) ∧ ((r_1 = 0) → (((lg_cmp (o_3 ((0 : Int32)).toNatClampNeg) r_4.toInt64) = 0) → wb_law_745 xs L L28 x5 u_2 u_5 o_3 dd) ∧ ((¬ (lg_cmp (o_3 ((0 : Int32)).toNatClampNeg) r_4.toInt64) = 0) → False))) ∧ ((¬ r_6 = r_1) → False))))
set_option maxHeartbeats 4000000 in
set_option maxRecDepth 100000 in
theorem vb_law_704 {p : Program} {l : Launch} {e : Env} {s : State} {m : MethodId} {args : Array Value} {below : List Frame} {meth : Method} {c : Code} {g : GE} {Qz : State → Prop} {b L : Nat} {xs : Nat → Int32} (C : zCx p l s m args meth c g RL cL_law 9) (hX : va_X b L xs s s.heap) (hbl : b < s.heap.size) (hbA : ¬ zA g b) {cz sz : Nat} (hcz : cz + 2 ≤ 603072) (hsz : sz + 12 ≤ 7207018) (hstk : l.stackTraces = false) {L28 : Int32 → MU → MU → (Nat → Int64) → (Nat → UInt64) → Prop} (hL28 : ∀ (x5 : Int32) (u v : MU) (o : Nat → Int64) (dd : Nat → UInt64), L28 x5 u v o dd → WM p l e room_1 s m args below meth c g 9 (cz + 2) (sz + 12) Qz 28 [(0, .ref b), (1, .ref (g.2.2.1 0)), (2, .ref (g.2.2.1 117)), (3, .ref (g.2.2.1 131)), (4, .ref (g.2.2.1 132)), (5, .int x5)] [] (u, v, o, dd)) (x5 : Int32) (u v : MU) (o : Nat → Int64) (dd : Nat → UInt64) (h : wb_law_704 xs L L28 x5 u v o dd) : WM p l e room_1 s m args below meth c g 9 cz sz Qz 704 [(0, .ref b), (1, .ref (g.2.2.1 0)), (2, .ref (g.2.2.1 117)), (3, .ref (g.2.2.1 131)), (4, .ref (g.2.2.1 132)), (5, .int x5)] [] (u, v, o, dd) := by
  unfold wb_law_704 at h
  refine zm_aload_n C dL_law_704 rfl 1 rfl ?_
  refine zm_aload_n C dL_law_705 rfl 3 rfl ?_
  refine zm_ci (zr_SW (As := [.ref (g.2.2.1 0), .ref (g.2.2.1 131)]) (rest := []) C (c_L_back l hstk g u v o dd  h) wd_692 wd_693 wd_0 wd_694 hz_L_back rfl rfl ⟨by decide, by decide⟩ ⟨(show cz + 1 ≤ 603072 by omega), (show sz + 6 ≤ 7207018 by omega)⟩ rfl rfl (Nat.le_of_ble_eq_true rfl) dL_law_706) (fun r_1 M1 hq => ?_)
  obtain ⟨u_2, o_3, rfl, h⟩ := hq
  refine zm_istore (lv' := [(6, .int r_1), (0, .ref b), (1, .ref (g.2.2.1 0)), (2, .ref (g.2.2.1 117)), (3, .ref (g.2.2.1 131)), (4, .ref (g.2.2.1 132)), (5, .int x5)]) C dL_law_709 (by decide) rfl ?_
  refine zm_aload_n C dL_law_711 rfl 3 rfl ?_
  refine zm_ci (zr_V (As := []) (rest := []) C (c_X10_back l g u_2 v (o_3, dd)  h) wd_1336 wd_1337 wd_1338 wd_11 wd_1339 hy_X10_back rfl rfl ⟨by decide, by decide⟩ ⟨(show (cz + 1) + 0 ≤ 603072 by omega), (show (sz + 6) + 0 ≤ 7207018 by omega)⟩ (ci := 10) (by decide) (zCell_k kd_117) rfl rfl rfl rfl (Nat.le_of_ble_eq_true rfl) dL_law_712) (fun r_4 M1 hq => ?_)
  obtain ⟨u_5, rfl, h⟩ := hq
  refine zm_istore (lv' := [(7, .int r_4), (6, .int r_1), (0, .ref b), (1, .ref (g.2.2.1 0)), (2, .ref (g.2.2.1 117)), (3, .ref (g.2.2.1 131)), (4, .ref (g.2.2.1 132)), (5, .int x5)]) C dL_law_715 (by decide) rfl ?_
  refine zm_aload_n C dL_law_717 rfl 4 rfl ?_
  refine zm_ci (zr_V (As := []) (rest := []) C (c_X10_thrown l g u_2 u_5 (o_3, dd)  h) wd_1176 wd_1177 wd_1178 wd_11 wd_1179 hy_X10_thrown rfl rfl ⟨by decide, by decide⟩ ⟨(show (cz + 1) + 0 ≤ 603072 by omega), (show (sz + 6) + 0 ≤ 7207018 by omega)⟩ (ci := 10) (by decide) (zCell_k kd_117) rfl rfl rfl rfl (Nat.le_of_ble_eq_true rfl) dL_law_718) (fun r_6 M1 hq => ?_)
  obtain ⟨rfl, h⟩ := hq
  refine zm_iload C dL_law_721 1 rfl ?_
  refine zm_icmp_eq (tgt := 728) C dL_law_723 (by decide) (fun hc_8 => ?_) (fun hc_8 => ?_)
  · have h := h.1 hc_8
    refine zm_iload C dL_law_728 1 rfl ?_
    refine zm_if_ne (tgt := 745) C dL_law_730 (by decide) (fun hc_9 => ?_) (fun hc_9 => ?_)
    · have h := h.1 hc_9
      exact (zm_sub [2, 3, 4, 5, 6, 7] rfl (vb_law_745 C hX hbl hbA hcz hsz hstk hL28 _ _ _ _ _ h))
    · have h := h.2 hc_9
      refine zm_aload_n C dL_law_733 rfl 5 rfl ?_
      refine zm_iconst (v := 0) C dL_law_734 (by decide) ?_
      refine zm_ldL C zIn01 dL_law_735 ?_
      refine zm_iload C dL_law_736 0 rfl ?_
      refine zm_i2l C dL_law_738 ?_
      refine zm_lcmp C dL_law_739 ?_
      refine zm_if_eq (tgt := 745) C dL_law_740 (by decide) (fun hc_10 => ?_) (fun hc_10 => ?_)
      · have h := h.1 hc_10
        exact (zm_sub [2, 3, 4, 5, 6, 7] rfl (vb_law_745 C hX hbl hbA hcz hsz hstk hL28 _ _ _ _ _ h))
      · have h := h.2 hc_10
        refine zm_iconst (v := 0) C dL_law_743 (by decide) ?_
        exact h.elim
  · have h := h.2 hc_8
    refine zm_iconst (v := 0) C dL_law_726 (by decide) ?_
    exact h.elim
def wb_law_853 (xs : Nat → Int32) (L : Nat) (L28 : Int32 → MU → MU → (Nat → Int64) → (Nat → UInt64) → Prop) (x5 : Int32) (u v : MU) (o : Nat → Int64) (dd : Nat → UInt64) : Prop := wb_law_2328 xs L L28 x5 u v o dd
set_option maxHeartbeats 4000000 in
set_option maxRecDepth 100000 in
theorem vb_law_853 {p : Program} {l : Launch} {e : Env} {s : State} {m : MethodId} {args : Array Value} {below : List Frame} {meth : Method} {c : Code} {g : GE} {Qz : State → Prop} {b L : Nat} {xs : Nat → Int32} (C : zCx p l s m args meth c g RL cL_law 9) (hX : va_X b L xs s s.heap) (hbl : b < s.heap.size) (hbA : ¬ zA g b) {cz sz : Nat} (hcz : cz + 2 ≤ 603072) (hsz : sz + 12 ≤ 7207018) (hstk : l.stackTraces = false) {L28 : Int32 → MU → MU → (Nat → Int64) → (Nat → UInt64) → Prop} (hL28 : ∀ (x5 : Int32) (u v : MU) (o : Nat → Int64) (dd : Nat → UInt64), L28 x5 u v o dd → WM p l e room_1 s m args below meth c g 9 (cz + 2) (sz + 12) Qz 28 [(0, .ref b), (1, .ref (g.2.2.1 0)), (2, .ref (g.2.2.1 117)), (3, .ref (g.2.2.1 131)), (4, .ref (g.2.2.1 132)), (5, .int x5)] [] (u, v, o, dd)) (x5 : Int32) (u v : MU) (o : Nat → Int64) (dd : Nat → UInt64) (h : wb_law_853 xs L L28 x5 u v o dd) : WM p l e room_1 s m args below meth c g 9 (cz + 1) (sz + 6) Qz 853 [(0, .ref b), (1, .ref (g.2.2.1 0)), (2, .ref (g.2.2.1 117)), (3, .ref (g.2.2.1 131)), (4, .ref (g.2.2.1 132)), (5, .int x5)] [] (u, v, o, dd) := by
  unfold wb_law_853 at h
  refine zm_goto (tgt := 2328) C dL_law_853 (by decide) ?_
  exact zm_widen (by omega) (by omega) (zm_sub [0, 1, 2, 3, 4, 5] rfl (vb_law_2328 C hX hbl hbA hcz hsz hstk hL28 _ _ _ _ _ h))
def wb_law_820 (xs : Nat → Int32) (L : Nat) (L28 : Int32 → MU → MU → (Nat → Int64) → (Nat → UInt64) → Prop) (x5 : Int32) (x6 : Int32) (s0 : Int32) (s1 : Int32) (s2 : Int32) (s3 : Int32) (u v : MU) (o : Nat → Int64) (dd : Nat → UInt64) : Prop := w_X10_position s3 s2 s1 s0 v (fun r_1 u_2 => w_X10_thrown u_2  (fun r_3 => ((r_3 = x6) → ((¬ x6 = 0) → wb_law_853 xs L L28 x5 u u_2 o dd) ∧ ((x6 = 0) → (((lg_cmp (o ((0 : Int32)).toNatClampNeg) r_1.toInt64) = 0) → wb_law_853 xs L L28 x5 u u_2 o dd) ∧ ((¬ (lg_cmp (o ((0 : Int32)).toNatClampNeg) r_1.toInt64) = 0) → False))) ∧ ((¬ r_3 = x6) → False)))
set_option maxHeartbeats 4000000 in
set_option maxRecDepth 100000 in
theorem vb_law_820 {p : Program} {l : Launch} {e : Env} {s : State} {m : MethodId} {args : Array Value} {below : List Frame} {meth : Method} {c : Code} {g : GE} {Qz : State → Prop} {b L : Nat} {xs : Nat → Int32} (C : zCx p l s m args meth c g RL cL_law 9) (hX : va_X b L xs s s.heap) (hbl : b < s.heap.size) (hbA : ¬ zA g b) {cz sz : Nat} (hcz : cz + 2 ≤ 603072) (hsz : sz + 12 ≤ 7207018) (hstk : l.stackTraces = false) {L28 : Int32 → MU → MU → (Nat → Int64) → (Nat → UInt64) → Prop} (hL28 : ∀ (x5 : Int32) (u v : MU) (o : Nat → Int64) (dd : Nat → UInt64), L28 x5 u v o dd → WM p l e room_1 s m args below meth c g 9 (cz + 2) (sz + 12) Qz 28 [(0, .ref b), (1, .ref (g.2.2.1 0)), (2, .ref (g.2.2.1 117)), (3, .ref (g.2.2.1 131)), (4, .ref (g.2.2.1 132)), (5, .int x5)] [] (u, v, o, dd)) (x5 : Int32) (x6 : Int32) (s0 : Int32) (s1 : Int32) (s2 : Int32) (s3 : Int32) (u v : MU) (o : Nat → Int64) (dd : Nat → UInt64) (h : wb_law_820 xs L L28 x5 x6 s0 s1 s2 s3 u v o dd) : WM p l e room_1 s m args below meth c g 9 (cz + 1) (sz + 6) Qz 820 [(0, .ref b), (1, .ref (g.2.2.1 0)), (2, .ref (g.2.2.1 117)), (3, .ref (g.2.2.1 131)), (4, .ref (g.2.2.1 132)), (5, .int x5), (6, .int x6)] [.int s0, .int s1, .int s2, .int s3, .ref (g.2.2.1 117)] (u, v, o, dd) := by
  unfold wb_law_820 at h
  refine zm_ci (zr_V (As := [.int s3, .int s2, .int s1, .int s0]) (rest := []) C (c_X10_position l g u v (o, dd) s3 s2 s1 s0 h) wd_1344 wd_1345 wd_1346 wd_11 wd_1347 hy_X10_position rfl rfl ⟨by decide, by decide⟩ ⟨(show (cz + 1) + 0 ≤ 603072 by omega), (show (sz + 6) + 0 ≤ 7207018 by omega)⟩ (ci := 10) (by decide) (zCell_k kd_117) rfl rfl rfl rfl (Nat.le_of_ble_eq_true rfl) dL_law_820) (fun r_1 M1 hq => ?_)
  obtain ⟨u_2, rfl, h⟩ := hq
  refine zm_istore (lv' := [(7, .int r_1), (0, .ref b), (1, .ref (g.2.2.1 0)), (2, .ref (g.2.2.1 117)), (3, .ref (g.2.2.1 131)), (4, .ref (g.2.2.1 132)), (5, .int x5), (6, .int x6)]) C dL_law_823 (by decide) rfl ?_
  refine zm_aload_n C dL_law_825 rfl 3 rfl ?_
  refine zm_ci (zr_V (As := []) (rest := []) C (c_X10_thrown l g u u_2 (o, dd)  h) wd_1176 wd_1177 wd_1178 wd_11 wd_1179 hy_X10_thrown rfl rfl ⟨by decide, by decide⟩ ⟨(show (cz + 1) + 0 ≤ 603072 by omega), (show (sz + 6) + 0 ≤ 7207018 by omega)⟩ (ci := 10) (by decide) (zCell_k kd_117) rfl rfl rfl rfl (Nat.le_of_ble_eq_true rfl) dL_law_826) (fun r_3 M1 hq => ?_)
  obtain ⟨rfl, h⟩ := hq
  refine zm_iload C dL_law_829 7 rfl ?_
  refine zm_icmp_eq (tgt := 836) C dL_law_831 (by decide) (fun hc_5 => ?_) (fun hc_5 => ?_)
  · have h := h.1 hc_5
    refine zm_iload C dL_law_836 7 rfl ?_
    refine zm_if_ne (tgt := 853) C dL_law_838 (by decide) (fun hc_6 => ?_) (fun hc_6 => ?_)
    · have h := h.1 hc_6
      exact (zm_sub [1, 2, 3, 4, 5, 6] rfl (vb_law_853 C hX hbl hbA hcz hsz hstk hL28 _ _ _ _ _ h))
    · have h := h.2 hc_6
      refine zm_aload_n C dL_law_841 rfl 4 rfl ?_
      refine zm_iconst (v := 0) C dL_law_842 (by decide) ?_
      refine zm_ldL C zIn01 dL_law_843 ?_
      refine zm_iload C dL_law_844 0 rfl ?_
      refine zm_i2l C dL_law_846 ?_
      refine zm_lcmp C dL_law_847 ?_
      refine zm_if_eq (tgt := 853) C dL_law_848 (by decide) (fun hc_7 => ?_) (fun hc_7 => ?_)
      · have h := h.1 hc_7
        exact (zm_sub [1, 2, 3, 4, 5, 6] rfl (vb_law_853 C hX hbl hbA hcz hsz hstk hL28 _ _ _ _ _ h))
      · have h := h.2 hc_7
        refine zm_iconst (v := 0) C dL_law_851 (by decide) ?_
        exact h.elim
  · have h := h.2 hc_5
    refine zm_iconst (v := 0) C dL_law_834 (by decide) ?_
    exact h.elim
def wb_law_781 (xs : Nat → Int32) (L : Nat) (L28 : Int32 → MU → MU → (Nat → Int64) → (Nat → UInt64) → Prop) (x5 : Int32) (s0 : Int32) (s1 : Int32) (s2 : Int32) (s3 : Int32) (u v : MU) (o : Nat → Int64) (dd : Nat → UInt64) : Prop := w_L_position s3 s2 s1 s0 u o (fun r_1 u_2 o_3 => vp_in (x5 + (1 : Int32)) L ∧ (vp_in (x5 + (2 : Int32)) L ∧ (vp_in (x5 + (3 : Int32)) L ∧ (vp_in (x5 + (4 : Int32)) L ∧ ((((xs ((x5 + (4 : Int32))).toNatClampNeg) = 0) → wb_law_820 xs L L28 x5 r_1 (0 : Int32) (xs ((x5 + (3 : Int32))).toNatClampNeg) (xs ((x5 + (2 : Int32))).toNatClampNeg) (xs ((x5 + (1 : Int32))).toNatClampNeg) u_2 v o_3 dd) ∧ ((¬ (xs ((x5 + (4 : Int32))).toNatClampNeg) = 0) → wb_law_820 xs L L28 x5 r_1 (1 : Int32) (xs ((x5 + (3 : Int32))).toNatClampNeg) (xs ((x5 + (2 : Int32))).toNatClampNeg) (xs ((x5 + (1 : Int32))).toNatClampNeg) u_2 v o_3 dd))))))
set_option maxHeartbeats 4000000 in
set_option maxRecDepth 100000 in
theorem vb_law_781 {p : Program} {l : Launch} {e : Env} {s : State} {m : MethodId} {args : Array Value} {below : List Frame} {meth : Method} {c : Code} {g : GE} {Qz : State → Prop} {b L : Nat} {xs : Nat → Int32} (C : zCx p l s m args meth c g RL cL_law 9) (hX : va_X b L xs s s.heap) (hbl : b < s.heap.size) (hbA : ¬ zA g b) {cz sz : Nat} (hcz : cz + 2 ≤ 603072) (hsz : sz + 12 ≤ 7207018) (hstk : l.stackTraces = false) {L28 : Int32 → MU → MU → (Nat → Int64) → (Nat → UInt64) → Prop} (hL28 : ∀ (x5 : Int32) (u v : MU) (o : Nat → Int64) (dd : Nat → UInt64), L28 x5 u v o dd → WM p l e room_1 s m args below meth c g 9 (cz + 2) (sz + 12) Qz 28 [(0, .ref b), (1, .ref (g.2.2.1 0)), (2, .ref (g.2.2.1 117)), (3, .ref (g.2.2.1 131)), (4, .ref (g.2.2.1 132)), (5, .int x5)] [] (u, v, o, dd)) (x5 : Int32) (s0 : Int32) (s1 : Int32) (s2 : Int32) (s3 : Int32) (u v : MU) (o : Nat → Int64) (dd : Nat → UInt64) (h : wb_law_781 xs L L28 x5 s0 s1 s2 s3 u v o dd) : WM p l e room_1 s m args below meth c g 9 cz sz Qz 781 [(0, .ref b), (1, .ref (g.2.2.1 0)), (2, .ref (g.2.2.1 117)), (3, .ref (g.2.2.1 131)), (4, .ref (g.2.2.1 132)), (5, .int x5)] [.int s0, .int s1, .int s2, .int s3, .ref (g.2.2.1 0)] (u, v, o, dd) := by
  unfold wb_law_781 at h
  refine zm_aload_n C dL_law_781 rfl 3 rfl ?_
  refine zm_ci (zr_SW (As := [.ref (g.2.2.1 0), .int s3, .int s2, .int s1, .int s0, .ref (g.2.2.1 131)]) (rest := []) C (c_L_position l hstk g u v o dd s3 s2 s1 s0 h) wd_703 wd_704 wd_0 wd_705 hz_L_position rfl rfl ⟨by decide, by decide⟩ ⟨(show cz + 1 ≤ 603072 by omega), (show sz + 6 ≤ 7207018 by omega)⟩ rfl rfl (Nat.le_of_ble_eq_true rfl) dL_law_782) (fun r_1 M1 hq => ?_)
  obtain ⟨u_2, o_3, rfl, h⟩ := hq
  refine zm_istore (lv' := [(6, .int r_1), (0, .ref b), (1, .ref (g.2.2.1 0)), (2, .ref (g.2.2.1 117)), (3, .ref (g.2.2.1 131)), (4, .ref (g.2.2.1 132)), (5, .int x5)]) C dL_law_785 (by decide) rfl ?_
  refine zm_aload_n C dL_law_787 rfl 3 rfl ?_
  refine zm_aload_n C dL_law_788 rfl 1 rfl ?_
  refine zm_iload C dL_law_789 6 rfl ?_
  refine zm_iconst (v := 1) C dL_law_791 (by decide) ?_
  refine zm_iadd C dL_law_792 ?_
  obtain ⟨hg_4, h⟩ := h
  refine zm_sld C hX hbl hbA hg_4 dL_law_793 ?_
  refine zm_aload_n C dL_law_794 rfl 1 rfl ?_
  refine zm_iload C dL_law_795 6 rfl ?_
  refine zm_iconst (v := 2) C dL_law_797 (by decide) ?_
  refine zm_iadd C dL_law_798 ?_
  obtain ⟨hg_5, h⟩ := h
  refine zm_sld C hX hbl hbA hg_5 dL_law_799 ?_
  refine zm_aload_n C dL_law_800 rfl 1 rfl ?_
  refine zm_iload C dL_law_801 6 rfl ?_
  refine zm_iconst (v := 3) C dL_law_803 (by decide) ?_
  refine zm_iadd C dL_law_804 ?_
  obtain ⟨hg_6, h⟩ := h
  refine zm_sld C hX hbl hbA hg_6 dL_law_805 ?_
  refine zm_aload_n C dL_law_806 rfl 1 rfl ?_
  refine zm_iload C dL_law_807 6 rfl ?_
  refine zm_iconst (v := 4) C dL_law_809 (by decide) ?_
  refine zm_iadd C dL_law_810 ?_
  obtain ⟨hg_7, h⟩ := h
  refine zm_sld C hX hbl hbA hg_7 dL_law_811 ?_
  refine zm_if_eq (tgt := 819) C dL_law_812 (by decide) (fun hc_8 => ?_) (fun hc_8 => ?_)
  · have h := h.1 hc_8
    refine zm_iconst (v := 0) C dL_law_819 (by decide) ?_
    exact (zm_sub [1, 2, 3, 4, 5, 6, 0] rfl (vb_law_820 C hX hbl hbA hcz hsz hstk hL28 _ _ _ _ _ _ _ _ _ _ h))
  · have h := h.2 hc_8
    refine zm_iconst (v := 1) C dL_law_815 (by decide) ?_
    refine zm_goto (tgt := 820) C dL_law_816 (by decide) ?_
    exact (zm_sub [1, 2, 3, 4, 5, 6, 0] rfl (vb_law_820 C hX hbl hbA hcz hsz hstk hL28 _ _ _ _ _ _ _ _ _ _ h))
def wb_law_748 (xs : Nat → Int32) (L : Nat) (L28 : Int32 → MU → MU → (Nat → Int64) → (Nat → UInt64) → Prop) (x5 : Int32) (u v : MU) (o : Nat → Int64) (dd : Nat → UInt64) : Prop := vp_in (x5 + (1 : Int32)) L ∧ (vp_in (x5 + (2 : Int32)) L ∧ (vp_in (x5 + (3 : Int32)) L ∧ (vp_in (x5 + (4 : Int32)) L ∧ ((((xs ((x5 + (4 : Int32))).toNatClampNeg) = 0) → wb_law_781 xs L L28 x5 (0 : Int32) (xs ((x5 + (3 : Int32))).toNatClampNeg) (xs ((x5 + (2 : Int32))).toNatClampNeg) (xs ((x5 + (1 : Int32))).toNatClampNeg) u v o dd) ∧ ((¬ (xs ((x5 + (4 : Int32))).toNatClampNeg) = 0) → wb_law_781 xs L L28 x5 (1 : Int32) (xs ((x5 + (3 : Int32))).toNatClampNeg) (xs ((x5 + (2 : Int32))).toNatClampNeg) (xs ((x5 + (1 : Int32))).toNatClampNeg) u v o dd)))))
set_option maxHeartbeats 4000000 in
set_option maxRecDepth 100000 in
theorem vb_law_748 {p : Program} {l : Launch} {e : Env} {s : State} {m : MethodId} {args : Array Value} {below : List Frame} {meth : Method} {c : Code} {g : GE} {Qz : State → Prop} {b L : Nat} {xs : Nat → Int32} (C : zCx p l s m args meth c g RL cL_law 9) (hX : va_X b L xs s s.heap) (hbl : b < s.heap.size) (hbA : ¬ zA g b) {cz sz : Nat} (hcz : cz + 2 ≤ 603072) (hsz : sz + 12 ≤ 7207018) (hstk : l.stackTraces = false) {L28 : Int32 → MU → MU → (Nat → Int64) → (Nat → UInt64) → Prop} (hL28 : ∀ (x5 : Int32) (u v : MU) (o : Nat → Int64) (dd : Nat → UInt64), L28 x5 u v o dd → WM p l e room_1 s m args below meth c g 9 (cz + 2) (sz + 12) Qz 28 [(0, .ref b), (1, .ref (g.2.2.1 0)), (2, .ref (g.2.2.1 117)), (3, .ref (g.2.2.1 131)), (4, .ref (g.2.2.1 132)), (5, .int x5)] [] (u, v, o, dd)) (x5 : Int32) (u v : MU) (o : Nat → Int64) (dd : Nat → UInt64) (h : wb_law_748 xs L L28 x5 u v o dd) : WM p l e room_1 s m args below meth c g 9 cz sz Qz 748 [(0, .ref b), (1, .ref (g.2.2.1 0)), (2, .ref (g.2.2.1 117)), (3, .ref (g.2.2.1 131)), (4, .ref (g.2.2.1 132)), (5, .int x5)] [] (u, v, o, dd) := by
  unfold wb_law_748 at h
  refine zm_aload_n C dL_law_748 rfl 1 rfl ?_
  refine zm_aload_n C dL_law_749 rfl 0 rfl ?_
  refine zm_iload C dL_law_750 5 rfl ?_
  refine zm_iconst (v := 1) C dL_law_752 (by decide) ?_
  refine zm_iadd C dL_law_753 ?_
  obtain ⟨hg_1, h⟩ := h
  refine zm_sld C hX hbl hbA hg_1 dL_law_754 ?_
  refine zm_aload_n C dL_law_755 rfl 0 rfl ?_
  refine zm_iload C dL_law_756 5 rfl ?_
  refine zm_iconst (v := 2) C dL_law_758 (by decide) ?_
  refine zm_iadd C dL_law_759 ?_
  obtain ⟨hg_2, h⟩ := h
  refine zm_sld C hX hbl hbA hg_2 dL_law_760 ?_
  refine zm_aload_n C dL_law_761 rfl 0 rfl ?_
  refine zm_iload C dL_law_762 5 rfl ?_
  refine zm_iconst (v := 3) C dL_law_764 (by decide) ?_
  refine zm_iadd C dL_law_765 ?_
  obtain ⟨hg_3, h⟩ := h
  refine zm_sld C hX hbl hbA hg_3 dL_law_766 ?_
  refine zm_aload_n C dL_law_767 rfl 0 rfl ?_
  refine zm_iload C dL_law_768 5 rfl ?_
  refine zm_iconst (v := 4) C dL_law_770 (by decide) ?_
  refine zm_iadd C dL_law_771 ?_
  obtain ⟨hg_4, h⟩ := h
  refine zm_sld C hX hbl hbA hg_4 dL_law_772 ?_
  refine zm_if_eq (tgt := 780) C dL_law_773 (by decide) (fun hc_5 => ?_) (fun hc_5 => ?_)
  · have h := h.1 hc_5
    refine zm_iconst (v := 0) C dL_law_780 (by decide) ?_
    exact (zm_sub [0, 1, 2, 3, 4, 5] rfl (vb_law_781 C hX hbl hbA hcz hsz hstk hL28 _ _ _ _ _ _ _ _ _ h))
  · have h := h.2 hc_5
    refine zm_iconst (v := 1) C dL_law_776 (by decide) ?_
    refine zm_goto (tgt := 781) C dL_law_777 (by decide) ?_
    exact (zm_sub [0, 1, 2, 3, 4, 5] rfl (vb_law_781 C hX hbl hbA hcz hsz hstk hL28 _ _ _ _ _ _ _ _ _ h))
def wb_law_921 (xs : Nat → Int32) (L : Nat) (L28 : Int32 → MU → MU → (Nat → Int64) → (Nat → UInt64) → Prop) (x5 : Int32) (u v : MU) (o : Nat → Int64) (dd : Nat → UInt64) : Prop := wb_law_2328 xs L L28 x5 u v o dd
set_option maxHeartbeats 4000000 in
set_option maxRecDepth 100000 in
theorem vb_law_921 {p : Program} {l : Launch} {e : Env} {s : State} {m : MethodId} {args : Array Value} {below : List Frame} {meth : Method} {c : Code} {g : GE} {Qz : State → Prop} {b L : Nat} {xs : Nat → Int32} (C : zCx p l s m args meth c g RL cL_law 9) (hX : va_X b L xs s s.heap) (hbl : b < s.heap.size) (hbA : ¬ zA g b) {cz sz : Nat} (hcz : cz + 2 ≤ 603072) (hsz : sz + 12 ≤ 7207018) (hstk : l.stackTraces = false) {L28 : Int32 → MU → MU → (Nat → Int64) → (Nat → UInt64) → Prop} (hL28 : ∀ (x5 : Int32) (u v : MU) (o : Nat → Int64) (dd : Nat → UInt64), L28 x5 u v o dd → WM p l e room_1 s m args below meth c g 9 (cz + 2) (sz + 12) Qz 28 [(0, .ref b), (1, .ref (g.2.2.1 0)), (2, .ref (g.2.2.1 117)), (3, .ref (g.2.2.1 131)), (4, .ref (g.2.2.1 132)), (5, .int x5)] [] (u, v, o, dd)) (x5 : Int32) (u v : MU) (o : Nat → Int64) (dd : Nat → UInt64) (h : wb_law_921 xs L L28 x5 u v o dd) : WM p l e room_1 s m args below meth c g 9 (cz + 1) (sz + 6) Qz 921 [(0, .ref b), (1, .ref (g.2.2.1 0)), (2, .ref (g.2.2.1 117)), (3, .ref (g.2.2.1 131)), (4, .ref (g.2.2.1 132)), (5, .int x5)] [] (u, v, o, dd) := by
  unfold wb_law_921 at h
  refine zm_goto (tgt := 2328) C dL_law_921 (by decide) ?_
  exact zm_widen (by omega) (by omega) (zm_sub [0, 1, 2, 3, 4, 5] rfl (vb_law_2328 C hX hbl hbA hcz hsz hstk hL28 _ _ _ _ _ h))
def wb_law_856 (xs : Nat → Int32) (L : Nat) (L28 : Int32 → MU → MU → (Nat → Int64) → (Nat → UInt64) → Prop) (x5 : Int32) (u v : MU) (o : Nat → Int64) (dd : Nat → UInt64) : Prop := vp_in (x5 + (1 : Int32)) L ∧ (vp_in (x5 + (2 : Int32)) L ∧ (w_L_positionOf (xs ((x5 + (1 : Int32))).toNatClampNeg) (xs ((x5 + (2 : Int32))).toNatClampNeg) u o (fun r_3 u_4 o_5 => vp_in (x5 + (1 : Int32)) L ∧ (vp_in (x5 + (2 : Int32)) L ∧ (w_X10_positionOf (xs ((x5 + (1 : Int32))).toNatClampNeg) (xs ((x5 + (2 : Int32))).toNatClampNeg) v (fun r_8 u_9 => w_X10_thrown u_9  (fun r_10 => ((r_10 = r_3) → ((¬ r_3 = 0) → wb_law_921 xs L L28 x5 u_4 u_9 o_5 dd) ∧ ((r_3 = 0) → (((lg_cmp (o_5 ((0 : Int32)).toNatClampNeg) r_8.toInt64) = 0) → wb_law_921 xs L L28 x5 u_4 u_9 o_5 dd) ∧ ((¬ (lg_cmp (o_5 ((0 : Int32)).toNatClampNeg) r_8.toInt64) = 0) → False))) ∧ ((¬ r_10 = r_3) → False))))))))
set_option maxHeartbeats 4000000 in
set_option maxRecDepth 100000 in
theorem vb_law_856 {p : Program} {l : Launch} {e : Env} {s : State} {m : MethodId} {args : Array Value} {below : List Frame} {meth : Method} {c : Code} {g : GE} {Qz : State → Prop} {b L : Nat} {xs : Nat → Int32} (C : zCx p l s m args meth c g RL cL_law 9) (hX : va_X b L xs s s.heap) (hbl : b < s.heap.size) (hbA : ¬ zA g b) {cz sz : Nat} (hcz : cz + 2 ≤ 603072) (hsz : sz + 12 ≤ 7207018) (hstk : l.stackTraces = false) {L28 : Int32 → MU → MU → (Nat → Int64) → (Nat → UInt64) → Prop} (hL28 : ∀ (x5 : Int32) (u v : MU) (o : Nat → Int64) (dd : Nat → UInt64), L28 x5 u v o dd → WM p l e room_1 s m args below meth c g 9 (cz + 2) (sz + 12) Qz 28 [(0, .ref b), (1, .ref (g.2.2.1 0)), (2, .ref (g.2.2.1 117)), (3, .ref (g.2.2.1 131)), (4, .ref (g.2.2.1 132)), (5, .int x5)] [] (u, v, o, dd)) (x5 : Int32) (u v : MU) (o : Nat → Int64) (dd : Nat → UInt64) (h : wb_law_856 xs L L28 x5 u v o dd) : WM p l e room_1 s m args below meth c g 9 cz sz Qz 856 [(0, .ref b), (1, .ref (g.2.2.1 0)), (2, .ref (g.2.2.1 117)), (3, .ref (g.2.2.1 131)), (4, .ref (g.2.2.1 132)), (5, .int x5)] [] (u, v, o, dd) := by
  unfold wb_law_856 at h
  refine zm_aload_n C dL_law_856 rfl 1 rfl ?_
  refine zm_aload_n C dL_law_857 rfl 0 rfl ?_
  refine zm_iload C dL_law_858 5 rfl ?_
  refine zm_iconst (v := 1) C dL_law_860 (by decide) ?_
  refine zm_iadd C dL_law_861 ?_
  obtain ⟨hg_1, h⟩ := h
  refine zm_sld C hX hbl hbA hg_1 dL_law_862 ?_
  refine zm_aload_n C dL_law_863 rfl 0 rfl ?_
  refine zm_iload C dL_law_864 5 rfl ?_
  refine zm_iconst (v := 2) C dL_law_866 (by decide) ?_
  refine zm_iadd C dL_law_867 ?_
  obtain ⟨hg_2, h⟩ := h
  refine zm_sld C hX hbl hbA hg_2 dL_law_868 ?_
  refine zm_aload_n C dL_law_869 rfl 3 rfl ?_
  refine zm_ci (zr_SW (As := [.ref (g.2.2.1 0), .int (xs ((x5 + (1 : Int32))).toNatClampNeg), .int (xs ((x5 + (2 : Int32))).toNatClampNeg), .ref (g.2.2.1 131)]) (rest := []) C (c_L_positionOf l hstk g u v o dd (xs ((x5 + (1 : Int32))).toNatClampNeg) (xs ((x5 + (2 : Int32))).toNatClampNeg) h) wd_728 wd_729 wd_0 wd_730 hz_L_positionOf rfl rfl ⟨by decide, by decide⟩ ⟨(show cz + 1 ≤ 603072 by omega), (show sz + 6 ≤ 7207018 by omega)⟩ rfl rfl (Nat.le_of_ble_eq_true rfl) dL_law_870) (fun r_3 M1 hq => ?_)
  obtain ⟨u_4, o_5, rfl, h⟩ := hq
  refine zm_istore (lv' := [(6, .int r_3), (0, .ref b), (1, .ref (g.2.2.1 0)), (2, .ref (g.2.2.1 117)), (3, .ref (g.2.2.1 131)), (4, .ref (g.2.2.1 132)), (5, .int x5)]) C dL_law_873 (by decide) rfl ?_
  refine zm_aload_n C dL_law_875 rfl 3 rfl ?_
  refine zm_aload_n C dL_law_876 rfl 1 rfl ?_
  refine zm_iload C dL_law_877 6 rfl ?_
  refine zm_iconst (v := 1) C dL_law_879 (by decide) ?_
  refine zm_iadd C dL_law_880 ?_
  obtain ⟨hg_6, h⟩ := h
  refine zm_sld C hX hbl hbA hg_6 dL_law_881 ?_
  refine zm_aload_n C dL_law_882 rfl 1 rfl ?_
  refine zm_iload C dL_law_883 6 rfl ?_
  refine zm_iconst (v := 2) C dL_law_885 (by decide) ?_
  refine zm_iadd C dL_law_886 ?_
  obtain ⟨hg_7, h⟩ := h
  refine zm_sld C hX hbl hbA hg_7 dL_law_887 ?_
  refine zm_ci (zr_V (As := [.int (xs ((x5 + (1 : Int32))).toNatClampNeg), .int (xs ((x5 + (2 : Int32))).toNatClampNeg)]) (rest := []) C (c_X10_positionOf l g u_4 v (o_5, dd) (xs ((x5 + (1 : Int32))).toNatClampNeg) (xs ((x5 + (2 : Int32))).toNatClampNeg) h) wd_1348 wd_1349 wd_1350 wd_11 wd_1351 hy_X10_positionOf rfl rfl ⟨by decide, by decide⟩ ⟨(show (cz + 1) + 0 ≤ 603072 by omega), (show (sz + 6) + 0 ≤ 7207018 by omega)⟩ (ci := 10) (by decide) (zCell_k kd_117) rfl rfl rfl rfl (Nat.le_of_ble_eq_true rfl) dL_law_888) (fun r_8 M1 hq => ?_)
  obtain ⟨u_9, rfl, h⟩ := hq
  refine zm_istore (lv' := [(7, .int r_8), (6, .int r_3), (0, .ref b), (1, .ref (g.2.2.1 0)), (2, .ref (g.2.2.1 117)), (3, .ref (g.2.2.1 131)), (4, .ref (g.2.2.1 132)), (5, .int x5)]) C dL_law_891 (by decide) rfl ?_
  refine zm_aload_n C dL_law_893 rfl 4 rfl ?_
  refine zm_ci (zr_V (As := []) (rest := []) C (c_X10_thrown l g u_4 u_9 (o_5, dd)  h) wd_1176 wd_1177 wd_1178 wd_11 wd_1179 hy_X10_thrown rfl rfl ⟨by decide, by decide⟩ ⟨(show (cz + 1) + 0 ≤ 603072 by omega), (show (sz + 6) + 0 ≤ 7207018 by omega)⟩ (ci := 10) (by decide) (zCell_k kd_117) rfl rfl rfl rfl (Nat.le_of_ble_eq_true rfl) dL_law_894) (fun r_10 M1 hq => ?_)
  obtain ⟨rfl, h⟩ := hq
  refine zm_iload C dL_law_897 1 rfl ?_
  refine zm_icmp_eq (tgt := 904) C dL_law_899 (by decide) (fun hc_12 => ?_) (fun hc_12 => ?_)
  · have h := h.1 hc_12
    refine zm_iload C dL_law_904 1 rfl ?_
    refine zm_if_ne (tgt := 921) C dL_law_906 (by decide) (fun hc_13 => ?_) (fun hc_13 => ?_)
    · have h := h.1 hc_13
      exact (zm_sub [2, 3, 4, 5, 6, 7] rfl (vb_law_921 C hX hbl hbA hcz hsz hstk hL28 _ _ _ _ _ h))
    · have h := h.2 hc_13
      refine zm_aload_n C dL_law_909 rfl 5 rfl ?_
      refine zm_iconst (v := 0) C dL_law_910 (by decide) ?_
      refine zm_ldL C zIn01 dL_law_911 ?_
      refine zm_iload C dL_law_912 0 rfl ?_
      refine zm_i2l C dL_law_914 ?_
      refine zm_lcmp C dL_law_915 ?_
      refine zm_if_eq (tgt := 921) C dL_law_916 (by decide) (fun hc_14 => ?_) (fun hc_14 => ?_)
      · have h := h.1 hc_14
        exact (zm_sub [2, 3, 4, 5, 6, 7] rfl (vb_law_921 C hX hbl hbA hcz hsz hstk hL28 _ _ _ _ _ h))
      · have h := h.2 hc_14
        refine zm_iconst (v := 0) C dL_law_919 (by decide) ?_
        exact h.elim
  · have h := h.2 hc_12
    refine zm_iconst (v := 0) C dL_law_902 (by decide) ?_
    exact h.elim
def wb_law_977 (xs : Nat → Int32) (L : Nat) (L28 : Int32 → MU → MU → (Nat → Int64) → (Nat → UInt64) → Prop) (x5 : Int32) (u v : MU) (o : Nat → Int64) (dd : Nat → UInt64) : Prop := wb_law_2328 xs L L28 x5 u v o dd
set_option maxHeartbeats 4000000 in
set_option maxRecDepth 100000 in
theorem vb_law_977 {p : Program} {l : Launch} {e : Env} {s : State} {m : MethodId} {args : Array Value} {below : List Frame} {meth : Method} {c : Code} {g : GE} {Qz : State → Prop} {b L : Nat} {xs : Nat → Int32} (C : zCx p l s m args meth c g RL cL_law 9) (hX : va_X b L xs s s.heap) (hbl : b < s.heap.size) (hbA : ¬ zA g b) {cz sz : Nat} (hcz : cz + 2 ≤ 603072) (hsz : sz + 12 ≤ 7207018) (hstk : l.stackTraces = false) {L28 : Int32 → MU → MU → (Nat → Int64) → (Nat → UInt64) → Prop} (hL28 : ∀ (x5 : Int32) (u v : MU) (o : Nat → Int64) (dd : Nat → UInt64), L28 x5 u v o dd → WM p l e room_1 s m args below meth c g 9 (cz + 2) (sz + 12) Qz 28 [(0, .ref b), (1, .ref (g.2.2.1 0)), (2, .ref (g.2.2.1 117)), (3, .ref (g.2.2.1 131)), (4, .ref (g.2.2.1 132)), (5, .int x5)] [] (u, v, o, dd)) (x5 : Int32) (u v : MU) (o : Nat → Int64) (dd : Nat → UInt64) (h : wb_law_977 xs L L28 x5 u v o dd) : WM p l e room_1 s m args below meth c g 9 (cz + 1) (sz + 6) Qz 977 [(0, .ref b), (1, .ref (g.2.2.1 0)), (2, .ref (g.2.2.1 117)), (3, .ref (g.2.2.1 131)), (4, .ref (g.2.2.1 132)), (5, .int x5)] [] (u, v, o, dd) := by
  unfold wb_law_977 at h
  refine zm_goto (tgt := 2328) C dL_law_977 (by decide) ?_
  exact zm_widen (by omega) (by omega) (zm_sub [0, 1, 2, 3, 4, 5] rfl (vb_law_2328 C hX hbl hbA hcz hsz hstk hL28 _ _ _ _ _ h))
def wb_law_924 (xs : Nat → Int32) (L : Nat) (L28 : Int32 → MU → MU → (Nat → Int64) → (Nat → UInt64) → Prop) (x5 : Int32) (u v : MU) (o : Nat → Int64) (dd : Nat → UInt64) : Prop := vp_in (x5 + (1 : Int32)) L ∧ (w_L_outcomeAgain (xs ((x5 + (1 : Int32))).toNatClampNeg) u o (fun r_2 u_3 o_4 => vp_in (x5 + (1 : Int32)) L ∧ (w_X10_outcomeAgain (xs ((x5 + (1 : Int32))).toNatClampNeg) v (fun r_6 u_7 => w_X10_thrown u_7  (fun r_8 => ((r_8 = r_2) → ((¬ r_2 = 0) → wb_law_977 xs L L28 x5 u_3 u_7 o_4 dd) ∧ ((r_2 = 0) → (((lg_cmp (o_4 ((0 : Int32)).toNatClampNeg) r_6.toInt64) = 0) → wb_law_977 xs L L28 x5 u_3 u_7 o_4 dd) ∧ ((¬ (lg_cmp (o_4 ((0 : Int32)).toNatClampNeg) r_6.toInt64) = 0) → False))) ∧ ((¬ r_8 = r_2) → False))))))
set_option maxHeartbeats 4000000 in
set_option maxRecDepth 100000 in
theorem vb_law_924 {p : Program} {l : Launch} {e : Env} {s : State} {m : MethodId} {args : Array Value} {below : List Frame} {meth : Method} {c : Code} {g : GE} {Qz : State → Prop} {b L : Nat} {xs : Nat → Int32} (C : zCx p l s m args meth c g RL cL_law 9) (hX : va_X b L xs s s.heap) (hbl : b < s.heap.size) (hbA : ¬ zA g b) {cz sz : Nat} (hcz : cz + 2 ≤ 603072) (hsz : sz + 12 ≤ 7207018) (hstk : l.stackTraces = false) {L28 : Int32 → MU → MU → (Nat → Int64) → (Nat → UInt64) → Prop} (hL28 : ∀ (x5 : Int32) (u v : MU) (o : Nat → Int64) (dd : Nat → UInt64), L28 x5 u v o dd → WM p l e room_1 s m args below meth c g 9 (cz + 2) (sz + 12) Qz 28 [(0, .ref b), (1, .ref (g.2.2.1 0)), (2, .ref (g.2.2.1 117)), (3, .ref (g.2.2.1 131)), (4, .ref (g.2.2.1 132)), (5, .int x5)] [] (u, v, o, dd)) (x5 : Int32) (u v : MU) (o : Nat → Int64) (dd : Nat → UInt64) (h : wb_law_924 xs L L28 x5 u v o dd) : WM p l e room_1 s m args below meth c g 9 cz sz Qz 924 [(0, .ref b), (1, .ref (g.2.2.1 0)), (2, .ref (g.2.2.1 117)), (3, .ref (g.2.2.1 131)), (4, .ref (g.2.2.1 132)), (5, .int x5)] [] (u, v, o, dd) := by
  unfold wb_law_924 at h
  refine zm_aload_n C dL_law_924 rfl 1 rfl ?_
  refine zm_aload_n C dL_law_925 rfl 0 rfl ?_
  refine zm_iload C dL_law_926 5 rfl ?_
  refine zm_iconst (v := 1) C dL_law_928 (by decide) ?_
  refine zm_iadd C dL_law_929 ?_
  obtain ⟨hg_1, h⟩ := h
  refine zm_sld C hX hbl hbA hg_1 dL_law_930 ?_
  refine zm_aload_n C dL_law_931 rfl 3 rfl ?_
  refine zm_ci (zr_SW (As := [.ref (g.2.2.1 0), .int (xs ((x5 + (1 : Int32))).toNatClampNeg), .ref (g.2.2.1 131)]) (rest := []) C (c_L_outcomeAgain l hstk g u v o dd (xs ((x5 + (1 : Int32))).toNatClampNeg) h) wd_764 wd_765 wd_0 wd_766 hz_L_outcomeAgain rfl rfl ⟨by decide, by decide⟩ ⟨(show cz + 1 ≤ 603072 by omega), (show sz + 6 ≤ 7207018 by omega)⟩ rfl rfl (Nat.le_of_ble_eq_true rfl) dL_law_932) (fun r_2 M1 hq => ?_)
  obtain ⟨u_3, o_4, rfl, h⟩ := hq
  refine zm_istore (lv' := [(6, .int r_2), (0, .ref b), (1, .ref (g.2.2.1 0)), (2, .ref (g.2.2.1 117)), (3, .ref (g.2.2.1 131)), (4, .ref (g.2.2.1 132)), (5, .int x5)]) C dL_law_935 (by decide) rfl ?_
  refine zm_aload_n C dL_law_937 rfl 3 rfl ?_
  refine zm_aload_n C dL_law_938 rfl 1 rfl ?_
  refine zm_iload C dL_law_939 6 rfl ?_
  refine zm_iconst (v := 1) C dL_law_941 (by decide) ?_
  refine zm_iadd C dL_law_942 ?_
  obtain ⟨hg_5, h⟩ := h
  refine zm_sld C hX hbl hbA hg_5 dL_law_943 ?_
  refine zm_ci (zr_V (As := [.int (xs ((x5 + (1 : Int32))).toNatClampNeg)]) (rest := []) C (c_X10_outcomeAgain l g u_3 v (o_4, dd) (xs ((x5 + (1 : Int32))).toNatClampNeg) h) wd_1356 wd_1357 wd_1358 wd_11 wd_1359 hy_X10_outcomeAgain rfl rfl ⟨by decide, by decide⟩ ⟨(show (cz + 1) + 0 ≤ 603072 by omega), (show (sz + 6) + 0 ≤ 7207018 by omega)⟩ (ci := 10) (by decide) (zCell_k kd_117) rfl rfl rfl rfl (Nat.le_of_ble_eq_true rfl) dL_law_944) (fun r_6 M1 hq => ?_)
  obtain ⟨u_7, rfl, h⟩ := hq
  refine zm_istore (lv' := [(7, .int r_6), (6, .int r_2), (0, .ref b), (1, .ref (g.2.2.1 0)), (2, .ref (g.2.2.1 117)), (3, .ref (g.2.2.1 131)), (4, .ref (g.2.2.1 132)), (5, .int x5)]) C dL_law_947 (by decide) rfl ?_
  refine zm_aload_n C dL_law_949 rfl 4 rfl ?_
  refine zm_ci (zr_V (As := []) (rest := []) C (c_X10_thrown l g u_3 u_7 (o_4, dd)  h) wd_1176 wd_1177 wd_1178 wd_11 wd_1179 hy_X10_thrown rfl rfl ⟨by decide, by decide⟩ ⟨(show (cz + 1) + 0 ≤ 603072 by omega), (show (sz + 6) + 0 ≤ 7207018 by omega)⟩ (ci := 10) (by decide) (zCell_k kd_117) rfl rfl rfl rfl (Nat.le_of_ble_eq_true rfl) dL_law_950) (fun r_8 M1 hq => ?_)
  obtain ⟨rfl, h⟩ := hq
  refine zm_iload C dL_law_953 1 rfl ?_
  refine zm_icmp_eq (tgt := 960) C dL_law_955 (by decide) (fun hc_10 => ?_) (fun hc_10 => ?_)
  · have h := h.1 hc_10
    refine zm_iload C dL_law_960 1 rfl ?_
    refine zm_if_ne (tgt := 977) C dL_law_962 (by decide) (fun hc_11 => ?_) (fun hc_11 => ?_)
    · have h := h.1 hc_11
      exact (zm_sub [2, 3, 4, 5, 6, 7] rfl (vb_law_977 C hX hbl hbA hcz hsz hstk hL28 _ _ _ _ _ h))
    · have h := h.2 hc_11
      refine zm_aload_n C dL_law_965 rfl 5 rfl ?_
      refine zm_iconst (v := 0) C dL_law_966 (by decide) ?_
      refine zm_ldL C zIn01 dL_law_967 ?_
      refine zm_iload C dL_law_968 0 rfl ?_
      refine zm_i2l C dL_law_970 ?_
      refine zm_lcmp C dL_law_971 ?_
      refine zm_if_eq (tgt := 977) C dL_law_972 (by decide) (fun hc_12 => ?_) (fun hc_12 => ?_)
      · have h := h.1 hc_12
        exact (zm_sub [2, 3, 4, 5, 6, 7] rfl (vb_law_977 C hX hbl hbA hcz hsz hstk hL28 _ _ _ _ _ h))
      · have h := h.2 hc_12
        refine zm_iconst (v := 0) C dL_law_975 (by decide) ?_
        exact h.elim
  · have h := h.2 hc_10
    refine zm_iconst (v := 0) C dL_law_958 (by decide) ?_
    exact h.elim
def wb_law_1073 (xs : Nat → Int32) (L : Nat) (L28 : Int32 → MU → MU → (Nat → Int64) → (Nat → UInt64) → Prop) (x5 : Int32) (u v : MU) (o : Nat → Int64) (dd : Nat → UInt64) : Prop := wb_law_2328 xs L L28 x5 u v o dd
set_option maxHeartbeats 4000000 in
set_option maxRecDepth 100000 in
theorem vb_law_1073 {p : Program} {l : Launch} {e : Env} {s : State} {m : MethodId} {args : Array Value} {below : List Frame} {meth : Method} {c : Code} {g : GE} {Qz : State → Prop} {b L : Nat} {xs : Nat → Int32} (C : zCx p l s m args meth c g RL cL_law 9) (hX : va_X b L xs s s.heap) (hbl : b < s.heap.size) (hbA : ¬ zA g b) {cz sz : Nat} (hcz : cz + 2 ≤ 603072) (hsz : sz + 12 ≤ 7207018) (hstk : l.stackTraces = false) {L28 : Int32 → MU → MU → (Nat → Int64) → (Nat → UInt64) → Prop} (hL28 : ∀ (x5 : Int32) (u v : MU) (o : Nat → Int64) (dd : Nat → UInt64), L28 x5 u v o dd → WM p l e room_1 s m args below meth c g 9 (cz + 2) (sz + 12) Qz 28 [(0, .ref b), (1, .ref (g.2.2.1 0)), (2, .ref (g.2.2.1 117)), (3, .ref (g.2.2.1 131)), (4, .ref (g.2.2.1 132)), (5, .int x5)] [] (u, v, o, dd)) (x5 : Int32) (u v : MU) (o : Nat → Int64) (dd : Nat → UInt64) (h : wb_law_1073 xs L L28 x5 u v o dd) : WM p l e room_1 s m args below meth c g 9 (cz + 2) (sz + 12) Qz 1073 [(0, .ref b), (1, .ref (g.2.2.1 0)), (2, .ref (g.2.2.1 117)), (3, .ref (g.2.2.1 131)), (4, .ref (g.2.2.1 132)), (5, .int x5)] [] (u, v, o, dd) := by
  unfold wb_law_1073 at h
  refine zm_goto (tgt := 2328) C dL_law_1073 (by decide) ?_
  exact (zm_sub [0, 1, 2, 3, 4, 5] rfl (vb_law_2328 C hX hbl hbA hcz hsz hstk hL28 _ _ _ _ _ h))
def wb_law_1040 (xs : Nat → Int32) (L : Nat) (L28 : Int32 → MU → MU → (Nat → Int64) → (Nat → UInt64) → Prop) (x5 : Int32) (x6 : Int32) (s0 : Int32) (s1 : Int32) (s2 : Int32) (u v : MU) (o : Nat → Int64) (dd : Nat → UInt64) : Prop := w_X10_moveOf s2 s1 s0 v (fun r_1 u_2 => w_X10_thrown u_2  (fun r_3 => ((r_3 = x6) → ((¬ x6 = 0) → wb_law_1073 xs L L28 x5 u u_2 o dd) ∧ ((x6 = 0) → (((lg_cmp (o ((0 : Int32)).toNatClampNeg) r_1.toInt64) = 0) → wb_law_1073 xs L L28 x5 u u_2 o dd) ∧ ((¬ (lg_cmp (o ((0 : Int32)).toNatClampNeg) r_1.toInt64) = 0) → False))) ∧ ((¬ r_3 = x6) → False)))
set_option maxHeartbeats 4000000 in
set_option maxRecDepth 100000 in
theorem vb_law_1040 {p : Program} {l : Launch} {e : Env} {s : State} {m : MethodId} {args : Array Value} {below : List Frame} {meth : Method} {c : Code} {g : GE} {Qz : State → Prop} {b L : Nat} {xs : Nat → Int32} (C : zCx p l s m args meth c g RL cL_law 9) (hX : va_X b L xs s s.heap) (hbl : b < s.heap.size) (hbA : ¬ zA g b) {cz sz : Nat} (hcz : cz + 2 ≤ 603072) (hsz : sz + 12 ≤ 7207018) (hstk : l.stackTraces = false) {L28 : Int32 → MU → MU → (Nat → Int64) → (Nat → UInt64) → Prop} (hL28 : ∀ (x5 : Int32) (u v : MU) (o : Nat → Int64) (dd : Nat → UInt64), L28 x5 u v o dd → WM p l e room_1 s m args below meth c g 9 (cz + 2) (sz + 12) Qz 28 [(0, .ref b), (1, .ref (g.2.2.1 0)), (2, .ref (g.2.2.1 117)), (3, .ref (g.2.2.1 131)), (4, .ref (g.2.2.1 132)), (5, .int x5)] [] (u, v, o, dd)) (x5 : Int32) (x6 : Int32) (s0 : Int32) (s1 : Int32) (s2 : Int32) (u v : MU) (o : Nat → Int64) (dd : Nat → UInt64) (h : wb_law_1040 xs L L28 x5 x6 s0 s1 s2 u v o dd) : WM p l e room_1 s m args below meth c g 9 (cz + 2) (sz + 12) Qz 1040 [(0, .ref b), (1, .ref (g.2.2.1 0)), (2, .ref (g.2.2.1 117)), (3, .ref (g.2.2.1 131)), (4, .ref (g.2.2.1 132)), (5, .int x5), (6, .int x6)] [.int s0, .int s1, .int s2, .ref (g.2.2.1 117)] (u, v, o, dd) := by
  unfold wb_law_1040 at h
  refine zm_ci (zr_V (As := [.int s2, .int s1, .int s0]) (rest := []) C (c_X10_moveOf l g u v (o, dd) s2 s1 s0 h) wd_1360 wd_1361 wd_1362 wd_11 wd_1363 hy_X10_moveOf rfl rfl ⟨by decide, by decide⟩ ⟨(show (cz + 2) + 0 ≤ 603072 by omega), (show (sz + 12) + 0 ≤ 7207018 by omega)⟩ (ci := 10) (by decide) (zCell_k kd_117) rfl rfl rfl rfl (Nat.le_of_ble_eq_true rfl) dL_law_1040) (fun r_1 M1 hq => ?_)
  obtain ⟨u_2, rfl, h⟩ := hq
  refine zm_istore (lv' := [(7, .int r_1), (0, .ref b), (1, .ref (g.2.2.1 0)), (2, .ref (g.2.2.1 117)), (3, .ref (g.2.2.1 131)), (4, .ref (g.2.2.1 132)), (5, .int x5), (6, .int x6)]) C dL_law_1043 (by decide) rfl ?_
  refine zm_aload_n C dL_law_1045 rfl 3 rfl ?_
  refine zm_ci (zr_V (As := []) (rest := []) C (c_X10_thrown l g u u_2 (o, dd)  h) wd_1176 wd_1177 wd_1178 wd_11 wd_1179 hy_X10_thrown rfl rfl ⟨by decide, by decide⟩ ⟨(show (cz + 2) + 0 ≤ 603072 by omega), (show (sz + 12) + 0 ≤ 7207018 by omega)⟩ (ci := 10) (by decide) (zCell_k kd_117) rfl rfl rfl rfl (Nat.le_of_ble_eq_true rfl) dL_law_1046) (fun r_3 M1 hq => ?_)
  obtain ⟨rfl, h⟩ := hq
  refine zm_iload C dL_law_1049 7 rfl ?_
  refine zm_icmp_eq (tgt := 1056) C dL_law_1051 (by decide) (fun hc_5 => ?_) (fun hc_5 => ?_)
  · have h := h.1 hc_5
    refine zm_iload C dL_law_1056 7 rfl ?_
    refine zm_if_ne (tgt := 1073) C dL_law_1058 (by decide) (fun hc_6 => ?_) (fun hc_6 => ?_)
    · have h := h.1 hc_6
      exact (zm_sub [1, 2, 3, 4, 5, 6] rfl (vb_law_1073 C hX hbl hbA hcz hsz hstk hL28 _ _ _ _ _ h))
    · have h := h.2 hc_6
      refine zm_aload_n C dL_law_1061 rfl 4 rfl ?_
      refine zm_iconst (v := 0) C dL_law_1062 (by decide) ?_
      refine zm_ldL C zIn01 dL_law_1063 ?_
      refine zm_iload C dL_law_1064 0 rfl ?_
      refine zm_i2l C dL_law_1066 ?_
      refine zm_lcmp C dL_law_1067 ?_
      refine zm_if_eq (tgt := 1073) C dL_law_1068 (by decide) (fun hc_7 => ?_) (fun hc_7 => ?_)
      · have h := h.1 hc_7
        exact (zm_sub [1, 2, 3, 4, 5, 6] rfl (vb_law_1073 C hX hbl hbA hcz hsz hstk hL28 _ _ _ _ _ h))
      · have h := h.2 hc_7
        refine zm_iconst (v := 0) C dL_law_1071 (by decide) ?_
        exact h.elim
  · have h := h.2 hc_5
    refine zm_iconst (v := 0) C dL_law_1054 (by decide) ?_
    exact h.elim
def wb_law_1007 (xs : Nat → Int32) (L : Nat) (L28 : Int32 → MU → MU → (Nat → Int64) → (Nat → UInt64) → Prop) (x5 : Int32) (s0 : Int32) (s1 : Int32) (s2 : Int32) (u v : MU) (o : Nat → Int64) (dd : Nat → UInt64) : Prop := w_L_moveOf s2 s1 s0 u o (fun r_1 u_2 o_3 => vp_in (x5 + (1 : Int32)) L ∧ (vp_in (x5 + (2 : Int32)) L ∧ (vp_in (x5 + (3 : Int32)) L ∧ ((((xs ((x5 + (3 : Int32))).toNatClampNeg) = 0) → wb_law_1040 xs L L28 x5 r_1 (0 : Int32) (xs ((x5 + (2 : Int32))).toNatClampNeg) (xs ((x5 + (1 : Int32))).toNatClampNeg) u_2 v o_3 dd) ∧ ((¬ (xs ((x5 + (3 : Int32))).toNatClampNeg) = 0) → wb_law_1040 xs L L28 x5 r_1 (1 : Int32) (xs ((x5 + (2 : Int32))).toNatClampNeg) (xs ((x5 + (1 : Int32))).toNatClampNeg) u_2 v o_3 dd)))))
set_option maxHeartbeats 4000000 in
set_option maxRecDepth 100000 in
theorem vb_law_1007 {p : Program} {l : Launch} {e : Env} {s : State} {m : MethodId} {args : Array Value} {below : List Frame} {meth : Method} {c : Code} {g : GE} {Qz : State → Prop} {b L : Nat} {xs : Nat → Int32} (C : zCx p l s m args meth c g RL cL_law 9) (hX : va_X b L xs s s.heap) (hbl : b < s.heap.size) (hbA : ¬ zA g b) {cz sz : Nat} (hcz : cz + 2 ≤ 603072) (hsz : sz + 12 ≤ 7207018) (hstk : l.stackTraces = false) {L28 : Int32 → MU → MU → (Nat → Int64) → (Nat → UInt64) → Prop} (hL28 : ∀ (x5 : Int32) (u v : MU) (o : Nat → Int64) (dd : Nat → UInt64), L28 x5 u v o dd → WM p l e room_1 s m args below meth c g 9 (cz + 2) (sz + 12) Qz 28 [(0, .ref b), (1, .ref (g.2.2.1 0)), (2, .ref (g.2.2.1 117)), (3, .ref (g.2.2.1 131)), (4, .ref (g.2.2.1 132)), (5, .int x5)] [] (u, v, o, dd)) (x5 : Int32) (s0 : Int32) (s1 : Int32) (s2 : Int32) (u v : MU) (o : Nat → Int64) (dd : Nat → UInt64) (h : wb_law_1007 xs L L28 x5 s0 s1 s2 u v o dd) : WM p l e room_1 s m args below meth c g 9 cz sz Qz 1007 [(0, .ref b), (1, .ref (g.2.2.1 0)), (2, .ref (g.2.2.1 117)), (3, .ref (g.2.2.1 131)), (4, .ref (g.2.2.1 132)), (5, .int x5)] [.int s0, .int s1, .int s2, .ref (g.2.2.1 0)] (u, v, o, dd) := by
  unfold wb_law_1007 at h
  refine zm_aload_n C dL_law_1007 rfl 3 rfl ?_
  refine zm_ci (zr_SW (As := [.ref (g.2.2.1 0), .int s2, .int s1, .int s0, .ref (g.2.2.1 131)]) (rest := []) C (c_L_moveOf l hstk g u v o dd s2 s1 s0 h) wd_793 wd_794 wd_0 wd_795 hz_L_moveOf rfl rfl ⟨by decide, by decide⟩ ⟨(show cz + 2 ≤ 603072 by omega), (show sz + 12 ≤ 7207018 by omega)⟩ rfl rfl (Nat.le_of_ble_eq_true rfl) dL_law_1008) (fun r_1 M1 hq => ?_)
  obtain ⟨u_2, o_3, rfl, h⟩ := hq
  refine zm_istore (lv' := [(6, .int r_1), (0, .ref b), (1, .ref (g.2.2.1 0)), (2, .ref (g.2.2.1 117)), (3, .ref (g.2.2.1 131)), (4, .ref (g.2.2.1 132)), (5, .int x5)]) C dL_law_1011 (by decide) rfl ?_
  refine zm_aload_n C dL_law_1013 rfl 3 rfl ?_
  refine zm_aload_n C dL_law_1014 rfl 1 rfl ?_
  refine zm_iload C dL_law_1015 6 rfl ?_
  refine zm_iconst (v := 1) C dL_law_1017 (by decide) ?_
  refine zm_iadd C dL_law_1018 ?_
  obtain ⟨hg_4, h⟩ := h
  refine zm_sld C hX hbl hbA hg_4 dL_law_1019 ?_
  refine zm_aload_n C dL_law_1020 rfl 1 rfl ?_
  refine zm_iload C dL_law_1021 6 rfl ?_
  refine zm_iconst (v := 2) C dL_law_1023 (by decide) ?_
  refine zm_iadd C dL_law_1024 ?_
  obtain ⟨hg_5, h⟩ := h
  refine zm_sld C hX hbl hbA hg_5 dL_law_1025 ?_
  refine zm_aload_n C dL_law_1026 rfl 1 rfl ?_
  refine zm_iload C dL_law_1027 6 rfl ?_
  refine zm_iconst (v := 3) C dL_law_1029 (by decide) ?_
  refine zm_iadd C dL_law_1030 ?_
  obtain ⟨hg_6, h⟩ := h
  refine zm_sld C hX hbl hbA hg_6 dL_law_1031 ?_
  refine zm_if_eq (tgt := 1039) C dL_law_1032 (by decide) (fun hc_7 => ?_) (fun hc_7 => ?_)
  · have h := h.1 hc_7
    refine zm_iconst (v := 0) C dL_law_1039 (by decide) ?_
    exact (zm_sub [1, 2, 3, 4, 5, 6, 0] rfl (vb_law_1040 C hX hbl hbA hcz hsz hstk hL28 _ _ _ _ _ _ _ _ _ h))
  · have h := h.2 hc_7
    refine zm_iconst (v := 1) C dL_law_1035 (by decide) ?_
    refine zm_goto (tgt := 1040) C dL_law_1036 (by decide) ?_
    exact (zm_sub [1, 2, 3, 4, 5, 6, 0] rfl (vb_law_1040 C hX hbl hbA hcz hsz hstk hL28 _ _ _ _ _ _ _ _ _ h))
def wb_law_980 (xs : Nat → Int32) (L : Nat) (L28 : Int32 → MU → MU → (Nat → Int64) → (Nat → UInt64) → Prop) (x5 : Int32) (u v : MU) (o : Nat → Int64) (dd : Nat → UInt64) : Prop := vp_in (x5 + (1 : Int32)) L ∧ (vp_in (x5 + (2 : Int32)) L ∧ (vp_in (x5 + (3 : Int32)) L ∧ ((((xs ((x5 + (3 : Int32))).toNatClampNeg) = 0) → wb_law_1007 xs L L28 x5 (0 : Int32) (xs ((x5 + (2 : Int32))).toNatClampNeg) (xs ((x5 + (1 : Int32))).toNatClampNeg) u v o dd) ∧ ((¬ (xs ((x5 + (3 : Int32))).toNatClampNeg) = 0) → wb_law_1007 xs L L28 x5 (1 : Int32) (xs ((x5 + (2 : Int32))).toNatClampNeg) (xs ((x5 + (1 : Int32))).toNatClampNeg) u v o dd))))
set_option maxHeartbeats 4000000 in
set_option maxRecDepth 100000 in
theorem vb_law_980 {p : Program} {l : Launch} {e : Env} {s : State} {m : MethodId} {args : Array Value} {below : List Frame} {meth : Method} {c : Code} {g : GE} {Qz : State → Prop} {b L : Nat} {xs : Nat → Int32} (C : zCx p l s m args meth c g RL cL_law 9) (hX : va_X b L xs s s.heap) (hbl : b < s.heap.size) (hbA : ¬ zA g b) {cz sz : Nat} (hcz : cz + 2 ≤ 603072) (hsz : sz + 12 ≤ 7207018) (hstk : l.stackTraces = false) {L28 : Int32 → MU → MU → (Nat → Int64) → (Nat → UInt64) → Prop} (hL28 : ∀ (x5 : Int32) (u v : MU) (o : Nat → Int64) (dd : Nat → UInt64), L28 x5 u v o dd → WM p l e room_1 s m args below meth c g 9 (cz + 2) (sz + 12) Qz 28 [(0, .ref b), (1, .ref (g.2.2.1 0)), (2, .ref (g.2.2.1 117)), (3, .ref (g.2.2.1 131)), (4, .ref (g.2.2.1 132)), (5, .int x5)] [] (u, v, o, dd)) (x5 : Int32) (u v : MU) (o : Nat → Int64) (dd : Nat → UInt64) (h : wb_law_980 xs L L28 x5 u v o dd) : WM p l e room_1 s m args below meth c g 9 cz sz Qz 980 [(0, .ref b), (1, .ref (g.2.2.1 0)), (2, .ref (g.2.2.1 117)), (3, .ref (g.2.2.1 131)), (4, .ref (g.2.2.1 132)), (5, .int x5)] [] (u, v, o, dd) := by
  unfold wb_law_980 at h
  refine zm_aload_n C dL_law_980 rfl 1 rfl ?_
  refine zm_aload_n C dL_law_981 rfl 0 rfl ?_
  refine zm_iload C dL_law_982 5 rfl ?_
  refine zm_iconst (v := 1) C dL_law_984 (by decide) ?_
  refine zm_iadd C dL_law_985 ?_
  obtain ⟨hg_1, h⟩ := h
  refine zm_sld C hX hbl hbA hg_1 dL_law_986 ?_
  refine zm_aload_n C dL_law_987 rfl 0 rfl ?_
  refine zm_iload C dL_law_988 5 rfl ?_
  refine zm_iconst (v := 2) C dL_law_990 (by decide) ?_
  refine zm_iadd C dL_law_991 ?_
  obtain ⟨hg_2, h⟩ := h
  refine zm_sld C hX hbl hbA hg_2 dL_law_992 ?_
  refine zm_aload_n C dL_law_993 rfl 0 rfl ?_
  refine zm_iload C dL_law_994 5 rfl ?_
  refine zm_iconst (v := 3) C dL_law_996 (by decide) ?_
  refine zm_iadd C dL_law_997 ?_
  obtain ⟨hg_3, h⟩ := h
  refine zm_sld C hX hbl hbA hg_3 dL_law_998 ?_
  refine zm_if_eq (tgt := 1006) C dL_law_999 (by decide) (fun hc_4 => ?_) (fun hc_4 => ?_)
  · have h := h.1 hc_4
    refine zm_iconst (v := 0) C dL_law_1006 (by decide) ?_
    exact (zm_sub [0, 1, 2, 3, 4, 5] rfl (vb_law_1007 C hX hbl hbA hcz hsz hstk hL28 _ _ _ _ _ _ _ _ h))
  · have h := h.2 hc_4
    refine zm_iconst (v := 1) C dL_law_1002 (by decide) ?_
    refine zm_goto (tgt := 1007) C dL_law_1003 (by decide) ?_
    exact (zm_sub [0, 1, 2, 3, 4, 5] rfl (vb_law_1007 C hX hbl hbA hcz hsz hstk hL28 _ _ _ _ _ _ _ _ h))
def wb_law_1129 (xs : Nat → Int32) (L : Nat) (L28 : Int32 → MU → MU → (Nat → Int64) → (Nat → UInt64) → Prop) (x5 : Int32) (u v : MU) (o : Nat → Int64) (dd : Nat → UInt64) : Prop := wb_law_2328 xs L L28 x5 u v o dd
set_option maxHeartbeats 4000000 in
set_option maxRecDepth 100000 in
theorem vb_law_1129 {p : Program} {l : Launch} {e : Env} {s : State} {m : MethodId} {args : Array Value} {below : List Frame} {meth : Method} {c : Code} {g : GE} {Qz : State → Prop} {b L : Nat} {xs : Nat → Int32} (C : zCx p l s m args meth c g RL cL_law 9) (hX : va_X b L xs s s.heap) (hbl : b < s.heap.size) (hbA : ¬ zA g b) {cz sz : Nat} (hcz : cz + 2 ≤ 603072) (hsz : sz + 12 ≤ 7207018) (hstk : l.stackTraces = false) {L28 : Int32 → MU → MU → (Nat → Int64) → (Nat → UInt64) → Prop} (hL28 : ∀ (x5 : Int32) (u v : MU) (o : Nat → Int64) (dd : Nat → UInt64), L28 x5 u v o dd → WM p l e room_1 s m args below meth c g 9 (cz + 2) (sz + 12) Qz 28 [(0, .ref b), (1, .ref (g.2.2.1 0)), (2, .ref (g.2.2.1 117)), (3, .ref (g.2.2.1 131)), (4, .ref (g.2.2.1 132)), (5, .int x5)] [] (u, v, o, dd)) (x5 : Int32) (u v : MU) (o : Nat → Int64) (dd : Nat → UInt64) (h : wb_law_1129 xs L L28 x5 u v o dd) : WM p l e room_1 s m args below meth c g 9 (cz + 2) (sz + 12) Qz 1129 [(0, .ref b), (1, .ref (g.2.2.1 0)), (2, .ref (g.2.2.1 117)), (3, .ref (g.2.2.1 131)), (4, .ref (g.2.2.1 132)), (5, .int x5)] [] (u, v, o, dd) := by
  unfold wb_law_1129 at h
  refine zm_goto (tgt := 2328) C dL_law_1129 (by decide) ?_
  exact (zm_sub [0, 1, 2, 3, 4, 5] rfl (vb_law_2328 C hX hbl hbA hcz hsz hstk hL28 _ _ _ _ _ h))
def wb_law_1076 (xs : Nat → Int32) (L : Nat) (L28 : Int32 → MU → MU → (Nat → Int64) → (Nat → UInt64) → Prop) (x5 : Int32) (u v : MU) (o : Nat → Int64) (dd : Nat → UInt64) : Prop := vp_in (x5 + (1 : Int32)) L ∧ (w_L_best (xs ((x5 + (1 : Int32))).toNatClampNeg) u o (fun r_2 u_3 o_4 => vp_in (x5 + (1 : Int32)) L ∧ (w_X10_best (xs ((x5 + (1 : Int32))).toNatClampNeg) v (fun r_6 u_7 => w_X10_thrown u_7  (fun r_8 => ((r_8 = r_2) → ((¬ r_2 = 0) → wb_law_1129 xs L L28 x5 u_3 u_7 o_4 dd) ∧ ((r_2 = 0) → (((lg_cmp (o_4 ((0 : Int32)).toNatClampNeg) r_6.toInt64) = 0) → wb_law_1129 xs L L28 x5 u_3 u_7 o_4 dd) ∧ ((¬ (lg_cmp (o_4 ((0 : Int32)).toNatClampNeg) r_6.toInt64) = 0) → False))) ∧ ((¬ r_8 = r_2) → False))))))
set_option maxHeartbeats 4000000 in
set_option maxRecDepth 100000 in
theorem vb_law_1076 {p : Program} {l : Launch} {e : Env} {s : State} {m : MethodId} {args : Array Value} {below : List Frame} {meth : Method} {c : Code} {g : GE} {Qz : State → Prop} {b L : Nat} {xs : Nat → Int32} (C : zCx p l s m args meth c g RL cL_law 9) (hX : va_X b L xs s s.heap) (hbl : b < s.heap.size) (hbA : ¬ zA g b) {cz sz : Nat} (hcz : cz + 2 ≤ 603072) (hsz : sz + 12 ≤ 7207018) (hstk : l.stackTraces = false) {L28 : Int32 → MU → MU → (Nat → Int64) → (Nat → UInt64) → Prop} (hL28 : ∀ (x5 : Int32) (u v : MU) (o : Nat → Int64) (dd : Nat → UInt64), L28 x5 u v o dd → WM p l e room_1 s m args below meth c g 9 (cz + 2) (sz + 12) Qz 28 [(0, .ref b), (1, .ref (g.2.2.1 0)), (2, .ref (g.2.2.1 117)), (3, .ref (g.2.2.1 131)), (4, .ref (g.2.2.1 132)), (5, .int x5)] [] (u, v, o, dd)) (x5 : Int32) (u v : MU) (o : Nat → Int64) (dd : Nat → UInt64) (h : wb_law_1076 xs L L28 x5 u v o dd) : WM p l e room_1 s m args below meth c g 9 cz sz Qz 1076 [(0, .ref b), (1, .ref (g.2.2.1 0)), (2, .ref (g.2.2.1 117)), (3, .ref (g.2.2.1 131)), (4, .ref (g.2.2.1 132)), (5, .int x5)] [] (u, v, o, dd) := by
  unfold wb_law_1076 at h
  refine zm_aload_n C dL_law_1076 rfl 1 rfl ?_
  refine zm_aload_n C dL_law_1077 rfl 0 rfl ?_
  refine zm_iload C dL_law_1078 5 rfl ?_
  refine zm_iconst (v := 1) C dL_law_1080 (by decide) ?_
  refine zm_iadd C dL_law_1081 ?_
  obtain ⟨hg_1, h⟩ := h
  refine zm_sld C hX hbl hbA hg_1 dL_law_1082 ?_
  refine zm_aload_n C dL_law_1083 rfl 3 rfl ?_
  refine zm_ci (zr_SW (As := [.ref (g.2.2.1 0), .int (xs ((x5 + (1 : Int32))).toNatClampNeg), .ref (g.2.2.1 131)]) (rest := []) C (c_L_best l hstk g u v o dd (xs ((x5 + (1 : Int32))).toNatClampNeg) h) wd_803 wd_804 wd_0 wd_805 hz_L_best rfl rfl ⟨by decide, by decide⟩ ⟨(show cz + 2 ≤ 603072 by omega), (show sz + 12 ≤ 7207018 by omega)⟩ rfl rfl (Nat.le_of_ble_eq_true rfl) dL_law_1084) (fun r_2 M1 hq => ?_)
  obtain ⟨u_3, o_4, rfl, h⟩ := hq
  refine zm_istore (lv' := [(6, .int r_2), (0, .ref b), (1, .ref (g.2.2.1 0)), (2, .ref (g.2.2.1 117)), (3, .ref (g.2.2.1 131)), (4, .ref (g.2.2.1 132)), (5, .int x5)]) C dL_law_1087 (by decide) rfl ?_
  refine zm_aload_n C dL_law_1089 rfl 3 rfl ?_
  refine zm_aload_n C dL_law_1090 rfl 1 rfl ?_
  refine zm_iload C dL_law_1091 6 rfl ?_
  refine zm_iconst (v := 1) C dL_law_1093 (by decide) ?_
  refine zm_iadd C dL_law_1094 ?_
  obtain ⟨hg_5, h⟩ := h
  refine zm_sld C hX hbl hbA hg_5 dL_law_1095 ?_
  refine zm_ci (zr_V (As := [.int (xs ((x5 + (1 : Int32))).toNatClampNeg)]) (rest := []) C (c_X10_best l g u_3 v (o_4, dd) (xs ((x5 + (1 : Int32))).toNatClampNeg) h) wd_1364 wd_1365 wd_1366 wd_11 wd_1367 hy_X10_best rfl rfl ⟨by decide, by decide⟩ ⟨(show (cz + 2) + 0 ≤ 603072 by omega), (show (sz + 12) + 0 ≤ 7207018 by omega)⟩ (ci := 10) (by decide) (zCell_k kd_117) rfl rfl rfl rfl (Nat.le_of_ble_eq_true rfl) dL_law_1096) (fun r_6 M1 hq => ?_)
  obtain ⟨u_7, rfl, h⟩ := hq
  refine zm_istore (lv' := [(7, .int r_6), (6, .int r_2), (0, .ref b), (1, .ref (g.2.2.1 0)), (2, .ref (g.2.2.1 117)), (3, .ref (g.2.2.1 131)), (4, .ref (g.2.2.1 132)), (5, .int x5)]) C dL_law_1099 (by decide) rfl ?_
  refine zm_aload_n C dL_law_1101 rfl 4 rfl ?_
  refine zm_ci (zr_V (As := []) (rest := []) C (c_X10_thrown l g u_3 u_7 (o_4, dd)  h) wd_1176 wd_1177 wd_1178 wd_11 wd_1179 hy_X10_thrown rfl rfl ⟨by decide, by decide⟩ ⟨(show (cz + 2) + 0 ≤ 603072 by omega), (show (sz + 12) + 0 ≤ 7207018 by omega)⟩ (ci := 10) (by decide) (zCell_k kd_117) rfl rfl rfl rfl (Nat.le_of_ble_eq_true rfl) dL_law_1102) (fun r_8 M1 hq => ?_)
  obtain ⟨rfl, h⟩ := hq
  refine zm_iload C dL_law_1105 1 rfl ?_
  refine zm_icmp_eq (tgt := 1112) C dL_law_1107 (by decide) (fun hc_10 => ?_) (fun hc_10 => ?_)
  · have h := h.1 hc_10
    refine zm_iload C dL_law_1112 1 rfl ?_
    refine zm_if_ne (tgt := 1129) C dL_law_1114 (by decide) (fun hc_11 => ?_) (fun hc_11 => ?_)
    · have h := h.1 hc_11
      exact (zm_sub [2, 3, 4, 5, 6, 7] rfl (vb_law_1129 C hX hbl hbA hcz hsz hstk hL28 _ _ _ _ _ h))
    · have h := h.2 hc_11
      refine zm_aload_n C dL_law_1117 rfl 5 rfl ?_
      refine zm_iconst (v := 0) C dL_law_1118 (by decide) ?_
      refine zm_ldL C zIn01 dL_law_1119 ?_
      refine zm_iload C dL_law_1120 0 rfl ?_
      refine zm_i2l C dL_law_1122 ?_
      refine zm_lcmp C dL_law_1123 ?_
      refine zm_if_eq (tgt := 1129) C dL_law_1124 (by decide) (fun hc_12 => ?_) (fun hc_12 => ?_)
      · have h := h.1 hc_12
        exact (zm_sub [2, 3, 4, 5, 6, 7] rfl (vb_law_1129 C hX hbl hbA hcz hsz hstk hL28 _ _ _ _ _ h))
      · have h := h.2 hc_12
        refine zm_iconst (v := 0) C dL_law_1127 (by decide) ?_
        exact h.elim
  · have h := h.2 hc_10
    refine zm_iconst (v := 0) C dL_law_1110 (by decide) ?_
    exact h.elim
def wb_law_1209 (xs : Nat → Int32) (L : Nat) (L28 : Int32 → MU → MU → (Nat → Int64) → (Nat → UInt64) → Prop) (x5 : Int32) (u v : MU) (o : Nat → Int64) (dd : Nat → UInt64) : Prop := wb_law_2328 xs L L28 x5 u v o dd
set_option maxHeartbeats 4000000 in
set_option maxRecDepth 100000 in
theorem vb_law_1209 {p : Program} {l : Launch} {e : Env} {s : State} {m : MethodId} {args : Array Value} {below : List Frame} {meth : Method} {c : Code} {g : GE} {Qz : State → Prop} {b L : Nat} {xs : Nat → Int32} (C : zCx p l s m args meth c g RL cL_law 9) (hX : va_X b L xs s s.heap) (hbl : b < s.heap.size) (hbA : ¬ zA g b) {cz sz : Nat} (hcz : cz + 2 ≤ 603072) (hsz : sz + 12 ≤ 7207018) (hstk : l.stackTraces = false) {L28 : Int32 → MU → MU → (Nat → Int64) → (Nat → UInt64) → Prop} (hL28 : ∀ (x5 : Int32) (u v : MU) (o : Nat → Int64) (dd : Nat → UInt64), L28 x5 u v o dd → WM p l e room_1 s m args below meth c g 9 (cz + 2) (sz + 12) Qz 28 [(0, .ref b), (1, .ref (g.2.2.1 0)), (2, .ref (g.2.2.1 117)), (3, .ref (g.2.2.1 131)), (4, .ref (g.2.2.1 132)), (5, .int x5)] [] (u, v, o, dd)) (x5 : Int32) (u v : MU) (o : Nat → Int64) (dd : Nat → UInt64) (h : wb_law_1209 xs L L28 x5 u v o dd) : WM p l e room_1 s m args below meth c g 9 (cz + 2) (sz + 12) Qz 1209 [(0, .ref b), (1, .ref (g.2.2.1 0)), (2, .ref (g.2.2.1 117)), (3, .ref (g.2.2.1 131)), (4, .ref (g.2.2.1 132)), (5, .int x5)] [] (u, v, o, dd) := by
  unfold wb_law_1209 at h
  refine zm_goto (tgt := 2328) C dL_law_1209 (by decide) ?_
  exact (zm_sub [0, 1, 2, 3, 4, 5] rfl (vb_law_2328 C hX hbl hbA hcz hsz hstk hL28 _ _ _ _ _ h))
def wb_law_1132 (xs : Nat → Int32) (L : Nat) (L28 : Int32 → MU → MU → (Nat → Int64) → (Nat → UInt64) → Prop) (x5 : Int32) (u v : MU) (o : Nat → Int64) (dd : Nat → UInt64) : Prop := vp_in (x5 + (1 : Int32)) L ∧ (vp_in (x5 + (2 : Int32)) L ∧ (vp_in (x5 + (3 : Int32)) L ∧ (w_L_after (xs ((x5 + (1 : Int32))).toNatClampNeg) (xs ((x5 + (2 : Int32))).toNatClampNeg) (xs ((x5 + (3 : Int32))).toNatClampNeg) u o (fun r_4 u_5 o_6 => vp_in (x5 + (1 : Int32)) L ∧ (vp_in (x5 + (2 : Int32)) L ∧ (vp_in (x5 + (3 : Int32)) L ∧ (w_X10_after (xs ((x5 + (1 : Int32))).toNatClampNeg) (xs ((x5 + (2 : Int32))).toNatClampNeg) (xs ((x5 + (3 : Int32))).toNatClampNeg) v (fun r_10 u_11 => w_X10_thrown u_11  (fun r_12 => ((r_12 = r_4) → ((¬ r_4 = 0) → wb_law_1209 xs L L28 x5 u_5 u_11 o_6 dd) ∧ ((r_4 = 0) → (((lg_cmp (o_6 ((0 : Int32)).toNatClampNeg) r_10.toInt64) = 0) → wb_law_1209 xs L L28 x5 u_5 u_11 o_6 dd) ∧ ((¬ (lg_cmp (o_6 ((0 : Int32)).toNatClampNeg) r_10.toInt64) = 0) → False))) ∧ ((¬ r_12 = r_4) → False))))))))))
set_option maxHeartbeats 4000000 in
set_option maxRecDepth 100000 in
theorem vb_law_1132 {p : Program} {l : Launch} {e : Env} {s : State} {m : MethodId} {args : Array Value} {below : List Frame} {meth : Method} {c : Code} {g : GE} {Qz : State → Prop} {b L : Nat} {xs : Nat → Int32} (C : zCx p l s m args meth c g RL cL_law 9) (hX : va_X b L xs s s.heap) (hbl : b < s.heap.size) (hbA : ¬ zA g b) {cz sz : Nat} (hcz : cz + 2 ≤ 603072) (hsz : sz + 12 ≤ 7207018) (hstk : l.stackTraces = false) {L28 : Int32 → MU → MU → (Nat → Int64) → (Nat → UInt64) → Prop} (hL28 : ∀ (x5 : Int32) (u v : MU) (o : Nat → Int64) (dd : Nat → UInt64), L28 x5 u v o dd → WM p l e room_1 s m args below meth c g 9 (cz + 2) (sz + 12) Qz 28 [(0, .ref b), (1, .ref (g.2.2.1 0)), (2, .ref (g.2.2.1 117)), (3, .ref (g.2.2.1 131)), (4, .ref (g.2.2.1 132)), (5, .int x5)] [] (u, v, o, dd)) (x5 : Int32) (u v : MU) (o : Nat → Int64) (dd : Nat → UInt64) (h : wb_law_1132 xs L L28 x5 u v o dd) : WM p l e room_1 s m args below meth c g 9 cz sz Qz 1132 [(0, .ref b), (1, .ref (g.2.2.1 0)), (2, .ref (g.2.2.1 117)), (3, .ref (g.2.2.1 131)), (4, .ref (g.2.2.1 132)), (5, .int x5)] [] (u, v, o, dd) := by
  unfold wb_law_1132 at h
  refine zm_aload_n C dL_law_1132 rfl 1 rfl ?_
  refine zm_aload_n C dL_law_1133 rfl 0 rfl ?_
  refine zm_iload C dL_law_1134 5 rfl ?_
  refine zm_iconst (v := 1) C dL_law_1136 (by decide) ?_
  refine zm_iadd C dL_law_1137 ?_
  obtain ⟨hg_1, h⟩ := h
  refine zm_sld C hX hbl hbA hg_1 dL_law_1138 ?_
  refine zm_aload_n C dL_law_1139 rfl 0 rfl ?_
  refine zm_iload C dL_law_1140 5 rfl ?_
  refine zm_iconst (v := 2) C dL_law_1142 (by decide) ?_
  refine zm_iadd C dL_law_1143 ?_
  obtain ⟨hg_2, h⟩ := h
  refine zm_sld C hX hbl hbA hg_2 dL_law_1144 ?_
  refine zm_aload_n C dL_law_1145 rfl 0 rfl ?_
  refine zm_iload C dL_law_1146 5 rfl ?_
  refine zm_iconst (v := 3) C dL_law_1148 (by decide) ?_
  refine zm_iadd C dL_law_1149 ?_
  obtain ⟨hg_3, h⟩ := h
  refine zm_sld C hX hbl hbA hg_3 dL_law_1150 ?_
  refine zm_aload_n C dL_law_1151 rfl 3 rfl ?_
  refine zm_ci (zr_SW (As := [.ref (g.2.2.1 0), .int (xs ((x5 + (1 : Int32))).toNatClampNeg), .int (xs ((x5 + (2 : Int32))).toNatClampNeg), .int (xs ((x5 + (3 : Int32))).toNatClampNeg), .ref (g.2.2.1 131)]) (rest := []) C (c_L_after l hstk g u v o dd (xs ((x5 + (1 : Int32))).toNatClampNeg) (xs ((x5 + (2 : Int32))).toNatClampNeg) (xs ((x5 + (3 : Int32))).toNatClampNeg) h) wd_811 wd_812 wd_0 wd_813 hz_L_after rfl rfl ⟨by decide, by decide⟩ ⟨(show cz + 2 ≤ 603072 by omega), (show sz + 12 ≤ 7207018 by omega)⟩ rfl rfl (Nat.le_of_ble_eq_true rfl) dL_law_1152) (fun r_4 M1 hq => ?_)
  obtain ⟨u_5, o_6, rfl, h⟩ := hq
  refine zm_istore (lv' := [(6, .int r_4), (0, .ref b), (1, .ref (g.2.2.1 0)), (2, .ref (g.2.2.1 117)), (3, .ref (g.2.2.1 131)), (4, .ref (g.2.2.1 132)), (5, .int x5)]) C dL_law_1155 (by decide) rfl ?_
  refine zm_aload_n C dL_law_1157 rfl 3 rfl ?_
  refine zm_aload_n C dL_law_1158 rfl 1 rfl ?_
  refine zm_iload C dL_law_1159 6 rfl ?_
  refine zm_iconst (v := 1) C dL_law_1161 (by decide) ?_
  refine zm_iadd C dL_law_1162 ?_
  obtain ⟨hg_7, h⟩ := h
  refine zm_sld C hX hbl hbA hg_7 dL_law_1163 ?_
  refine zm_aload_n C dL_law_1164 rfl 1 rfl ?_
  refine zm_iload C dL_law_1165 6 rfl ?_
  refine zm_iconst (v := 2) C dL_law_1167 (by decide) ?_
  refine zm_iadd C dL_law_1168 ?_
  obtain ⟨hg_8, h⟩ := h
  refine zm_sld C hX hbl hbA hg_8 dL_law_1169 ?_
  refine zm_aload_n C dL_law_1170 rfl 1 rfl ?_
  refine zm_iload C dL_law_1171 6 rfl ?_
  refine zm_iconst (v := 3) C dL_law_1173 (by decide) ?_
  refine zm_iadd C dL_law_1174 ?_
  obtain ⟨hg_9, h⟩ := h
  refine zm_sld C hX hbl hbA hg_9 dL_law_1175 ?_
  refine zm_ci (zr_V (As := [.int (xs ((x5 + (1 : Int32))).toNatClampNeg), .int (xs ((x5 + (2 : Int32))).toNatClampNeg), .int (xs ((x5 + (3 : Int32))).toNatClampNeg)]) (rest := []) C (c_X10_after l g u_5 v (o_6, dd) (xs ((x5 + (1 : Int32))).toNatClampNeg) (xs ((x5 + (2 : Int32))).toNatClampNeg) (xs ((x5 + (3 : Int32))).toNatClampNeg) h) wd_1368 wd_1369 wd_1370 wd_11 wd_1371 hy_X10_after rfl rfl ⟨by decide, by decide⟩ ⟨(show (cz + 2) + 0 ≤ 603072 by omega), (show (sz + 12) + 0 ≤ 7207018 by omega)⟩ (ci := 10) (by decide) (zCell_k kd_117) rfl rfl rfl rfl (Nat.le_of_ble_eq_true rfl) dL_law_1176) (fun r_10 M1 hq => ?_)
  obtain ⟨u_11, rfl, h⟩ := hq
  refine zm_istore (lv' := [(7, .int r_10), (6, .int r_4), (0, .ref b), (1, .ref (g.2.2.1 0)), (2, .ref (g.2.2.1 117)), (3, .ref (g.2.2.1 131)), (4, .ref (g.2.2.1 132)), (5, .int x5)]) C dL_law_1179 (by decide) rfl ?_
  refine zm_aload_n C dL_law_1181 rfl 4 rfl ?_
  refine zm_ci (zr_V (As := []) (rest := []) C (c_X10_thrown l g u_5 u_11 (o_6, dd)  h) wd_1176 wd_1177 wd_1178 wd_11 wd_1179 hy_X10_thrown rfl rfl ⟨by decide, by decide⟩ ⟨(show (cz + 2) + 0 ≤ 603072 by omega), (show (sz + 12) + 0 ≤ 7207018 by omega)⟩ (ci := 10) (by decide) (zCell_k kd_117) rfl rfl rfl rfl (Nat.le_of_ble_eq_true rfl) dL_law_1182) (fun r_12 M1 hq => ?_)
  obtain ⟨rfl, h⟩ := hq
  refine zm_iload C dL_law_1185 1 rfl ?_
  refine zm_icmp_eq (tgt := 1192) C dL_law_1187 (by decide) (fun hc_14 => ?_) (fun hc_14 => ?_)
  · have h := h.1 hc_14
    refine zm_iload C dL_law_1192 1 rfl ?_
    refine zm_if_ne (tgt := 1209) C dL_law_1194 (by decide) (fun hc_15 => ?_) (fun hc_15 => ?_)
    · have h := h.1 hc_15
      exact (zm_sub [2, 3, 4, 5, 6, 7] rfl (vb_law_1209 C hX hbl hbA hcz hsz hstk hL28 _ _ _ _ _ h))
    · have h := h.2 hc_15
      refine zm_aload_n C dL_law_1197 rfl 5 rfl ?_
      refine zm_iconst (v := 0) C dL_law_1198 (by decide) ?_
      refine zm_ldL C zIn01 dL_law_1199 ?_
      refine zm_iload C dL_law_1200 0 rfl ?_
      refine zm_i2l C dL_law_1202 ?_
      refine zm_lcmp C dL_law_1203 ?_
      refine zm_if_eq (tgt := 1209) C dL_law_1204 (by decide) (fun hc_16 => ?_) (fun hc_16 => ?_)
      · have h := h.1 hc_16
        exact (zm_sub [2, 3, 4, 5, 6, 7] rfl (vb_law_1209 C hX hbl hbA hcz hsz hstk hL28 _ _ _ _ _ h))
      · have h := h.2 hc_16
        refine zm_iconst (v := 0) C dL_law_1207 (by decide) ?_
        exact h.elim
  · have h := h.2 hc_14
    refine zm_iconst (v := 0) C dL_law_1190 (by decide) ?_
    exact h.elim
def wb_law_1265 (xs : Nat → Int32) (L : Nat) (L28 : Int32 → MU → MU → (Nat → Int64) → (Nat → UInt64) → Prop) (x5 : Int32) (u v : MU) (o : Nat → Int64) (dd : Nat → UInt64) : Prop := wb_law_2328 xs L L28 x5 u v o dd
set_option maxHeartbeats 4000000 in
set_option maxRecDepth 100000 in
theorem vb_law_1265 {p : Program} {l : Launch} {e : Env} {s : State} {m : MethodId} {args : Array Value} {below : List Frame} {meth : Method} {c : Code} {g : GE} {Qz : State → Prop} {b L : Nat} {xs : Nat → Int32} (C : zCx p l s m args meth c g RL cL_law 9) (hX : va_X b L xs s s.heap) (hbl : b < s.heap.size) (hbA : ¬ zA g b) {cz sz : Nat} (hcz : cz + 2 ≤ 603072) (hsz : sz + 12 ≤ 7207018) (hstk : l.stackTraces = false) {L28 : Int32 → MU → MU → (Nat → Int64) → (Nat → UInt64) → Prop} (hL28 : ∀ (x5 : Int32) (u v : MU) (o : Nat → Int64) (dd : Nat → UInt64), L28 x5 u v o dd → WM p l e room_1 s m args below meth c g 9 (cz + 2) (sz + 12) Qz 28 [(0, .ref b), (1, .ref (g.2.2.1 0)), (2, .ref (g.2.2.1 117)), (3, .ref (g.2.2.1 131)), (4, .ref (g.2.2.1 132)), (5, .int x5)] [] (u, v, o, dd)) (x5 : Int32) (u v : MU) (o : Nat → Int64) (dd : Nat → UInt64) (h : wb_law_1265 xs L L28 x5 u v o dd) : WM p l e room_1 s m args below meth c g 9 (cz + 2) (sz + 12) Qz 1265 [(0, .ref b), (1, .ref (g.2.2.1 0)), (2, .ref (g.2.2.1 117)), (3, .ref (g.2.2.1 131)), (4, .ref (g.2.2.1 132)), (5, .int x5)] [] (u, v, o, dd) := by
  unfold wb_law_1265 at h
  refine zm_goto (tgt := 2328) C dL_law_1265 (by decide) ?_
  exact (zm_sub [0, 1, 2, 3, 4, 5] rfl (vb_law_2328 C hX hbl hbA hcz hsz hstk hL28 _ _ _ _ _ h))
def wb_law_1212 (xs : Nat → Int32) (L : Nat) (L28 : Int32 → MU → MU → (Nat → Int64) → (Nat → UInt64) → Prop) (x5 : Int32) (u v : MU) (o : Nat → Int64) (dd : Nat → UInt64) : Prop := vp_in (x5 + (1 : Int32)) L ∧ (w_L_ends (xs ((x5 + (1 : Int32))).toNatClampNeg) u o (fun r_2 u_3 o_4 => vp_in (x5 + (1 : Int32)) L ∧ (w_X10_ends (xs ((x5 + (1 : Int32))).toNatClampNeg) v (fun r_6 u_7 => w_X10_thrown u_7  (fun r_8 => ((r_8 = r_2) → ((¬ r_2 = 0) → wb_law_1265 xs L L28 x5 u_3 u_7 o_4 dd) ∧ ((r_2 = 0) → (((lg_cmp (o_4 ((0 : Int32)).toNatClampNeg) r_6.toInt64) = 0) → wb_law_1265 xs L L28 x5 u_3 u_7 o_4 dd) ∧ ((¬ (lg_cmp (o_4 ((0 : Int32)).toNatClampNeg) r_6.toInt64) = 0) → False))) ∧ ((¬ r_8 = r_2) → False))))))
set_option maxHeartbeats 4000000 in
set_option maxRecDepth 100000 in
theorem vb_law_1212 {p : Program} {l : Launch} {e : Env} {s : State} {m : MethodId} {args : Array Value} {below : List Frame} {meth : Method} {c : Code} {g : GE} {Qz : State → Prop} {b L : Nat} {xs : Nat → Int32} (C : zCx p l s m args meth c g RL cL_law 9) (hX : va_X b L xs s s.heap) (hbl : b < s.heap.size) (hbA : ¬ zA g b) {cz sz : Nat} (hcz : cz + 2 ≤ 603072) (hsz : sz + 12 ≤ 7207018) (hstk : l.stackTraces = false) {L28 : Int32 → MU → MU → (Nat → Int64) → (Nat → UInt64) → Prop} (hL28 : ∀ (x5 : Int32) (u v : MU) (o : Nat → Int64) (dd : Nat → UInt64), L28 x5 u v o dd → WM p l e room_1 s m args below meth c g 9 (cz + 2) (sz + 12) Qz 28 [(0, .ref b), (1, .ref (g.2.2.1 0)), (2, .ref (g.2.2.1 117)), (3, .ref (g.2.2.1 131)), (4, .ref (g.2.2.1 132)), (5, .int x5)] [] (u, v, o, dd)) (x5 : Int32) (u v : MU) (o : Nat → Int64) (dd : Nat → UInt64) (h : wb_law_1212 xs L L28 x5 u v o dd) : WM p l e room_1 s m args below meth c g 9 cz sz Qz 1212 [(0, .ref b), (1, .ref (g.2.2.1 0)), (2, .ref (g.2.2.1 117)), (3, .ref (g.2.2.1 131)), (4, .ref (g.2.2.1 132)), (5, .int x5)] [] (u, v, o, dd) := by
  unfold wb_law_1212 at h
  refine zm_aload_n C dL_law_1212 rfl 1 rfl ?_
  refine zm_aload_n C dL_law_1213 rfl 0 rfl ?_
  refine zm_iload C dL_law_1214 5 rfl ?_
  refine zm_iconst (v := 1) C dL_law_1216 (by decide) ?_
  refine zm_iadd C dL_law_1217 ?_
  obtain ⟨hg_1, h⟩ := h
  refine zm_sld C hX hbl hbA hg_1 dL_law_1218 ?_
  refine zm_aload_n C dL_law_1219 rfl 3 rfl ?_
  refine zm_ci (zr_SW (As := [.ref (g.2.2.1 0), .int (xs ((x5 + (1 : Int32))).toNatClampNeg), .ref (g.2.2.1 131)]) (rest := []) C (c_L_ends l hstk g u v o dd (xs ((x5 + (1 : Int32))).toNatClampNeg) h) wd_819 wd_820 wd_0 wd_821 hz_L_ends rfl rfl ⟨by decide, by decide⟩ ⟨(show cz + 2 ≤ 603072 by omega), (show sz + 12 ≤ 7207018 by omega)⟩ rfl rfl (Nat.le_of_ble_eq_true rfl) dL_law_1220) (fun r_2 M1 hq => ?_)
  obtain ⟨u_3, o_4, rfl, h⟩ := hq
  refine zm_istore (lv' := [(6, .int r_2), (0, .ref b), (1, .ref (g.2.2.1 0)), (2, .ref (g.2.2.1 117)), (3, .ref (g.2.2.1 131)), (4, .ref (g.2.2.1 132)), (5, .int x5)]) C dL_law_1223 (by decide) rfl ?_
  refine zm_aload_n C dL_law_1225 rfl 3 rfl ?_
  refine zm_aload_n C dL_law_1226 rfl 1 rfl ?_
  refine zm_iload C dL_law_1227 6 rfl ?_
  refine zm_iconst (v := 1) C dL_law_1229 (by decide) ?_
  refine zm_iadd C dL_law_1230 ?_
  obtain ⟨hg_5, h⟩ := h
  refine zm_sld C hX hbl hbA hg_5 dL_law_1231 ?_
  refine zm_ci (zr_V (As := [.int (xs ((x5 + (1 : Int32))).toNatClampNeg)]) (rest := []) C (c_X10_ends l g u_3 v (o_4, dd) (xs ((x5 + (1 : Int32))).toNatClampNeg) h) wd_1372 wd_1373 wd_1374 wd_11 wd_1375 hy_X10_ends rfl rfl ⟨by decide, by decide⟩ ⟨(show (cz + 2) + 0 ≤ 603072 by omega), (show (sz + 12) + 0 ≤ 7207018 by omega)⟩ (ci := 10) (by decide) (zCell_k kd_117) rfl rfl rfl rfl (Nat.le_of_ble_eq_true rfl) dL_law_1232) (fun r_6 M1 hq => ?_)
  obtain ⟨u_7, rfl, h⟩ := hq
  refine zm_istore (lv' := [(7, .int r_6), (6, .int r_2), (0, .ref b), (1, .ref (g.2.2.1 0)), (2, .ref (g.2.2.1 117)), (3, .ref (g.2.2.1 131)), (4, .ref (g.2.2.1 132)), (5, .int x5)]) C dL_law_1235 (by decide) rfl ?_
  refine zm_aload_n C dL_law_1237 rfl 4 rfl ?_
  refine zm_ci (zr_V (As := []) (rest := []) C (c_X10_thrown l g u_3 u_7 (o_4, dd)  h) wd_1176 wd_1177 wd_1178 wd_11 wd_1179 hy_X10_thrown rfl rfl ⟨by decide, by decide⟩ ⟨(show (cz + 2) + 0 ≤ 603072 by omega), (show (sz + 12) + 0 ≤ 7207018 by omega)⟩ (ci := 10) (by decide) (zCell_k kd_117) rfl rfl rfl rfl (Nat.le_of_ble_eq_true rfl) dL_law_1238) (fun r_8 M1 hq => ?_)
  obtain ⟨rfl, h⟩ := hq
  refine zm_iload C dL_law_1241 1 rfl ?_
  refine zm_icmp_eq (tgt := 1248) C dL_law_1243 (by decide) (fun hc_10 => ?_) (fun hc_10 => ?_)
  · have h := h.1 hc_10
    refine zm_iload C dL_law_1248 1 rfl ?_
    refine zm_if_ne (tgt := 1265) C dL_law_1250 (by decide) (fun hc_11 => ?_) (fun hc_11 => ?_)
    · have h := h.1 hc_11
      exact (zm_sub [2, 3, 4, 5, 6, 7] rfl (vb_law_1265 C hX hbl hbA hcz hsz hstk hL28 _ _ _ _ _ h))
    · have h := h.2 hc_11
      refine zm_aload_n C dL_law_1253 rfl 5 rfl ?_
      refine zm_iconst (v := 0) C dL_law_1254 (by decide) ?_
      refine zm_ldL C zIn01 dL_law_1255 ?_
      refine zm_iload C dL_law_1256 0 rfl ?_
      refine zm_i2l C dL_law_1258 ?_
      refine zm_lcmp C dL_law_1259 ?_
      refine zm_if_eq (tgt := 1265) C dL_law_1260 (by decide) (fun hc_12 => ?_) (fun hc_12 => ?_)
      · have h := h.1 hc_12
        exact (zm_sub [2, 3, 4, 5, 6, 7] rfl (vb_law_1265 C hX hbl hbA hcz hsz hstk hL28 _ _ _ _ _ h))
      · have h := h.2 hc_12
        refine zm_iconst (v := 0) C dL_law_1263 (by decide) ?_
        exact h.elim
  · have h := h.2 hc_10
    refine zm_iconst (v := 0) C dL_law_1246 (by decide) ?_
    exact h.elim
def wb_law_1349 (xs : Nat → Int32) (L : Nat) (L28 : Int32 → MU → MU → (Nat → Int64) → (Nat → UInt64) → Prop) (x5 : Int32) (u v : MU) (o : Nat → Int64) (dd : Nat → UInt64) : Prop := wb_law_2328 xs L L28 x5 u v o dd
set_option maxHeartbeats 4000000 in
set_option maxRecDepth 100000 in
theorem vb_law_1349 {p : Program} {l : Launch} {e : Env} {s : State} {m : MethodId} {args : Array Value} {below : List Frame} {meth : Method} {c : Code} {g : GE} {Qz : State → Prop} {b L : Nat} {xs : Nat → Int32} (C : zCx p l s m args meth c g RL cL_law 9) (hX : va_X b L xs s s.heap) (hbl : b < s.heap.size) (hbA : ¬ zA g b) {cz sz : Nat} (hcz : cz + 2 ≤ 603072) (hsz : sz + 12 ≤ 7207018) (hstk : l.stackTraces = false) {L28 : Int32 → MU → MU → (Nat → Int64) → (Nat → UInt64) → Prop} (hL28 : ∀ (x5 : Int32) (u v : MU) (o : Nat → Int64) (dd : Nat → UInt64), L28 x5 u v o dd → WM p l e room_1 s m args below meth c g 9 (cz + 2) (sz + 12) Qz 28 [(0, .ref b), (1, .ref (g.2.2.1 0)), (2, .ref (g.2.2.1 117)), (3, .ref (g.2.2.1 131)), (4, .ref (g.2.2.1 132)), (5, .int x5)] [] (u, v, o, dd)) (x5 : Int32) (u v : MU) (o : Nat → Int64) (dd : Nat → UInt64) (h : wb_law_1349 xs L L28 x5 u v o dd) : WM p l e room_1 s m args below meth c g 9 (cz + 1) (sz + 6) Qz 1349 [(0, .ref b), (1, .ref (g.2.2.1 0)), (2, .ref (g.2.2.1 117)), (3, .ref (g.2.2.1 131)), (4, .ref (g.2.2.1 132)), (5, .int x5)] [] (u, v, o, dd) := by
  unfold wb_law_1349 at h
  refine zm_goto (tgt := 2328) C dL_law_1349 (by decide) ?_
  exact zm_widen (by omega) (by omega) (zm_sub [0, 1, 2, 3, 4, 5] rfl (vb_law_2328 C hX hbl hbA hcz hsz hstk hL28 _ _ _ _ _ h))
def wb_law_1316 (xs : Nat → Int32) (L : Nat) (L28 : Int32 → MU → MU → (Nat → Int64) → (Nat → UInt64) → Prop) (x5 : Int32) (x6 : Int32) (s0 : Int32) (s1 : Int32) (u v : MU) (o : Nat → Int64) (dd : Nat → UInt64) : Prop := w_X10_count s1 s0 v (fun r_1 u_2 => w_X10_thrown u_2  (fun r_3 => ((r_3 = x6) → ((¬ x6 = 0) → wb_law_1349 xs L L28 x5 u u_2 o dd) ∧ ((x6 = 0) → (((lg_cmp (o ((0 : Int32)).toNatClampNeg) r_1.toInt64) = 0) → wb_law_1349 xs L L28 x5 u u_2 o dd) ∧ ((¬ (lg_cmp (o ((0 : Int32)).toNatClampNeg) r_1.toInt64) = 0) → False))) ∧ ((¬ r_3 = x6) → False)))
set_option maxHeartbeats 4000000 in
set_option maxRecDepth 100000 in
theorem vb_law_1316 {p : Program} {l : Launch} {e : Env} {s : State} {m : MethodId} {args : Array Value} {below : List Frame} {meth : Method} {c : Code} {g : GE} {Qz : State → Prop} {b L : Nat} {xs : Nat → Int32} (C : zCx p l s m args meth c g RL cL_law 9) (hX : va_X b L xs s s.heap) (hbl : b < s.heap.size) (hbA : ¬ zA g b) {cz sz : Nat} (hcz : cz + 2 ≤ 603072) (hsz : sz + 12 ≤ 7207018) (hstk : l.stackTraces = false) {L28 : Int32 → MU → MU → (Nat → Int64) → (Nat → UInt64) → Prop} (hL28 : ∀ (x5 : Int32) (u v : MU) (o : Nat → Int64) (dd : Nat → UInt64), L28 x5 u v o dd → WM p l e room_1 s m args below meth c g 9 (cz + 2) (sz + 12) Qz 28 [(0, .ref b), (1, .ref (g.2.2.1 0)), (2, .ref (g.2.2.1 117)), (3, .ref (g.2.2.1 131)), (4, .ref (g.2.2.1 132)), (5, .int x5)] [] (u, v, o, dd)) (x5 : Int32) (x6 : Int32) (s0 : Int32) (s1 : Int32) (u v : MU) (o : Nat → Int64) (dd : Nat → UInt64) (h : wb_law_1316 xs L L28 x5 x6 s0 s1 u v o dd) : WM p l e room_1 s m args below meth c g 9 (cz + 1) (sz + 6) Qz 1316 [(0, .ref b), (1, .ref (g.2.2.1 0)), (2, .ref (g.2.2.1 117)), (3, .ref (g.2.2.1 131)), (4, .ref (g.2.2.1 132)), (5, .int x5), (6, .int x6)] [.int s0, .int s1, .ref (g.2.2.1 117)] (u, v, o, dd) := by
  unfold wb_law_1316 at h
  refine zm_ci (zr_V (As := [.int s1, .int s0]) (rest := []) C (c_X10_count l g u v (o, dd) s1 s0 h) wd_1376 wd_1377 wd_1378 wd_11 wd_1379 hy_X10_count rfl rfl ⟨by decide, by decide⟩ ⟨(show (cz + 1) + 0 ≤ 603072 by omega), (show (sz + 6) + 0 ≤ 7207018 by omega)⟩ (ci := 10) (by decide) (zCell_k kd_117) rfl rfl rfl rfl (Nat.le_of_ble_eq_true rfl) dL_law_1316) (fun r_1 M1 hq => ?_)
  obtain ⟨u_2, rfl, h⟩ := hq
  refine zm_istore (lv' := [(7, .int r_1), (0, .ref b), (1, .ref (g.2.2.1 0)), (2, .ref (g.2.2.1 117)), (3, .ref (g.2.2.1 131)), (4, .ref (g.2.2.1 132)), (5, .int x5), (6, .int x6)]) C dL_law_1319 (by decide) rfl ?_
  refine zm_aload_n C dL_law_1321 rfl 3 rfl ?_
  refine zm_ci (zr_V (As := []) (rest := []) C (c_X10_thrown l g u u_2 (o, dd)  h) wd_1176 wd_1177 wd_1178 wd_11 wd_1179 hy_X10_thrown rfl rfl ⟨by decide, by decide⟩ ⟨(show (cz + 1) + 0 ≤ 603072 by omega), (show (sz + 6) + 0 ≤ 7207018 by omega)⟩ (ci := 10) (by decide) (zCell_k kd_117) rfl rfl rfl rfl (Nat.le_of_ble_eq_true rfl) dL_law_1322) (fun r_3 M1 hq => ?_)
  obtain ⟨rfl, h⟩ := hq
  refine zm_iload C dL_law_1325 7 rfl ?_
  refine zm_icmp_eq (tgt := 1332) C dL_law_1327 (by decide) (fun hc_5 => ?_) (fun hc_5 => ?_)
  · have h := h.1 hc_5
    refine zm_iload C dL_law_1332 7 rfl ?_
    refine zm_if_ne (tgt := 1349) C dL_law_1334 (by decide) (fun hc_6 => ?_) (fun hc_6 => ?_)
    · have h := h.1 hc_6
      exact (zm_sub [1, 2, 3, 4, 5, 6] rfl (vb_law_1349 C hX hbl hbA hcz hsz hstk hL28 _ _ _ _ _ h))
    · have h := h.2 hc_6
      refine zm_aload_n C dL_law_1337 rfl 4 rfl ?_
      refine zm_iconst (v := 0) C dL_law_1338 (by decide) ?_
      refine zm_ldL C zIn01 dL_law_1339 ?_
      refine zm_iload C dL_law_1340 0 rfl ?_
      refine zm_i2l C dL_law_1342 ?_
      refine zm_lcmp C dL_law_1343 ?_
      refine zm_if_eq (tgt := 1349) C dL_law_1344 (by decide) (fun hc_7 => ?_) (fun hc_7 => ?_)
      · have h := h.1 hc_7
        exact (zm_sub [1, 2, 3, 4, 5, 6] rfl (vb_law_1349 C hX hbl hbA hcz hsz hstk hL28 _ _ _ _ _ h))
      · have h := h.2 hc_7
        refine zm_iconst (v := 0) C dL_law_1347 (by decide) ?_
        exact h.elim
  · have h := h.2 hc_5
    refine zm_iconst (v := 0) C dL_law_1330 (by decide) ?_
    exact h.elim
def wb_law_1289 (xs : Nat → Int32) (L : Nat) (L28 : Int32 → MU → MU → (Nat → Int64) → (Nat → UInt64) → Prop) (x5 : Int32) (s0 : Int32) (s1 : Int32) (u v : MU) (o : Nat → Int64) (dd : Nat → UInt64) : Prop := w_L_count s1 s0 u o (fun r_1 u_2 o_3 => vp_in (x5 + (1 : Int32)) L ∧ (vp_in (x5 + (2 : Int32)) L ∧ ((((xs ((x5 + (2 : Int32))).toNatClampNeg) = 0) → wb_law_1316 xs L L28 x5 r_1 (0 : Int32) (xs ((x5 + (1 : Int32))).toNatClampNeg) u_2 v o_3 dd) ∧ ((¬ (xs ((x5 + (2 : Int32))).toNatClampNeg) = 0) → wb_law_1316 xs L L28 x5 r_1 (1 : Int32) (xs ((x5 + (1 : Int32))).toNatClampNeg) u_2 v o_3 dd))))
set_option maxHeartbeats 4000000 in
set_option maxRecDepth 100000 in
theorem vb_law_1289 {p : Program} {l : Launch} {e : Env} {s : State} {m : MethodId} {args : Array Value} {below : List Frame} {meth : Method} {c : Code} {g : GE} {Qz : State → Prop} {b L : Nat} {xs : Nat → Int32} (C : zCx p l s m args meth c g RL cL_law 9) (hX : va_X b L xs s s.heap) (hbl : b < s.heap.size) (hbA : ¬ zA g b) {cz sz : Nat} (hcz : cz + 2 ≤ 603072) (hsz : sz + 12 ≤ 7207018) (hstk : l.stackTraces = false) {L28 : Int32 → MU → MU → (Nat → Int64) → (Nat → UInt64) → Prop} (hL28 : ∀ (x5 : Int32) (u v : MU) (o : Nat → Int64) (dd : Nat → UInt64), L28 x5 u v o dd → WM p l e room_1 s m args below meth c g 9 (cz + 2) (sz + 12) Qz 28 [(0, .ref b), (1, .ref (g.2.2.1 0)), (2, .ref (g.2.2.1 117)), (3, .ref (g.2.2.1 131)), (4, .ref (g.2.2.1 132)), (5, .int x5)] [] (u, v, o, dd)) (x5 : Int32) (s0 : Int32) (s1 : Int32) (u v : MU) (o : Nat → Int64) (dd : Nat → UInt64) (h : wb_law_1289 xs L L28 x5 s0 s1 u v o dd) : WM p l e room_1 s m args below meth c g 9 cz sz Qz 1289 [(0, .ref b), (1, .ref (g.2.2.1 0)), (2, .ref (g.2.2.1 117)), (3, .ref (g.2.2.1 131)), (4, .ref (g.2.2.1 132)), (5, .int x5)] [.int s0, .int s1, .ref (g.2.2.1 0)] (u, v, o, dd) := by
  unfold wb_law_1289 at h
  refine zm_aload_n C dL_law_1289 rfl 3 rfl ?_
  refine zm_ci (zr_SW (As := [.ref (g.2.2.1 0), .int s1, .int s0, .ref (g.2.2.1 131)]) (rest := []) C (c_L_count l hstk g u v o dd s1 s0 h) wd_827 wd_828 wd_0 wd_829 hz_L_count rfl rfl ⟨by decide, by decide⟩ ⟨(show cz + 1 ≤ 603072 by omega), (show sz + 6 ≤ 7207018 by omega)⟩ rfl rfl (Nat.le_of_ble_eq_true rfl) dL_law_1290) (fun r_1 M1 hq => ?_)
  obtain ⟨u_2, o_3, rfl, h⟩ := hq
  refine zm_istore (lv' := [(6, .int r_1), (0, .ref b), (1, .ref (g.2.2.1 0)), (2, .ref (g.2.2.1 117)), (3, .ref (g.2.2.1 131)), (4, .ref (g.2.2.1 132)), (5, .int x5)]) C dL_law_1293 (by decide) rfl ?_
  refine zm_aload_n C dL_law_1295 rfl 3 rfl ?_
  refine zm_aload_n C dL_law_1296 rfl 1 rfl ?_
  refine zm_iload C dL_law_1297 6 rfl ?_
  refine zm_iconst (v := 1) C dL_law_1299 (by decide) ?_
  refine zm_iadd C dL_law_1300 ?_
  obtain ⟨hg_4, h⟩ := h
  refine zm_sld C hX hbl hbA hg_4 dL_law_1301 ?_
  refine zm_aload_n C dL_law_1302 rfl 1 rfl ?_
  refine zm_iload C dL_law_1303 6 rfl ?_
  refine zm_iconst (v := 2) C dL_law_1305 (by decide) ?_
  refine zm_iadd C dL_law_1306 ?_
  obtain ⟨hg_5, h⟩ := h
  refine zm_sld C hX hbl hbA hg_5 dL_law_1307 ?_
  refine zm_if_eq (tgt := 1315) C dL_law_1308 (by decide) (fun hc_6 => ?_) (fun hc_6 => ?_)
  · have h := h.1 hc_6
    refine zm_iconst (v := 0) C dL_law_1315 (by decide) ?_
    exact (zm_sub [1, 2, 3, 4, 5, 6, 0] rfl (vb_law_1316 C hX hbl hbA hcz hsz hstk hL28 _ _ _ _ _ _ _ _ h))
  · have h := h.2 hc_6
    refine zm_iconst (v := 1) C dL_law_1311 (by decide) ?_
    refine zm_goto (tgt := 1316) C dL_law_1312 (by decide) ?_
    exact (zm_sub [1, 2, 3, 4, 5, 6, 0] rfl (vb_law_1316 C hX hbl hbA hcz hsz hstk hL28 _ _ _ _ _ _ _ _ h))
def wb_law_1268 (xs : Nat → Int32) (L : Nat) (L28 : Int32 → MU → MU → (Nat → Int64) → (Nat → UInt64) → Prop) (x5 : Int32) (u v : MU) (o : Nat → Int64) (dd : Nat → UInt64) : Prop := vp_in (x5 + (1 : Int32)) L ∧ (vp_in (x5 + (2 : Int32)) L ∧ ((((xs ((x5 + (2 : Int32))).toNatClampNeg) = 0) → wb_law_1289 xs L L28 x5 (0 : Int32) (xs ((x5 + (1 : Int32))).toNatClampNeg) u v o dd) ∧ ((¬ (xs ((x5 + (2 : Int32))).toNatClampNeg) = 0) → wb_law_1289 xs L L28 x5 (1 : Int32) (xs ((x5 + (1 : Int32))).toNatClampNeg) u v o dd)))
set_option maxHeartbeats 4000000 in
set_option maxRecDepth 100000 in
theorem vb_law_1268 {p : Program} {l : Launch} {e : Env} {s : State} {m : MethodId} {args : Array Value} {below : List Frame} {meth : Method} {c : Code} {g : GE} {Qz : State → Prop} {b L : Nat} {xs : Nat → Int32} (C : zCx p l s m args meth c g RL cL_law 9) (hX : va_X b L xs s s.heap) (hbl : b < s.heap.size) (hbA : ¬ zA g b) {cz sz : Nat} (hcz : cz + 2 ≤ 603072) (hsz : sz + 12 ≤ 7207018) (hstk : l.stackTraces = false) {L28 : Int32 → MU → MU → (Nat → Int64) → (Nat → UInt64) → Prop} (hL28 : ∀ (x5 : Int32) (u v : MU) (o : Nat → Int64) (dd : Nat → UInt64), L28 x5 u v o dd → WM p l e room_1 s m args below meth c g 9 (cz + 2) (sz + 12) Qz 28 [(0, .ref b), (1, .ref (g.2.2.1 0)), (2, .ref (g.2.2.1 117)), (3, .ref (g.2.2.1 131)), (4, .ref (g.2.2.1 132)), (5, .int x5)] [] (u, v, o, dd)) (x5 : Int32) (u v : MU) (o : Nat → Int64) (dd : Nat → UInt64) (h : wb_law_1268 xs L L28 x5 u v o dd) : WM p l e room_1 s m args below meth c g 9 cz sz Qz 1268 [(0, .ref b), (1, .ref (g.2.2.1 0)), (2, .ref (g.2.2.1 117)), (3, .ref (g.2.2.1 131)), (4, .ref (g.2.2.1 132)), (5, .int x5)] [] (u, v, o, dd) := by
  unfold wb_law_1268 at h
  refine zm_aload_n C dL_law_1268 rfl 1 rfl ?_
  refine zm_aload_n C dL_law_1269 rfl 0 rfl ?_
  refine zm_iload C dL_law_1270 5 rfl ?_
  refine zm_iconst (v := 1) C dL_law_1272 (by decide) ?_
  refine zm_iadd C dL_law_1273 ?_
  obtain ⟨hg_1, h⟩ := h
  refine zm_sld C hX hbl hbA hg_1 dL_law_1274 ?_
  refine zm_aload_n C dL_law_1275 rfl 0 rfl ?_
  refine zm_iload C dL_law_1276 5 rfl ?_
  refine zm_iconst (v := 2) C dL_law_1278 (by decide) ?_
  refine zm_iadd C dL_law_1279 ?_
  obtain ⟨hg_2, h⟩ := h
  refine zm_sld C hX hbl hbA hg_2 dL_law_1280 ?_
  refine zm_if_eq (tgt := 1288) C dL_law_1281 (by decide) (fun hc_3 => ?_) (fun hc_3 => ?_)
  · have h := h.1 hc_3
    refine zm_iconst (v := 0) C dL_law_1288 (by decide) ?_
    exact (zm_sub [0, 1, 2, 3, 4, 5] rfl (vb_law_1289 C hX hbl hbA hcz hsz hstk hL28 _ _ _ _ _ _ _ h))
  · have h := h.2 hc_3
    refine zm_iconst (v := 1) C dL_law_1284 (by decide) ?_
    refine zm_goto (tgt := 1289) C dL_law_1285 (by decide) ?_
    exact (zm_sub [0, 1, 2, 3, 4, 5] rfl (vb_law_1289 C hX hbl hbA hcz hsz hstk hL28 _ _ _ _ _ _ _ h))
def wb_law_1421 (xs : Nat → Int32) (L : Nat) (L28 : Int32 → MU → MU → (Nat → Int64) → (Nat → UInt64) → Prop) (x5 : Int32) (u v : MU) (o : Nat → Int64) (dd : Nat → UInt64) : Prop := wb_law_2328 xs L L28 x5 u v o dd
set_option maxHeartbeats 4000000 in
set_option maxRecDepth 100000 in
theorem vb_law_1421 {p : Program} {l : Launch} {e : Env} {s : State} {m : MethodId} {args : Array Value} {below : List Frame} {meth : Method} {c : Code} {g : GE} {Qz : State → Prop} {b L : Nat} {xs : Nat → Int32} (C : zCx p l s m args meth c g RL cL_law 9) (hX : va_X b L xs s s.heap) (hbl : b < s.heap.size) (hbA : ¬ zA g b) {cz sz : Nat} (hcz : cz + 2 ≤ 603072) (hsz : sz + 12 ≤ 7207018) (hstk : l.stackTraces = false) {L28 : Int32 → MU → MU → (Nat → Int64) → (Nat → UInt64) → Prop} (hL28 : ∀ (x5 : Int32) (u v : MU) (o : Nat → Int64) (dd : Nat → UInt64), L28 x5 u v o dd → WM p l e room_1 s m args below meth c g 9 (cz + 2) (sz + 12) Qz 28 [(0, .ref b), (1, .ref (g.2.2.1 0)), (2, .ref (g.2.2.1 117)), (3, .ref (g.2.2.1 131)), (4, .ref (g.2.2.1 132)), (5, .int x5)] [] (u, v, o, dd)) (x5 : Int32) (u v : MU) (o : Nat → Int64) (dd : Nat → UInt64) (h : wb_law_1421 xs L L28 x5 u v o dd) : WM p l e room_1 s m args below meth c g 9 (cz + 1) (sz + 6) Qz 1421 [(0, .ref b), (1, .ref (g.2.2.1 0)), (2, .ref (g.2.2.1 117)), (3, .ref (g.2.2.1 131)), (4, .ref (g.2.2.1 132)), (5, .int x5)] [] (u, v, o, dd) := by
  unfold wb_law_1421 at h
  refine zm_goto (tgt := 2328) C dL_law_1421 (by decide) ?_
  exact zm_widen (by omega) (by omega) (zm_sub [0, 1, 2, 3, 4, 5] rfl (vb_law_2328 C hX hbl hbA hcz hsz hstk hL28 _ _ _ _ _ h))
def wb_law_1388 (xs : Nat → Int32) (L : Nat) (L28 : Int32 → MU → MU → (Nat → Int64) → (Nat → UInt64) → Prop) (x5 : Int32) (x6 : Int32) (s0 : Int32) (u v : MU) (o : Nat → Int64) (dd : Nat → UInt64) : Prop := w_X10_longest s0 v (fun r_1 u_2 => w_X10_thrown u_2  (fun r_3 => ((r_3 = x6) → ((¬ x6 = 0) → wb_law_1421 xs L L28 x5 u u_2 o dd) ∧ ((x6 = 0) → (((lg_cmp (o ((0 : Int32)).toNatClampNeg) r_1.toInt64) = 0) → wb_law_1421 xs L L28 x5 u u_2 o dd) ∧ ((¬ (lg_cmp (o ((0 : Int32)).toNatClampNeg) r_1.toInt64) = 0) → False))) ∧ ((¬ r_3 = x6) → False)))
set_option maxHeartbeats 4000000 in
set_option maxRecDepth 100000 in
theorem vb_law_1388 {p : Program} {l : Launch} {e : Env} {s : State} {m : MethodId} {args : Array Value} {below : List Frame} {meth : Method} {c : Code} {g : GE} {Qz : State → Prop} {b L : Nat} {xs : Nat → Int32} (C : zCx p l s m args meth c g RL cL_law 9) (hX : va_X b L xs s s.heap) (hbl : b < s.heap.size) (hbA : ¬ zA g b) {cz sz : Nat} (hcz : cz + 2 ≤ 603072) (hsz : sz + 12 ≤ 7207018) (hstk : l.stackTraces = false) {L28 : Int32 → MU → MU → (Nat → Int64) → (Nat → UInt64) → Prop} (hL28 : ∀ (x5 : Int32) (u v : MU) (o : Nat → Int64) (dd : Nat → UInt64), L28 x5 u v o dd → WM p l e room_1 s m args below meth c g 9 (cz + 2) (sz + 12) Qz 28 [(0, .ref b), (1, .ref (g.2.2.1 0)), (2, .ref (g.2.2.1 117)), (3, .ref (g.2.2.1 131)), (4, .ref (g.2.2.1 132)), (5, .int x5)] [] (u, v, o, dd)) (x5 : Int32) (x6 : Int32) (s0 : Int32) (u v : MU) (o : Nat → Int64) (dd : Nat → UInt64) (h : wb_law_1388 xs L L28 x5 x6 s0 u v o dd) : WM p l e room_1 s m args below meth c g 9 (cz + 1) (sz + 6) Qz 1388 [(0, .ref b), (1, .ref (g.2.2.1 0)), (2, .ref (g.2.2.1 117)), (3, .ref (g.2.2.1 131)), (4, .ref (g.2.2.1 132)), (5, .int x5), (6, .int x6)] [.int s0, .ref (g.2.2.1 117)] (u, v, o, dd) := by
  unfold wb_law_1388 at h
  refine zm_ci (zr_V (As := [.int s0]) (rest := []) C (c_X10_longest l g u v (o, dd) s0 h) wd_1380 wd_1381 wd_1382 wd_11 wd_1383 hy_X10_longest rfl rfl ⟨by decide, by decide⟩ ⟨(show (cz + 1) + 0 ≤ 603072 by omega), (show (sz + 6) + 0 ≤ 7207018 by omega)⟩ (ci := 10) (by decide) (zCell_k kd_117) rfl rfl rfl rfl (Nat.le_of_ble_eq_true rfl) dL_law_1388) (fun r_1 M1 hq => ?_)
  obtain ⟨u_2, rfl, h⟩ := hq
  refine zm_istore (lv' := [(7, .int r_1), (0, .ref b), (1, .ref (g.2.2.1 0)), (2, .ref (g.2.2.1 117)), (3, .ref (g.2.2.1 131)), (4, .ref (g.2.2.1 132)), (5, .int x5), (6, .int x6)]) C dL_law_1391 (by decide) rfl ?_
  refine zm_aload_n C dL_law_1393 rfl 3 rfl ?_
  refine zm_ci (zr_V (As := []) (rest := []) C (c_X10_thrown l g u u_2 (o, dd)  h) wd_1176 wd_1177 wd_1178 wd_11 wd_1179 hy_X10_thrown rfl rfl ⟨by decide, by decide⟩ ⟨(show (cz + 1) + 0 ≤ 603072 by omega), (show (sz + 6) + 0 ≤ 7207018 by omega)⟩ (ci := 10) (by decide) (zCell_k kd_117) rfl rfl rfl rfl (Nat.le_of_ble_eq_true rfl) dL_law_1394) (fun r_3 M1 hq => ?_)
  obtain ⟨rfl, h⟩ := hq
  refine zm_iload C dL_law_1397 7 rfl ?_
  refine zm_icmp_eq (tgt := 1404) C dL_law_1399 (by decide) (fun hc_5 => ?_) (fun hc_5 => ?_)
  · have h := h.1 hc_5
    refine zm_iload C dL_law_1404 7 rfl ?_
    refine zm_if_ne (tgt := 1421) C dL_law_1406 (by decide) (fun hc_6 => ?_) (fun hc_6 => ?_)
    · have h := h.1 hc_6
      exact (zm_sub [1, 2, 3, 4, 5, 6] rfl (vb_law_1421 C hX hbl hbA hcz hsz hstk hL28 _ _ _ _ _ h))
    · have h := h.2 hc_6
      refine zm_aload_n C dL_law_1409 rfl 4 rfl ?_
      refine zm_iconst (v := 0) C dL_law_1410 (by decide) ?_
      refine zm_ldL C zIn01 dL_law_1411 ?_
      refine zm_iload C dL_law_1412 0 rfl ?_
      refine zm_i2l C dL_law_1414 ?_
      refine zm_lcmp C dL_law_1415 ?_
      refine zm_if_eq (tgt := 1421) C dL_law_1416 (by decide) (fun hc_7 => ?_) (fun hc_7 => ?_)
      · have h := h.1 hc_7
        exact (zm_sub [1, 2, 3, 4, 5, 6] rfl (vb_law_1421 C hX hbl hbA hcz hsz hstk hL28 _ _ _ _ _ h))
      · have h := h.2 hc_7
        refine zm_iconst (v := 0) C dL_law_1419 (by decide) ?_
        exact h.elim
  · have h := h.2 hc_5
    refine zm_iconst (v := 0) C dL_law_1402 (by decide) ?_
    exact h.elim
def wb_law_1367 (xs : Nat → Int32) (L : Nat) (L28 : Int32 → MU → MU → (Nat → Int64) → (Nat → UInt64) → Prop) (x5 : Int32) (s0 : Int32) (u v : MU) (o : Nat → Int64) (dd : Nat → UInt64) : Prop := w_L_longest s0 u o (fun r_1 u_2 o_3 => vp_in (x5 + (1 : Int32)) L ∧ ((((xs ((x5 + (1 : Int32))).toNatClampNeg) = 0) → wb_law_1388 xs L L28 x5 r_1 (0 : Int32) u_2 v o_3 dd) ∧ ((¬ (xs ((x5 + (1 : Int32))).toNatClampNeg) = 0) → wb_law_1388 xs L L28 x5 r_1 (1 : Int32) u_2 v o_3 dd)))
set_option maxHeartbeats 4000000 in
set_option maxRecDepth 100000 in
theorem vb_law_1367 {p : Program} {l : Launch} {e : Env} {s : State} {m : MethodId} {args : Array Value} {below : List Frame} {meth : Method} {c : Code} {g : GE} {Qz : State → Prop} {b L : Nat} {xs : Nat → Int32} (C : zCx p l s m args meth c g RL cL_law 9) (hX : va_X b L xs s s.heap) (hbl : b < s.heap.size) (hbA : ¬ zA g b) {cz sz : Nat} (hcz : cz + 2 ≤ 603072) (hsz : sz + 12 ≤ 7207018) (hstk : l.stackTraces = false) {L28 : Int32 → MU → MU → (Nat → Int64) → (Nat → UInt64) → Prop} (hL28 : ∀ (x5 : Int32) (u v : MU) (o : Nat → Int64) (dd : Nat → UInt64), L28 x5 u v o dd → WM p l e room_1 s m args below meth c g 9 (cz + 2) (sz + 12) Qz 28 [(0, .ref b), (1, .ref (g.2.2.1 0)), (2, .ref (g.2.2.1 117)), (3, .ref (g.2.2.1 131)), (4, .ref (g.2.2.1 132)), (5, .int x5)] [] (u, v, o, dd)) (x5 : Int32) (s0 : Int32) (u v : MU) (o : Nat → Int64) (dd : Nat → UInt64) (h : wb_law_1367 xs L L28 x5 s0 u v o dd) : WM p l e room_1 s m args below meth c g 9 cz sz Qz 1367 [(0, .ref b), (1, .ref (g.2.2.1 0)), (2, .ref (g.2.2.1 117)), (3, .ref (g.2.2.1 131)), (4, .ref (g.2.2.1 132)), (5, .int x5)] [.int s0, .ref (g.2.2.1 0)] (u, v, o, dd) := by
  unfold wb_law_1367 at h
  refine zm_aload_n C dL_law_1367 rfl 3 rfl ?_
  refine zm_ci (zr_SW (As := [.ref (g.2.2.1 0), .int s0, .ref (g.2.2.1 131)]) (rest := []) C (c_L_longest l hstk g u v o dd s0 h) wd_839 wd_840 wd_0 wd_841 hz_L_longest rfl rfl ⟨by decide, by decide⟩ ⟨(show cz + 1 ≤ 603072 by omega), (show sz + 6 ≤ 7207018 by omega)⟩ rfl rfl (Nat.le_of_ble_eq_true rfl) dL_law_1368) (fun r_1 M1 hq => ?_)
  obtain ⟨u_2, o_3, rfl, h⟩ := hq
  refine zm_istore (lv' := [(6, .int r_1), (0, .ref b), (1, .ref (g.2.2.1 0)), (2, .ref (g.2.2.1 117)), (3, .ref (g.2.2.1 131)), (4, .ref (g.2.2.1 132)), (5, .int x5)]) C dL_law_1371 (by decide) rfl ?_
  refine zm_aload_n C dL_law_1373 rfl 3 rfl ?_
  refine zm_aload_n C dL_law_1374 rfl 1 rfl ?_
  refine zm_iload C dL_law_1375 6 rfl ?_
  refine zm_iconst (v := 1) C dL_law_1377 (by decide) ?_
  refine zm_iadd C dL_law_1378 ?_
  obtain ⟨hg_4, h⟩ := h
  refine zm_sld C hX hbl hbA hg_4 dL_law_1379 ?_
  refine zm_if_eq (tgt := 1387) C dL_law_1380 (by decide) (fun hc_5 => ?_) (fun hc_5 => ?_)
  · have h := h.1 hc_5
    refine zm_iconst (v := 0) C dL_law_1387 (by decide) ?_
    exact (zm_sub [1, 2, 3, 4, 5, 6, 0] rfl (vb_law_1388 C hX hbl hbA hcz hsz hstk hL28 _ _ _ _ _ _ _ h))
  · have h := h.2 hc_5
    refine zm_iconst (v := 1) C dL_law_1383 (by decide) ?_
    refine zm_goto (tgt := 1388) C dL_law_1384 (by decide) ?_
    exact (zm_sub [1, 2, 3, 4, 5, 6, 0] rfl (vb_law_1388 C hX hbl hbA hcz hsz hstk hL28 _ _ _ _ _ _ _ h))
def wb_law_1352 (xs : Nat → Int32) (L : Nat) (L28 : Int32 → MU → MU → (Nat → Int64) → (Nat → UInt64) → Prop) (x5 : Int32) (u v : MU) (o : Nat → Int64) (dd : Nat → UInt64) : Prop := vp_in (x5 + (1 : Int32)) L ∧ ((((xs ((x5 + (1 : Int32))).toNatClampNeg) = 0) → wb_law_1367 xs L L28 x5 (0 : Int32) u v o dd) ∧ ((¬ (xs ((x5 + (1 : Int32))).toNatClampNeg) = 0) → wb_law_1367 xs L L28 x5 (1 : Int32) u v o dd))
set_option maxHeartbeats 4000000 in
set_option maxRecDepth 100000 in
theorem vb_law_1352 {p : Program} {l : Launch} {e : Env} {s : State} {m : MethodId} {args : Array Value} {below : List Frame} {meth : Method} {c : Code} {g : GE} {Qz : State → Prop} {b L : Nat} {xs : Nat → Int32} (C : zCx p l s m args meth c g RL cL_law 9) (hX : va_X b L xs s s.heap) (hbl : b < s.heap.size) (hbA : ¬ zA g b) {cz sz : Nat} (hcz : cz + 2 ≤ 603072) (hsz : sz + 12 ≤ 7207018) (hstk : l.stackTraces = false) {L28 : Int32 → MU → MU → (Nat → Int64) → (Nat → UInt64) → Prop} (hL28 : ∀ (x5 : Int32) (u v : MU) (o : Nat → Int64) (dd : Nat → UInt64), L28 x5 u v o dd → WM p l e room_1 s m args below meth c g 9 (cz + 2) (sz + 12) Qz 28 [(0, .ref b), (1, .ref (g.2.2.1 0)), (2, .ref (g.2.2.1 117)), (3, .ref (g.2.2.1 131)), (4, .ref (g.2.2.1 132)), (5, .int x5)] [] (u, v, o, dd)) (x5 : Int32) (u v : MU) (o : Nat → Int64) (dd : Nat → UInt64) (h : wb_law_1352 xs L L28 x5 u v o dd) : WM p l e room_1 s m args below meth c g 9 cz sz Qz 1352 [(0, .ref b), (1, .ref (g.2.2.1 0)), (2, .ref (g.2.2.1 117)), (3, .ref (g.2.2.1 131)), (4, .ref (g.2.2.1 132)), (5, .int x5)] [] (u, v, o, dd) := by
  unfold wb_law_1352 at h
  refine zm_aload_n C dL_law_1352 rfl 1 rfl ?_
  refine zm_aload_n C dL_law_1353 rfl 0 rfl ?_
  refine zm_iload C dL_law_1354 5 rfl ?_
  refine zm_iconst (v := 1) C dL_law_1356 (by decide) ?_
  refine zm_iadd C dL_law_1357 ?_
  obtain ⟨hg_1, h⟩ := h
  refine zm_sld C hX hbl hbA hg_1 dL_law_1358 ?_
  refine zm_if_eq (tgt := 1366) C dL_law_1359 (by decide) (fun hc_2 => ?_) (fun hc_2 => ?_)
  · have h := h.1 hc_2
    refine zm_iconst (v := 0) C dL_law_1366 (by decide) ?_
    exact (zm_sub [0, 1, 2, 3, 4, 5] rfl (vb_law_1367 C hX hbl hbA hcz hsz hstk hL28 _ _ _ _ _ _ h))
  · have h := h.2 hc_2
    refine zm_iconst (v := 1) C dL_law_1362 (by decide) ?_
    refine zm_goto (tgt := 1367) C dL_law_1363 (by decide) ?_
    exact (zm_sub [0, 1, 2, 3, 4, 5] rfl (vb_law_1367 C hX hbl hbA hcz hsz hstk hL28 _ _ _ _ _ _ h))
def wb_law_1477 (xs : Nat → Int32) (L : Nat) (L28 : Int32 → MU → MU → (Nat → Int64) → (Nat → UInt64) → Prop) (x5 : Int32) (u v : MU) (o : Nat → Int64) (dd : Nat → UInt64) : Prop := wb_law_2328 xs L L28 x5 u v o dd
set_option maxHeartbeats 4000000 in
set_option maxRecDepth 100000 in
theorem vb_law_1477 {p : Program} {l : Launch} {e : Env} {s : State} {m : MethodId} {args : Array Value} {below : List Frame} {meth : Method} {c : Code} {g : GE} {Qz : State → Prop} {b L : Nat} {xs : Nat → Int32} (C : zCx p l s m args meth c g RL cL_law 9) (hX : va_X b L xs s s.heap) (hbl : b < s.heap.size) (hbA : ¬ zA g b) {cz sz : Nat} (hcz : cz + 2 ≤ 603072) (hsz : sz + 12 ≤ 7207018) (hstk : l.stackTraces = false) {L28 : Int32 → MU → MU → (Nat → Int64) → (Nat → UInt64) → Prop} (hL28 : ∀ (x5 : Int32) (u v : MU) (o : Nat → Int64) (dd : Nat → UInt64), L28 x5 u v o dd → WM p l e room_1 s m args below meth c g 9 (cz + 2) (sz + 12) Qz 28 [(0, .ref b), (1, .ref (g.2.2.1 0)), (2, .ref (g.2.2.1 117)), (3, .ref (g.2.2.1 131)), (4, .ref (g.2.2.1 132)), (5, .int x5)] [] (u, v, o, dd)) (x5 : Int32) (u v : MU) (o : Nat → Int64) (dd : Nat → UInt64) (h : wb_law_1477 xs L L28 x5 u v o dd) : WM p l e room_1 s m args below meth c g 9 (cz + 1) (sz + 6) Qz 1477 [(0, .ref b), (1, .ref (g.2.2.1 0)), (2, .ref (g.2.2.1 117)), (3, .ref (g.2.2.1 131)), (4, .ref (g.2.2.1 132)), (5, .int x5)] [] (u, v, o, dd) := by
  unfold wb_law_1477 at h
  refine zm_goto (tgt := 2328) C dL_law_1477 (by decide) ?_
  exact zm_widen (by omega) (by omega) (zm_sub [0, 1, 2, 3, 4, 5] rfl (vb_law_2328 C hX hbl hbA hcz hsz hstk hL28 _ _ _ _ _ h))
def wb_law_1424 (xs : Nat → Int32) (L : Nat) (L28 : Int32 → MU → MU → (Nat → Int64) → (Nat → UInt64) → Prop) (x5 : Int32) (u v : MU) (o : Nat → Int64) (dd : Nat → UInt64) : Prop := vp_in (x5 + (1 : Int32)) L ∧ (w_L_wonIn (xs ((x5 + (1 : Int32))).toNatClampNeg) u o (fun r_2 u_3 o_4 => vp_in (x5 + (1 : Int32)) L ∧ (w_X10_wonIn (xs ((x5 + (1 : Int32))).toNatClampNeg) v (fun r_6 u_7 => w_X10_thrown u_7  (fun r_8 => ((r_8 = r_2) → ((¬ r_2 = 0) → wb_law_1477 xs L L28 x5 u_3 u_7 o_4 dd) ∧ ((r_2 = 0) → (((lg_cmp (o_4 ((0 : Int32)).toNatClampNeg) r_6.toInt64) = 0) → wb_law_1477 xs L L28 x5 u_3 u_7 o_4 dd) ∧ ((¬ (lg_cmp (o_4 ((0 : Int32)).toNatClampNeg) r_6.toInt64) = 0) → False))) ∧ ((¬ r_8 = r_2) → False))))))
set_option maxHeartbeats 4000000 in
set_option maxRecDepth 100000 in
theorem vb_law_1424 {p : Program} {l : Launch} {e : Env} {s : State} {m : MethodId} {args : Array Value} {below : List Frame} {meth : Method} {c : Code} {g : GE} {Qz : State → Prop} {b L : Nat} {xs : Nat → Int32} (C : zCx p l s m args meth c g RL cL_law 9) (hX : va_X b L xs s s.heap) (hbl : b < s.heap.size) (hbA : ¬ zA g b) {cz sz : Nat} (hcz : cz + 2 ≤ 603072) (hsz : sz + 12 ≤ 7207018) (hstk : l.stackTraces = false) {L28 : Int32 → MU → MU → (Nat → Int64) → (Nat → UInt64) → Prop} (hL28 : ∀ (x5 : Int32) (u v : MU) (o : Nat → Int64) (dd : Nat → UInt64), L28 x5 u v o dd → WM p l e room_1 s m args below meth c g 9 (cz + 2) (sz + 12) Qz 28 [(0, .ref b), (1, .ref (g.2.2.1 0)), (2, .ref (g.2.2.1 117)), (3, .ref (g.2.2.1 131)), (4, .ref (g.2.2.1 132)), (5, .int x5)] [] (u, v, o, dd)) (x5 : Int32) (u v : MU) (o : Nat → Int64) (dd : Nat → UInt64) (h : wb_law_1424 xs L L28 x5 u v o dd) : WM p l e room_1 s m args below meth c g 9 cz sz Qz 1424 [(0, .ref b), (1, .ref (g.2.2.1 0)), (2, .ref (g.2.2.1 117)), (3, .ref (g.2.2.1 131)), (4, .ref (g.2.2.1 132)), (5, .int x5)] [] (u, v, o, dd) := by
  unfold wb_law_1424 at h
  refine zm_aload_n C dL_law_1424 rfl 1 rfl ?_
  refine zm_aload_n C dL_law_1425 rfl 0 rfl ?_
  refine zm_iload C dL_law_1426 5 rfl ?_
  refine zm_iconst (v := 1) C dL_law_1428 (by decide) ?_
  refine zm_iadd C dL_law_1429 ?_
  obtain ⟨hg_1, h⟩ := h
  refine zm_sld C hX hbl hbA hg_1 dL_law_1430 ?_
  refine zm_aload_n C dL_law_1431 rfl 3 rfl ?_
  refine zm_ci (zr_SW (As := [.ref (g.2.2.1 0), .int (xs ((x5 + (1 : Int32))).toNatClampNeg), .ref (g.2.2.1 131)]) (rest := []) C (c_L_wonIn l hstk g u v o dd (xs ((x5 + (1 : Int32))).toNatClampNeg) h) wd_847 wd_848 wd_0 wd_849 hz_L_wonIn rfl rfl ⟨by decide, by decide⟩ ⟨(show cz + 1 ≤ 603072 by omega), (show sz + 6 ≤ 7207018 by omega)⟩ rfl rfl (Nat.le_of_ble_eq_true rfl) dL_law_1432) (fun r_2 M1 hq => ?_)
  obtain ⟨u_3, o_4, rfl, h⟩ := hq
  refine zm_istore (lv' := [(6, .int r_2), (0, .ref b), (1, .ref (g.2.2.1 0)), (2, .ref (g.2.2.1 117)), (3, .ref (g.2.2.1 131)), (4, .ref (g.2.2.1 132)), (5, .int x5)]) C dL_law_1435 (by decide) rfl ?_
  refine zm_aload_n C dL_law_1437 rfl 3 rfl ?_
  refine zm_aload_n C dL_law_1438 rfl 1 rfl ?_
  refine zm_iload C dL_law_1439 6 rfl ?_
  refine zm_iconst (v := 1) C dL_law_1441 (by decide) ?_
  refine zm_iadd C dL_law_1442 ?_
  obtain ⟨hg_5, h⟩ := h
  refine zm_sld C hX hbl hbA hg_5 dL_law_1443 ?_
  refine zm_ci (zr_V (As := [.int (xs ((x5 + (1 : Int32))).toNatClampNeg)]) (rest := []) C (c_X10_wonIn l g u_3 v (o_4, dd) (xs ((x5 + (1 : Int32))).toNatClampNeg) h) wd_1384 wd_1385 wd_1386 wd_11 wd_1387 hy_X10_wonIn rfl rfl ⟨by decide, by decide⟩ ⟨(show (cz + 1) + 0 ≤ 603072 by omega), (show (sz + 6) + 0 ≤ 7207018 by omega)⟩ (ci := 10) (by decide) (zCell_k kd_117) rfl rfl rfl rfl (Nat.le_of_ble_eq_true rfl) dL_law_1444) (fun r_6 M1 hq => ?_)
  obtain ⟨u_7, rfl, h⟩ := hq
  refine zm_istore (lv' := [(7, .int r_6), (6, .int r_2), (0, .ref b), (1, .ref (g.2.2.1 0)), (2, .ref (g.2.2.1 117)), (3, .ref (g.2.2.1 131)), (4, .ref (g.2.2.1 132)), (5, .int x5)]) C dL_law_1447 (by decide) rfl ?_
  refine zm_aload_n C dL_law_1449 rfl 4 rfl ?_
  refine zm_ci (zr_V (As := []) (rest := []) C (c_X10_thrown l g u_3 u_7 (o_4, dd)  h) wd_1176 wd_1177 wd_1178 wd_11 wd_1179 hy_X10_thrown rfl rfl ⟨by decide, by decide⟩ ⟨(show (cz + 1) + 0 ≤ 603072 by omega), (show (sz + 6) + 0 ≤ 7207018 by omega)⟩ (ci := 10) (by decide) (zCell_k kd_117) rfl rfl rfl rfl (Nat.le_of_ble_eq_true rfl) dL_law_1450) (fun r_8 M1 hq => ?_)
  obtain ⟨rfl, h⟩ := hq
  refine zm_iload C dL_law_1453 1 rfl ?_
  refine zm_icmp_eq (tgt := 1460) C dL_law_1455 (by decide) (fun hc_10 => ?_) (fun hc_10 => ?_)
  · have h := h.1 hc_10
    refine zm_iload C dL_law_1460 1 rfl ?_
    refine zm_if_ne (tgt := 1477) C dL_law_1462 (by decide) (fun hc_11 => ?_) (fun hc_11 => ?_)
    · have h := h.1 hc_11
      exact (zm_sub [2, 3, 4, 5, 6, 7] rfl (vb_law_1477 C hX hbl hbA hcz hsz hstk hL28 _ _ _ _ _ h))
    · have h := h.2 hc_11
      refine zm_aload_n C dL_law_1465 rfl 5 rfl ?_
      refine zm_iconst (v := 0) C dL_law_1466 (by decide) ?_
      refine zm_ldL C zIn01 dL_law_1467 ?_
      refine zm_iload C dL_law_1468 0 rfl ?_
      refine zm_i2l C dL_law_1470 ?_
      refine zm_lcmp C dL_law_1471 ?_
      refine zm_if_eq (tgt := 1477) C dL_law_1472 (by decide) (fun hc_12 => ?_) (fun hc_12 => ?_)
      · have h := h.1 hc_12
        exact (zm_sub [2, 3, 4, 5, 6, 7] rfl (vb_law_1477 C hX hbl hbA hcz hsz hstk hL28 _ _ _ _ _ h))
      · have h := h.2 hc_12
        refine zm_iconst (v := 0) C dL_law_1475 (by decide) ?_
        exact h.elim
  · have h := h.2 hc_10
    refine zm_iconst (v := 0) C dL_law_1458 (by decide) ?_
    exact h.elim
def wb_law_1545 (xs : Nat → Int32) (L : Nat) (L28 : Int32 → MU → MU → (Nat → Int64) → (Nat → UInt64) → Prop) (x5 : Int32) (u v : MU) (o : Nat → Int64) (dd : Nat → UInt64) : Prop := wb_law_2328 xs L L28 x5 u v o dd
set_option maxHeartbeats 4000000 in
set_option maxRecDepth 100000 in
theorem vb_law_1545 {p : Program} {l : Launch} {e : Env} {s : State} {m : MethodId} {args : Array Value} {below : List Frame} {meth : Method} {c : Code} {g : GE} {Qz : State → Prop} {b L : Nat} {xs : Nat → Int32} (C : zCx p l s m args meth c g RL cL_law 9) (hX : va_X b L xs s s.heap) (hbl : b < s.heap.size) (hbA : ¬ zA g b) {cz sz : Nat} (hcz : cz + 2 ≤ 603072) (hsz : sz + 12 ≤ 7207018) (hstk : l.stackTraces = false) {L28 : Int32 → MU → MU → (Nat → Int64) → (Nat → UInt64) → Prop} (hL28 : ∀ (x5 : Int32) (u v : MU) (o : Nat → Int64) (dd : Nat → UInt64), L28 x5 u v o dd → WM p l e room_1 s m args below meth c g 9 (cz + 2) (sz + 12) Qz 28 [(0, .ref b), (1, .ref (g.2.2.1 0)), (2, .ref (g.2.2.1 117)), (3, .ref (g.2.2.1 131)), (4, .ref (g.2.2.1 132)), (5, .int x5)] [] (u, v, o, dd)) (x5 : Int32) (u v : MU) (o : Nat → Int64) (dd : Nat → UInt64) (h : wb_law_1545 xs L L28 x5 u v o dd) : WM p l e room_1 s m args below meth c g 9 (cz + 1) (sz + 6) Qz 1545 [(0, .ref b), (1, .ref (g.2.2.1 0)), (2, .ref (g.2.2.1 117)), (3, .ref (g.2.2.1 131)), (4, .ref (g.2.2.1 132)), (5, .int x5)] [] (u, v, o, dd) := by
  unfold wb_law_1545 at h
  refine zm_goto (tgt := 2328) C dL_law_1545 (by decide) ?_
  exact zm_widen (by omega) (by omega) (zm_sub [0, 1, 2, 3, 4, 5] rfl (vb_law_2328 C hX hbl hbA hcz hsz hstk hL28 _ _ _ _ _ h))
def wb_law_1480 (xs : Nat → Int32) (L : Nat) (L28 : Int32 → MU → MU → (Nat → Int64) → (Nat → UInt64) → Prop) (x5 : Int32) (u v : MU) (o : Nat → Int64) (dd : Nat → UInt64) : Prop := vp_in (x5 + (1 : Int32)) L ∧ (vp_in (x5 + (2 : Int32)) L ∧ (w_L_wouldChange (xs ((x5 + (1 : Int32))).toNatClampNeg) (xs ((x5 + (2 : Int32))).toNatClampNeg) u o (fun r_3 u_4 o_5 => vp_in (x5 + (1 : Int32)) L ∧ (vp_in (x5 + (2 : Int32)) L ∧ (w_X10_wouldChange (xs ((x5 + (1 : Int32))).toNatClampNeg) (xs ((x5 + (2 : Int32))).toNatClampNeg) v (fun r_8 u_9 => w_X10_thrown u_9  (fun r_10 => ((r_10 = r_3) → ((¬ r_3 = 0) → wb_law_1545 xs L L28 x5 u_4 u_9 o_5 dd) ∧ ((r_3 = 0) → (((lg_cmp (o_5 ((0 : Int32)).toNatClampNeg) r_8.toInt64) = 0) → wb_law_1545 xs L L28 x5 u_4 u_9 o_5 dd) ∧ ((¬ (lg_cmp (o_5 ((0 : Int32)).toNatClampNeg) r_8.toInt64) = 0) → False))) ∧ ((¬ r_10 = r_3) → False))))))))
set_option maxHeartbeats 4000000 in
set_option maxRecDepth 100000 in
theorem vb_law_1480 {p : Program} {l : Launch} {e : Env} {s : State} {m : MethodId} {args : Array Value} {below : List Frame} {meth : Method} {c : Code} {g : GE} {Qz : State → Prop} {b L : Nat} {xs : Nat → Int32} (C : zCx p l s m args meth c g RL cL_law 9) (hX : va_X b L xs s s.heap) (hbl : b < s.heap.size) (hbA : ¬ zA g b) {cz sz : Nat} (hcz : cz + 2 ≤ 603072) (hsz : sz + 12 ≤ 7207018) (hstk : l.stackTraces = false) {L28 : Int32 → MU → MU → (Nat → Int64) → (Nat → UInt64) → Prop} (hL28 : ∀ (x5 : Int32) (u v : MU) (o : Nat → Int64) (dd : Nat → UInt64), L28 x5 u v o dd → WM p l e room_1 s m args below meth c g 9 (cz + 2) (sz + 12) Qz 28 [(0, .ref b), (1, .ref (g.2.2.1 0)), (2, .ref (g.2.2.1 117)), (3, .ref (g.2.2.1 131)), (4, .ref (g.2.2.1 132)), (5, .int x5)] [] (u, v, o, dd)) (x5 : Int32) (u v : MU) (o : Nat → Int64) (dd : Nat → UInt64) (h : wb_law_1480 xs L L28 x5 u v o dd) : WM p l e room_1 s m args below meth c g 9 cz sz Qz 1480 [(0, .ref b), (1, .ref (g.2.2.1 0)), (2, .ref (g.2.2.1 117)), (3, .ref (g.2.2.1 131)), (4, .ref (g.2.2.1 132)), (5, .int x5)] [] (u, v, o, dd) := by
  unfold wb_law_1480 at h
  refine zm_aload_n C dL_law_1480 rfl 1 rfl ?_
  refine zm_aload_n C dL_law_1481 rfl 0 rfl ?_
  refine zm_iload C dL_law_1482 5 rfl ?_
  refine zm_iconst (v := 1) C dL_law_1484 (by decide) ?_
  refine zm_iadd C dL_law_1485 ?_
  obtain ⟨hg_1, h⟩ := h
  refine zm_sld C hX hbl hbA hg_1 dL_law_1486 ?_
  refine zm_aload_n C dL_law_1487 rfl 0 rfl ?_
  refine zm_iload C dL_law_1488 5 rfl ?_
  refine zm_iconst (v := 2) C dL_law_1490 (by decide) ?_
  refine zm_iadd C dL_law_1491 ?_
  obtain ⟨hg_2, h⟩ := h
  refine zm_sld C hX hbl hbA hg_2 dL_law_1492 ?_
  refine zm_aload_n C dL_law_1493 rfl 3 rfl ?_
  refine zm_ci (zr_SW (As := [.ref (g.2.2.1 0), .int (xs ((x5 + (1 : Int32))).toNatClampNeg), .int (xs ((x5 + (2 : Int32))).toNatClampNeg), .ref (g.2.2.1 131)]) (rest := []) C (c_L_wouldChange l hstk g u v o dd (xs ((x5 + (1 : Int32))).toNatClampNeg) (xs ((x5 + (2 : Int32))).toNatClampNeg) h) wd_859 wd_860 wd_0 wd_861 hz_L_wouldChange rfl rfl ⟨by decide, by decide⟩ ⟨(show cz + 1 ≤ 603072 by omega), (show sz + 6 ≤ 7207018 by omega)⟩ rfl rfl (Nat.le_of_ble_eq_true rfl) dL_law_1494) (fun r_3 M1 hq => ?_)
  obtain ⟨u_4, o_5, rfl, h⟩ := hq
  refine zm_istore (lv' := [(6, .int r_3), (0, .ref b), (1, .ref (g.2.2.1 0)), (2, .ref (g.2.2.1 117)), (3, .ref (g.2.2.1 131)), (4, .ref (g.2.2.1 132)), (5, .int x5)]) C dL_law_1497 (by decide) rfl ?_
  refine zm_aload_n C dL_law_1499 rfl 3 rfl ?_
  refine zm_aload_n C dL_law_1500 rfl 1 rfl ?_
  refine zm_iload C dL_law_1501 6 rfl ?_
  refine zm_iconst (v := 1) C dL_law_1503 (by decide) ?_
  refine zm_iadd C dL_law_1504 ?_
  obtain ⟨hg_6, h⟩ := h
  refine zm_sld C hX hbl hbA hg_6 dL_law_1505 ?_
  refine zm_aload_n C dL_law_1506 rfl 1 rfl ?_
  refine zm_iload C dL_law_1507 6 rfl ?_
  refine zm_iconst (v := 2) C dL_law_1509 (by decide) ?_
  refine zm_iadd C dL_law_1510 ?_
  obtain ⟨hg_7, h⟩ := h
  refine zm_sld C hX hbl hbA hg_7 dL_law_1511 ?_
  refine zm_ci (zr_V (As := [.int (xs ((x5 + (1 : Int32))).toNatClampNeg), .int (xs ((x5 + (2 : Int32))).toNatClampNeg)]) (rest := []) C (c_X10_wouldChange l g u_4 v (o_5, dd) (xs ((x5 + (1 : Int32))).toNatClampNeg) (xs ((x5 + (2 : Int32))).toNatClampNeg) h) wd_1388 wd_1389 wd_1390 wd_11 wd_1391 hy_X10_wouldChange rfl rfl ⟨by decide, by decide⟩ ⟨(show (cz + 1) + 0 ≤ 603072 by omega), (show (sz + 6) + 0 ≤ 7207018 by omega)⟩ (ci := 10) (by decide) (zCell_k kd_117) rfl rfl rfl rfl (Nat.le_of_ble_eq_true rfl) dL_law_1512) (fun r_8 M1 hq => ?_)
  obtain ⟨u_9, rfl, h⟩ := hq
  refine zm_istore (lv' := [(7, .int r_8), (6, .int r_3), (0, .ref b), (1, .ref (g.2.2.1 0)), (2, .ref (g.2.2.1 117)), (3, .ref (g.2.2.1 131)), (4, .ref (g.2.2.1 132)), (5, .int x5)]) C dL_law_1515 (by decide) rfl ?_
  refine zm_aload_n C dL_law_1517 rfl 4 rfl ?_
  refine zm_ci (zr_V (As := []) (rest := []) C (c_X10_thrown l g u_4 u_9 (o_5, dd)  h) wd_1176 wd_1177 wd_1178 wd_11 wd_1179 hy_X10_thrown rfl rfl ⟨by decide, by decide⟩ ⟨(show (cz + 1) + 0 ≤ 603072 by omega), (show (sz + 6) + 0 ≤ 7207018 by omega)⟩ (ci := 10) (by decide) (zCell_k kd_117) rfl rfl rfl rfl (Nat.le_of_ble_eq_true rfl) dL_law_1518) (fun r_10 M1 hq => ?_)
  obtain ⟨rfl, h⟩ := hq
  refine zm_iload C dL_law_1521 1 rfl ?_
  refine zm_icmp_eq (tgt := 1528) C dL_law_1523 (by decide) (fun hc_12 => ?_) (fun hc_12 => ?_)
  · have h := h.1 hc_12
    refine zm_iload C dL_law_1528 1 rfl ?_
    refine zm_if_ne (tgt := 1545) C dL_law_1530 (by decide) (fun hc_13 => ?_) (fun hc_13 => ?_)
    · have h := h.1 hc_13
      exact (zm_sub [2, 3, 4, 5, 6, 7] rfl (vb_law_1545 C hX hbl hbA hcz hsz hstk hL28 _ _ _ _ _ h))
    · have h := h.2 hc_13
      refine zm_aload_n C dL_law_1533 rfl 5 rfl ?_
      refine zm_iconst (v := 0) C dL_law_1534 (by decide) ?_
      refine zm_ldL C zIn01 dL_law_1535 ?_
      refine zm_iload C dL_law_1536 0 rfl ?_
      refine zm_i2l C dL_law_1538 ?_
      refine zm_lcmp C dL_law_1539 ?_
      refine zm_if_eq (tgt := 1545) C dL_law_1540 (by decide) (fun hc_14 => ?_) (fun hc_14 => ?_)
      · have h := h.1 hc_14
        exact (zm_sub [2, 3, 4, 5, 6, 7] rfl (vb_law_1545 C hX hbl hbA hcz hsz hstk hL28 _ _ _ _ _ h))
      · have h := h.2 hc_14
        refine zm_iconst (v := 0) C dL_law_1543 (by decide) ?_
        exact h.elim
  · have h := h.2 hc_12
    refine zm_iconst (v := 0) C dL_law_1526 (by decide) ?_
    exact h.elim
def wb_law_1601 (xs : Nat → Int32) (L : Nat) (L28 : Int32 → MU → MU → (Nat → Int64) → (Nat → UInt64) → Prop) (x5 : Int32) (u v : MU) (o : Nat → Int64) (dd : Nat → UInt64) : Prop := wb_law_2328 xs L L28 x5 u v o dd
set_option maxHeartbeats 4000000 in
set_option maxRecDepth 100000 in
theorem vb_law_1601 {p : Program} {l : Launch} {e : Env} {s : State} {m : MethodId} {args : Array Value} {below : List Frame} {meth : Method} {c : Code} {g : GE} {Qz : State → Prop} {b L : Nat} {xs : Nat → Int32} (C : zCx p l s m args meth c g RL cL_law 9) (hX : va_X b L xs s s.heap) (hbl : b < s.heap.size) (hbA : ¬ zA g b) {cz sz : Nat} (hcz : cz + 2 ≤ 603072) (hsz : sz + 12 ≤ 7207018) (hstk : l.stackTraces = false) {L28 : Int32 → MU → MU → (Nat → Int64) → (Nat → UInt64) → Prop} (hL28 : ∀ (x5 : Int32) (u v : MU) (o : Nat → Int64) (dd : Nat → UInt64), L28 x5 u v o dd → WM p l e room_1 s m args below meth c g 9 (cz + 2) (sz + 12) Qz 28 [(0, .ref b), (1, .ref (g.2.2.1 0)), (2, .ref (g.2.2.1 117)), (3, .ref (g.2.2.1 131)), (4, .ref (g.2.2.1 132)), (5, .int x5)] [] (u, v, o, dd)) (x5 : Int32) (u v : MU) (o : Nat → Int64) (dd : Nat → UInt64) (h : wb_law_1601 xs L L28 x5 u v o dd) : WM p l e room_1 s m args below meth c g 9 (cz + 2) (sz + 12) Qz 1601 [(0, .ref b), (1, .ref (g.2.2.1 0)), (2, .ref (g.2.2.1 117)), (3, .ref (g.2.2.1 131)), (4, .ref (g.2.2.1 132)), (5, .int x5)] [] (u, v, o, dd) := by
  unfold wb_law_1601 at h
  refine zm_goto (tgt := 2328) C dL_law_1601 (by decide) ?_
  exact (zm_sub [0, 1, 2, 3, 4, 5] rfl (vb_law_2328 C hX hbl hbA hcz hsz hstk hL28 _ _ _ _ _ h))
def wb_law_1548 (xs : Nat → Int32) (L : Nat) (L28 : Int32 → MU → MU → (Nat → Int64) → (Nat → UInt64) → Prop) (x5 : Int32) (u v : MU) (o : Nat → Int64) (dd : Nat → UInt64) : Prop := vp_in (x5 + (1 : Int32)) L ∧ (w_L_bestBurrow (xs ((x5 + (1 : Int32))).toNatClampNeg) u o (fun r_2 u_3 o_4 => vp_in (x5 + (1 : Int32)) L ∧ (w_X10_bestBurrow (xs ((x5 + (1 : Int32))).toNatClampNeg) v (fun r_6 u_7 => w_X10_thrown u_7  (fun r_8 => ((r_8 = r_2) → ((¬ r_2 = 0) → wb_law_1601 xs L L28 x5 u_3 u_7 o_4 dd) ∧ ((r_2 = 0) → (((lg_cmp (o_4 ((0 : Int32)).toNatClampNeg) r_6.toInt64) = 0) → wb_law_1601 xs L L28 x5 u_3 u_7 o_4 dd) ∧ ((¬ (lg_cmp (o_4 ((0 : Int32)).toNatClampNeg) r_6.toInt64) = 0) → False))) ∧ ((¬ r_8 = r_2) → False))))))
set_option maxHeartbeats 4000000 in
set_option maxRecDepth 100000 in
theorem vb_law_1548 {p : Program} {l : Launch} {e : Env} {s : State} {m : MethodId} {args : Array Value} {below : List Frame} {meth : Method} {c : Code} {g : GE} {Qz : State → Prop} {b L : Nat} {xs : Nat → Int32} (C : zCx p l s m args meth c g RL cL_law 9) (hX : va_X b L xs s s.heap) (hbl : b < s.heap.size) (hbA : ¬ zA g b) {cz sz : Nat} (hcz : cz + 2 ≤ 603072) (hsz : sz + 12 ≤ 7207018) (hstk : l.stackTraces = false) {L28 : Int32 → MU → MU → (Nat → Int64) → (Nat → UInt64) → Prop} (hL28 : ∀ (x5 : Int32) (u v : MU) (o : Nat → Int64) (dd : Nat → UInt64), L28 x5 u v o dd → WM p l e room_1 s m args below meth c g 9 (cz + 2) (sz + 12) Qz 28 [(0, .ref b), (1, .ref (g.2.2.1 0)), (2, .ref (g.2.2.1 117)), (3, .ref (g.2.2.1 131)), (4, .ref (g.2.2.1 132)), (5, .int x5)] [] (u, v, o, dd)) (x5 : Int32) (u v : MU) (o : Nat → Int64) (dd : Nat → UInt64) (h : wb_law_1548 xs L L28 x5 u v o dd) : WM p l e room_1 s m args below meth c g 9 cz sz Qz 1548 [(0, .ref b), (1, .ref (g.2.2.1 0)), (2, .ref (g.2.2.1 117)), (3, .ref (g.2.2.1 131)), (4, .ref (g.2.2.1 132)), (5, .int x5)] [] (u, v, o, dd) := by
  unfold wb_law_1548 at h
  refine zm_aload_n C dL_law_1548 rfl 1 rfl ?_
  refine zm_aload_n C dL_law_1549 rfl 0 rfl ?_
  refine zm_iload C dL_law_1550 5 rfl ?_
  refine zm_iconst (v := 1) C dL_law_1552 (by decide) ?_
  refine zm_iadd C dL_law_1553 ?_
  obtain ⟨hg_1, h⟩ := h
  refine zm_sld C hX hbl hbA hg_1 dL_law_1554 ?_
  refine zm_aload_n C dL_law_1555 rfl 3 rfl ?_
  refine zm_ci (zr_SW (As := [.ref (g.2.2.1 0), .int (xs ((x5 + (1 : Int32))).toNatClampNeg), .ref (g.2.2.1 131)]) (rest := []) C (c_L_bestBurrow l hstk g u v o dd (xs ((x5 + (1 : Int32))).toNatClampNeg) h) wd_906 wd_907 wd_0 wd_908 hz_L_bestBurrow rfl rfl ⟨by decide, by decide⟩ ⟨(show cz + 2 ≤ 603072 by omega), (show sz + 12 ≤ 7207018 by omega)⟩ rfl rfl (Nat.le_of_ble_eq_true rfl) dL_law_1556) (fun r_2 M1 hq => ?_)
  obtain ⟨u_3, o_4, rfl, h⟩ := hq
  refine zm_istore (lv' := [(6, .int r_2), (0, .ref b), (1, .ref (g.2.2.1 0)), (2, .ref (g.2.2.1 117)), (3, .ref (g.2.2.1 131)), (4, .ref (g.2.2.1 132)), (5, .int x5)]) C dL_law_1559 (by decide) rfl ?_
  refine zm_aload_n C dL_law_1561 rfl 3 rfl ?_
  refine zm_aload_n C dL_law_1562 rfl 1 rfl ?_
  refine zm_iload C dL_law_1563 6 rfl ?_
  refine zm_iconst (v := 1) C dL_law_1565 (by decide) ?_
  refine zm_iadd C dL_law_1566 ?_
  obtain ⟨hg_5, h⟩ := h
  refine zm_sld C hX hbl hbA hg_5 dL_law_1567 ?_
  refine zm_ci (zr_V (As := [.int (xs ((x5 + (1 : Int32))).toNatClampNeg)]) (rest := []) C (c_X10_bestBurrow l g u_3 v (o_4, dd) (xs ((x5 + (1 : Int32))).toNatClampNeg) h) wd_1392 wd_1393 wd_1394 wd_11 wd_1395 hy_X10_bestBurrow rfl rfl ⟨by decide, by decide⟩ ⟨(show (cz + 2) + 0 ≤ 603072 by omega), (show (sz + 12) + 0 ≤ 7207018 by omega)⟩ (ci := 10) (by decide) (zCell_k kd_117) rfl rfl rfl rfl (Nat.le_of_ble_eq_true rfl) dL_law_1568) (fun r_6 M1 hq => ?_)
  obtain ⟨u_7, rfl, h⟩ := hq
  refine zm_istore (lv' := [(7, .int r_6), (6, .int r_2), (0, .ref b), (1, .ref (g.2.2.1 0)), (2, .ref (g.2.2.1 117)), (3, .ref (g.2.2.1 131)), (4, .ref (g.2.2.1 132)), (5, .int x5)]) C dL_law_1571 (by decide) rfl ?_
  refine zm_aload_n C dL_law_1573 rfl 4 rfl ?_
  refine zm_ci (zr_V (As := []) (rest := []) C (c_X10_thrown l g u_3 u_7 (o_4, dd)  h) wd_1176 wd_1177 wd_1178 wd_11 wd_1179 hy_X10_thrown rfl rfl ⟨by decide, by decide⟩ ⟨(show (cz + 2) + 0 ≤ 603072 by omega), (show (sz + 12) + 0 ≤ 7207018 by omega)⟩ (ci := 10) (by decide) (zCell_k kd_117) rfl rfl rfl rfl (Nat.le_of_ble_eq_true rfl) dL_law_1574) (fun r_8 M1 hq => ?_)
  obtain ⟨rfl, h⟩ := hq
  refine zm_iload C dL_law_1577 1 rfl ?_
  refine zm_icmp_eq (tgt := 1584) C dL_law_1579 (by decide) (fun hc_10 => ?_) (fun hc_10 => ?_)
  · have h := h.1 hc_10
    refine zm_iload C dL_law_1584 1 rfl ?_
    refine zm_if_ne (tgt := 1601) C dL_law_1586 (by decide) (fun hc_11 => ?_) (fun hc_11 => ?_)
    · have h := h.1 hc_11
      exact (zm_sub [2, 3, 4, 5, 6, 7] rfl (vb_law_1601 C hX hbl hbA hcz hsz hstk hL28 _ _ _ _ _ h))
    · have h := h.2 hc_11
      refine zm_aload_n C dL_law_1589 rfl 5 rfl ?_
      refine zm_iconst (v := 0) C dL_law_1590 (by decide) ?_
      refine zm_ldL C zIn01 dL_law_1591 ?_
      refine zm_iload C dL_law_1592 0 rfl ?_
      refine zm_i2l C dL_law_1594 ?_
      refine zm_lcmp C dL_law_1595 ?_
      refine zm_if_eq (tgt := 1601) C dL_law_1596 (by decide) (fun hc_12 => ?_) (fun hc_12 => ?_)
      · have h := h.1 hc_12
        exact (zm_sub [2, 3, 4, 5, 6, 7] rfl (vb_law_1601 C hX hbl hbA hcz hsz hstk hL28 _ _ _ _ _ h))
      · have h := h.2 hc_12
        refine zm_iconst (v := 0) C dL_law_1599 (by decide) ?_
        exact h.elim
  · have h := h.2 hc_10
    refine zm_iconst (v := 0) C dL_law_1582 (by decide) ?_
    exact h.elim
def wb_law_1669 (xs : Nat → Int32) (L : Nat) (L28 : Int32 → MU → MU → (Nat → Int64) → (Nat → UInt64) → Prop) (x5 : Int32) (u v : MU) (o : Nat → Int64) (dd : Nat → UInt64) : Prop := wb_law_2328 xs L L28 x5 u v o dd
set_option maxHeartbeats 4000000 in
set_option maxRecDepth 100000 in
theorem vb_law_1669 {p : Program} {l : Launch} {e : Env} {s : State} {m : MethodId} {args : Array Value} {below : List Frame} {meth : Method} {c : Code} {g : GE} {Qz : State → Prop} {b L : Nat} {xs : Nat → Int32} (C : zCx p l s m args meth c g RL cL_law 9) (hX : va_X b L xs s s.heap) (hbl : b < s.heap.size) (hbA : ¬ zA g b) {cz sz : Nat} (hcz : cz + 2 ≤ 603072) (hsz : sz + 12 ≤ 7207018) (hstk : l.stackTraces = false) {L28 : Int32 → MU → MU → (Nat → Int64) → (Nat → UInt64) → Prop} (hL28 : ∀ (x5 : Int32) (u v : MU) (o : Nat → Int64) (dd : Nat → UInt64), L28 x5 u v o dd → WM p l e room_1 s m args below meth c g 9 (cz + 2) (sz + 12) Qz 28 [(0, .ref b), (1, .ref (g.2.2.1 0)), (2, .ref (g.2.2.1 117)), (3, .ref (g.2.2.1 131)), (4, .ref (g.2.2.1 132)), (5, .int x5)] [] (u, v, o, dd)) (x5 : Int32) (u v : MU) (o : Nat → Int64) (dd : Nat → UInt64) (h : wb_law_1669 xs L L28 x5 u v o dd) : WM p l e room_1 s m args below meth c g 9 (cz + 1) (sz + 6) Qz 1669 [(0, .ref b), (1, .ref (g.2.2.1 0)), (2, .ref (g.2.2.1 117)), (3, .ref (g.2.2.1 131)), (4, .ref (g.2.2.1 132)), (5, .int x5)] [] (u, v, o, dd) := by
  unfold wb_law_1669 at h
  refine zm_goto (tgt := 2328) C dL_law_1669 (by decide) ?_
  exact zm_widen (by omega) (by omega) (zm_sub [0, 1, 2, 3, 4, 5] rfl (vb_law_2328 C hX hbl hbA hcz hsz hstk hL28 _ _ _ _ _ h))
def wb_law_1604 (xs : Nat → Int32) (L : Nat) (L28 : Int32 → MU → MU → (Nat → Int64) → (Nat → UInt64) → Prop) (x5 : Int32) (u v : MU) (o : Nat → Int64) (dd : Nat → UInt64) : Prop := vp_in (x5 + (1 : Int32)) L ∧ (vp_in (x5 + (2 : Int32)) L ∧ (w_L_burrowOf (xs ((x5 + (1 : Int32))).toNatClampNeg) (xs ((x5 + (2 : Int32))).toNatClampNeg) u o (fun r_3 u_4 o_5 => vp_in (x5 + (1 : Int32)) L ∧ (vp_in (x5 + (2 : Int32)) L ∧ (w_X10_burrowOf (xs ((x5 + (1 : Int32))).toNatClampNeg) (xs ((x5 + (2 : Int32))).toNatClampNeg) v (fun r_8 u_9 => w_X10_thrown u_9  (fun r_10 => ((r_10 = r_3) → ((¬ r_3 = 0) → wb_law_1669 xs L L28 x5 u_4 u_9 o_5 dd) ∧ ((r_3 = 0) → (((lg_cmp (o_5 ((0 : Int32)).toNatClampNeg) r_8.toInt64) = 0) → wb_law_1669 xs L L28 x5 u_4 u_9 o_5 dd) ∧ ((¬ (lg_cmp (o_5 ((0 : Int32)).toNatClampNeg) r_8.toInt64) = 0) → False))) ∧ ((¬ r_10 = r_3) → False))))))))
set_option maxHeartbeats 4000000 in
set_option maxRecDepth 100000 in
theorem vb_law_1604 {p : Program} {l : Launch} {e : Env} {s : State} {m : MethodId} {args : Array Value} {below : List Frame} {meth : Method} {c : Code} {g : GE} {Qz : State → Prop} {b L : Nat} {xs : Nat → Int32} (C : zCx p l s m args meth c g RL cL_law 9) (hX : va_X b L xs s s.heap) (hbl : b < s.heap.size) (hbA : ¬ zA g b) {cz sz : Nat} (hcz : cz + 2 ≤ 603072) (hsz : sz + 12 ≤ 7207018) (hstk : l.stackTraces = false) {L28 : Int32 → MU → MU → (Nat → Int64) → (Nat → UInt64) → Prop} (hL28 : ∀ (x5 : Int32) (u v : MU) (o : Nat → Int64) (dd : Nat → UInt64), L28 x5 u v o dd → WM p l e room_1 s m args below meth c g 9 (cz + 2) (sz + 12) Qz 28 [(0, .ref b), (1, .ref (g.2.2.1 0)), (2, .ref (g.2.2.1 117)), (3, .ref (g.2.2.1 131)), (4, .ref (g.2.2.1 132)), (5, .int x5)] [] (u, v, o, dd)) (x5 : Int32) (u v : MU) (o : Nat → Int64) (dd : Nat → UInt64) (h : wb_law_1604 xs L L28 x5 u v o dd) : WM p l e room_1 s m args below meth c g 9 cz sz Qz 1604 [(0, .ref b), (1, .ref (g.2.2.1 0)), (2, .ref (g.2.2.1 117)), (3, .ref (g.2.2.1 131)), (4, .ref (g.2.2.1 132)), (5, .int x5)] [] (u, v, o, dd) := by
  unfold wb_law_1604 at h
  refine zm_aload_n C dL_law_1604 rfl 1 rfl ?_
  refine zm_aload_n C dL_law_1605 rfl 0 rfl ?_
  refine zm_iload C dL_law_1606 5 rfl ?_
  refine zm_iconst (v := 1) C dL_law_1608 (by decide) ?_
  refine zm_iadd C dL_law_1609 ?_
  obtain ⟨hg_1, h⟩ := h
  refine zm_sld C hX hbl hbA hg_1 dL_law_1610 ?_
  refine zm_aload_n C dL_law_1611 rfl 0 rfl ?_
  refine zm_iload C dL_law_1612 5 rfl ?_
  refine zm_iconst (v := 2) C dL_law_1614 (by decide) ?_
  refine zm_iadd C dL_law_1615 ?_
  obtain ⟨hg_2, h⟩ := h
  refine zm_sld C hX hbl hbA hg_2 dL_law_1616 ?_
  refine zm_aload_n C dL_law_1617 rfl 3 rfl ?_
  refine zm_ci (zr_SW (As := [.ref (g.2.2.1 0), .int (xs ((x5 + (1 : Int32))).toNatClampNeg), .int (xs ((x5 + (2 : Int32))).toNatClampNeg), .ref (g.2.2.1 131)]) (rest := []) C (c_L_burrowOf l hstk g u v o dd (xs ((x5 + (1 : Int32))).toNatClampNeg) (xs ((x5 + (2 : Int32))).toNatClampNeg) h) wd_920 wd_921 wd_0 wd_922 hz_L_burrowOf rfl rfl ⟨by decide, by decide⟩ ⟨(show cz + 1 ≤ 603072 by omega), (show sz + 6 ≤ 7207018 by omega)⟩ rfl rfl (Nat.le_of_ble_eq_true rfl) dL_law_1618) (fun r_3 M1 hq => ?_)
  obtain ⟨u_4, o_5, rfl, h⟩ := hq
  refine zm_istore (lv' := [(6, .int r_3), (0, .ref b), (1, .ref (g.2.2.1 0)), (2, .ref (g.2.2.1 117)), (3, .ref (g.2.2.1 131)), (4, .ref (g.2.2.1 132)), (5, .int x5)]) C dL_law_1621 (by decide) rfl ?_
  refine zm_aload_n C dL_law_1623 rfl 3 rfl ?_
  refine zm_aload_n C dL_law_1624 rfl 1 rfl ?_
  refine zm_iload C dL_law_1625 6 rfl ?_
  refine zm_iconst (v := 1) C dL_law_1627 (by decide) ?_
  refine zm_iadd C dL_law_1628 ?_
  obtain ⟨hg_6, h⟩ := h
  refine zm_sld C hX hbl hbA hg_6 dL_law_1629 ?_
  refine zm_aload_n C dL_law_1630 rfl 1 rfl ?_
  refine zm_iload C dL_law_1631 6 rfl ?_
  refine zm_iconst (v := 2) C dL_law_1633 (by decide) ?_
  refine zm_iadd C dL_law_1634 ?_
  obtain ⟨hg_7, h⟩ := h
  refine zm_sld C hX hbl hbA hg_7 dL_law_1635 ?_
  refine zm_ci (zr_V (As := [.int (xs ((x5 + (1 : Int32))).toNatClampNeg), .int (xs ((x5 + (2 : Int32))).toNatClampNeg)]) (rest := []) C (c_X10_burrowOf l g u_4 v (o_5, dd) (xs ((x5 + (1 : Int32))).toNatClampNeg) (xs ((x5 + (2 : Int32))).toNatClampNeg) h) wd_1400 wd_1401 wd_1402 wd_11 wd_1403 hy_X10_burrowOf rfl rfl ⟨by decide, by decide⟩ ⟨(show (cz + 1) + 0 ≤ 603072 by omega), (show (sz + 6) + 0 ≤ 7207018 by omega)⟩ (ci := 10) (by decide) (zCell_k kd_117) rfl rfl rfl rfl (Nat.le_of_ble_eq_true rfl) dL_law_1636) (fun r_8 M1 hq => ?_)
  obtain ⟨u_9, rfl, h⟩ := hq
  refine zm_istore (lv' := [(7, .int r_8), (6, .int r_3), (0, .ref b), (1, .ref (g.2.2.1 0)), (2, .ref (g.2.2.1 117)), (3, .ref (g.2.2.1 131)), (4, .ref (g.2.2.1 132)), (5, .int x5)]) C dL_law_1639 (by decide) rfl ?_
  refine zm_aload_n C dL_law_1641 rfl 4 rfl ?_
  refine zm_ci (zr_V (As := []) (rest := []) C (c_X10_thrown l g u_4 u_9 (o_5, dd)  h) wd_1176 wd_1177 wd_1178 wd_11 wd_1179 hy_X10_thrown rfl rfl ⟨by decide, by decide⟩ ⟨(show (cz + 1) + 0 ≤ 603072 by omega), (show (sz + 6) + 0 ≤ 7207018 by omega)⟩ (ci := 10) (by decide) (zCell_k kd_117) rfl rfl rfl rfl (Nat.le_of_ble_eq_true rfl) dL_law_1642) (fun r_10 M1 hq => ?_)
  obtain ⟨rfl, h⟩ := hq
  refine zm_iload C dL_law_1645 1 rfl ?_
  refine zm_icmp_eq (tgt := 1652) C dL_law_1647 (by decide) (fun hc_12 => ?_) (fun hc_12 => ?_)
  · have h := h.1 hc_12
    refine zm_iload C dL_law_1652 1 rfl ?_
    refine zm_if_ne (tgt := 1669) C dL_law_1654 (by decide) (fun hc_13 => ?_) (fun hc_13 => ?_)
    · have h := h.1 hc_13
      exact (zm_sub [2, 3, 4, 5, 6, 7] rfl (vb_law_1669 C hX hbl hbA hcz hsz hstk hL28 _ _ _ _ _ h))
    · have h := h.2 hc_13
      refine zm_aload_n C dL_law_1657 rfl 5 rfl ?_
      refine zm_iconst (v := 0) C dL_law_1658 (by decide) ?_
      refine zm_ldL C zIn01 dL_law_1659 ?_
      refine zm_iload C dL_law_1660 0 rfl ?_
      refine zm_i2l C dL_law_1662 ?_
      refine zm_lcmp C dL_law_1663 ?_
      refine zm_if_eq (tgt := 1669) C dL_law_1664 (by decide) (fun hc_14 => ?_) (fun hc_14 => ?_)
      · have h := h.1 hc_14
        exact (zm_sub [2, 3, 4, 5, 6, 7] rfl (vb_law_1669 C hX hbl hbA hcz hsz hstk hL28 _ _ _ _ _ h))
      · have h := h.2 hc_14
        refine zm_iconst (v := 0) C dL_law_1667 (by decide) ?_
        exact h.elim
  · have h := h.2 hc_12
    refine zm_iconst (v := 0) C dL_law_1650 (by decide) ?_
    exact h.elim
def wb_law_1753 (xs : Nat → Int32) (L : Nat) (L28 : Int32 → MU → MU → (Nat → Int64) → (Nat → UInt64) → Prop) (x5 : Int32) (u v : MU) (o : Nat → Int64) (dd : Nat → UInt64) : Prop := wb_law_2328 xs L L28 x5 u v o dd
set_option maxHeartbeats 4000000 in
set_option maxRecDepth 100000 in
theorem vb_law_1753 {p : Program} {l : Launch} {e : Env} {s : State} {m : MethodId} {args : Array Value} {below : List Frame} {meth : Method} {c : Code} {g : GE} {Qz : State → Prop} {b L : Nat} {xs : Nat → Int32} (C : zCx p l s m args meth c g RL cL_law 9) (hX : va_X b L xs s s.heap) (hbl : b < s.heap.size) (hbA : ¬ zA g b) {cz sz : Nat} (hcz : cz + 2 ≤ 603072) (hsz : sz + 12 ≤ 7207018) (hstk : l.stackTraces = false) {L28 : Int32 → MU → MU → (Nat → Int64) → (Nat → UInt64) → Prop} (hL28 : ∀ (x5 : Int32) (u v : MU) (o : Nat → Int64) (dd : Nat → UInt64), L28 x5 u v o dd → WM p l e room_1 s m args below meth c g 9 (cz + 2) (sz + 12) Qz 28 [(0, .ref b), (1, .ref (g.2.2.1 0)), (2, .ref (g.2.2.1 117)), (3, .ref (g.2.2.1 131)), (4, .ref (g.2.2.1 132)), (5, .int x5)] [] (u, v, o, dd)) (x5 : Int32) (u v : MU) (o : Nat → Int64) (dd : Nat → UInt64) (h : wb_law_1753 xs L L28 x5 u v o dd) : WM p l e room_1 s m args below meth c g 9 (cz + 1) (sz + 6) Qz 1753 [(0, .ref b), (1, .ref (g.2.2.1 0)), (2, .ref (g.2.2.1 117)), (3, .ref (g.2.2.1 131)), (4, .ref (g.2.2.1 132)), (5, .int x5)] [] (u, v, o, dd) := by
  unfold wb_law_1753 at h
  refine zm_goto (tgt := 2328) C dL_law_1753 (by decide) ?_
  exact zm_widen (by omega) (by omega) (zm_sub [0, 1, 2, 3, 4, 5] rfl (vb_law_2328 C hX hbl hbA hcz hsz hstk hL28 _ _ _ _ _ h))
def wb_law_1720 (xs : Nat → Int32) (L : Nat) (L28 : Int32 → MU → MU → (Nat → Int64) → (Nat → UInt64) → Prop) (x5 : Int32) (x6 : Int32) (s0 : Int32) (s1 : Int32) (u v : MU) (o : Nat → Int64) (dd : Nat → UInt64) : Prop := w_X10_pathOf s1 s0 v (fun r_1 u_2 => w_X10_thrown u_2  (fun r_3 => ((r_3 = x6) → ((¬ x6 = 0) → wb_law_1753 xs L L28 x5 u u_2 o dd) ∧ ((x6 = 0) → (((lg_cmp (o ((0 : Int32)).toNatClampNeg) r_1.toInt64) = 0) → wb_law_1753 xs L L28 x5 u u_2 o dd) ∧ ((¬ (lg_cmp (o ((0 : Int32)).toNatClampNeg) r_1.toInt64) = 0) → False))) ∧ ((¬ r_3 = x6) → False)))
set_option maxHeartbeats 4000000 in
set_option maxRecDepth 100000 in
theorem vb_law_1720 {p : Program} {l : Launch} {e : Env} {s : State} {m : MethodId} {args : Array Value} {below : List Frame} {meth : Method} {c : Code} {g : GE} {Qz : State → Prop} {b L : Nat} {xs : Nat → Int32} (C : zCx p l s m args meth c g RL cL_law 9) (hX : va_X b L xs s s.heap) (hbl : b < s.heap.size) (hbA : ¬ zA g b) {cz sz : Nat} (hcz : cz + 2 ≤ 603072) (hsz : sz + 12 ≤ 7207018) (hstk : l.stackTraces = false) {L28 : Int32 → MU → MU → (Nat → Int64) → (Nat → UInt64) → Prop} (hL28 : ∀ (x5 : Int32) (u v : MU) (o : Nat → Int64) (dd : Nat → UInt64), L28 x5 u v o dd → WM p l e room_1 s m args below meth c g 9 (cz + 2) (sz + 12) Qz 28 [(0, .ref b), (1, .ref (g.2.2.1 0)), (2, .ref (g.2.2.1 117)), (3, .ref (g.2.2.1 131)), (4, .ref (g.2.2.1 132)), (5, .int x5)] [] (u, v, o, dd)) (x5 : Int32) (x6 : Int32) (s0 : Int32) (s1 : Int32) (u v : MU) (o : Nat → Int64) (dd : Nat → UInt64) (h : wb_law_1720 xs L L28 x5 x6 s0 s1 u v o dd) : WM p l e room_1 s m args below meth c g 9 (cz + 1) (sz + 6) Qz 1720 [(0, .ref b), (1, .ref (g.2.2.1 0)), (2, .ref (g.2.2.1 117)), (3, .ref (g.2.2.1 131)), (4, .ref (g.2.2.1 132)), (5, .int x5), (6, .int x6)] [.int s0, .int s1, .ref (g.2.2.1 117)] (u, v, o, dd) := by
  unfold wb_law_1720 at h
  refine zm_ci (zr_V (As := [.int s1, .int s0]) (rest := []) C (c_X10_pathOf l g u v (o, dd) s1 s0 h) wd_1404 wd_1405 wd_1406 wd_11 wd_1407 hy_X10_pathOf rfl rfl ⟨by decide, by decide⟩ ⟨(show (cz + 1) + 0 ≤ 603072 by omega), (show (sz + 6) + 0 ≤ 7207018 by omega)⟩ (ci := 10) (by decide) (zCell_k kd_117) rfl rfl rfl rfl (Nat.le_of_ble_eq_true rfl) dL_law_1720) (fun r_1 M1 hq => ?_)
  obtain ⟨u_2, rfl, h⟩ := hq
  refine zm_istore (lv' := [(7, .int r_1), (0, .ref b), (1, .ref (g.2.2.1 0)), (2, .ref (g.2.2.1 117)), (3, .ref (g.2.2.1 131)), (4, .ref (g.2.2.1 132)), (5, .int x5), (6, .int x6)]) C dL_law_1723 (by decide) rfl ?_
  refine zm_aload_n C dL_law_1725 rfl 3 rfl ?_
  refine zm_ci (zr_V (As := []) (rest := []) C (c_X10_thrown l g u u_2 (o, dd)  h) wd_1176 wd_1177 wd_1178 wd_11 wd_1179 hy_X10_thrown rfl rfl ⟨by decide, by decide⟩ ⟨(show (cz + 1) + 0 ≤ 603072 by omega), (show (sz + 6) + 0 ≤ 7207018 by omega)⟩ (ci := 10) (by decide) (zCell_k kd_117) rfl rfl rfl rfl (Nat.le_of_ble_eq_true rfl) dL_law_1726) (fun r_3 M1 hq => ?_)
  obtain ⟨rfl, h⟩ := hq
  refine zm_iload C dL_law_1729 7 rfl ?_
  refine zm_icmp_eq (tgt := 1736) C dL_law_1731 (by decide) (fun hc_5 => ?_) (fun hc_5 => ?_)
  · have h := h.1 hc_5
    refine zm_iload C dL_law_1736 7 rfl ?_
    refine zm_if_ne (tgt := 1753) C dL_law_1738 (by decide) (fun hc_6 => ?_) (fun hc_6 => ?_)
    · have h := h.1 hc_6
      exact (zm_sub [1, 2, 3, 4, 5, 6] rfl (vb_law_1753 C hX hbl hbA hcz hsz hstk hL28 _ _ _ _ _ h))
    · have h := h.2 hc_6
      refine zm_aload_n C dL_law_1741 rfl 4 rfl ?_
      refine zm_iconst (v := 0) C dL_law_1742 (by decide) ?_
      refine zm_ldL C zIn01 dL_law_1743 ?_
      refine zm_iload C dL_law_1744 0 rfl ?_
      refine zm_i2l C dL_law_1746 ?_
      refine zm_lcmp C dL_law_1747 ?_
      refine zm_if_eq (tgt := 1753) C dL_law_1748 (by decide) (fun hc_7 => ?_) (fun hc_7 => ?_)
      · have h := h.1 hc_7
        exact (zm_sub [1, 2, 3, 4, 5, 6] rfl (vb_law_1753 C hX hbl hbA hcz hsz hstk hL28 _ _ _ _ _ h))
      · have h := h.2 hc_7
        refine zm_iconst (v := 0) C dL_law_1751 (by decide) ?_
        exact h.elim
  · have h := h.2 hc_5
    refine zm_iconst (v := 0) C dL_law_1734 (by decide) ?_
    exact h.elim
def wb_law_1693 (xs : Nat → Int32) (L : Nat) (L28 : Int32 → MU → MU → (Nat → Int64) → (Nat → UInt64) → Prop) (x5 : Int32) (s0 : Int32) (s1 : Int32) (u v : MU) (o : Nat → Int64) (dd : Nat → UInt64) : Prop := w_L_pathOf s1 s0 u o (fun r_1 u_2 o_3 => vp_in (x5 + (1 : Int32)) L ∧ (vp_in (x5 + (2 : Int32)) L ∧ ((((xs ((x5 + (2 : Int32))).toNatClampNeg) = 0) → wb_law_1720 xs L L28 x5 r_1 (0 : Int32) (xs ((x5 + (1 : Int32))).toNatClampNeg) u_2 v o_3 dd) ∧ ((¬ (xs ((x5 + (2 : Int32))).toNatClampNeg) = 0) → wb_law_1720 xs L L28 x5 r_1 (1 : Int32) (xs ((x5 + (1 : Int32))).toNatClampNeg) u_2 v o_3 dd))))
set_option maxHeartbeats 4000000 in
set_option maxRecDepth 100000 in
theorem vb_law_1693 {p : Program} {l : Launch} {e : Env} {s : State} {m : MethodId} {args : Array Value} {below : List Frame} {meth : Method} {c : Code} {g : GE} {Qz : State → Prop} {b L : Nat} {xs : Nat → Int32} (C : zCx p l s m args meth c g RL cL_law 9) (hX : va_X b L xs s s.heap) (hbl : b < s.heap.size) (hbA : ¬ zA g b) {cz sz : Nat} (hcz : cz + 2 ≤ 603072) (hsz : sz + 12 ≤ 7207018) (hstk : l.stackTraces = false) {L28 : Int32 → MU → MU → (Nat → Int64) → (Nat → UInt64) → Prop} (hL28 : ∀ (x5 : Int32) (u v : MU) (o : Nat → Int64) (dd : Nat → UInt64), L28 x5 u v o dd → WM p l e room_1 s m args below meth c g 9 (cz + 2) (sz + 12) Qz 28 [(0, .ref b), (1, .ref (g.2.2.1 0)), (2, .ref (g.2.2.1 117)), (3, .ref (g.2.2.1 131)), (4, .ref (g.2.2.1 132)), (5, .int x5)] [] (u, v, o, dd)) (x5 : Int32) (s0 : Int32) (s1 : Int32) (u v : MU) (o : Nat → Int64) (dd : Nat → UInt64) (h : wb_law_1693 xs L L28 x5 s0 s1 u v o dd) : WM p l e room_1 s m args below meth c g 9 cz sz Qz 1693 [(0, .ref b), (1, .ref (g.2.2.1 0)), (2, .ref (g.2.2.1 117)), (3, .ref (g.2.2.1 131)), (4, .ref (g.2.2.1 132)), (5, .int x5)] [.int s0, .int s1, .ref (g.2.2.1 0)] (u, v, o, dd) := by
  unfold wb_law_1693 at h
  refine zm_aload_n C dL_law_1693 rfl 3 rfl ?_
  refine zm_ci (zr_SW (As := [.ref (g.2.2.1 0), .int s1, .int s0, .ref (g.2.2.1 131)]) (rest := []) C (c_L_pathOf l hstk g u v o dd s1 s0 h) wd_933 wd_934 wd_0 wd_935 hz_L_pathOf rfl rfl ⟨by decide, by decide⟩ ⟨(show cz + 1 ≤ 603072 by omega), (show sz + 6 ≤ 7207018 by omega)⟩ rfl rfl (Nat.le_of_ble_eq_true rfl) dL_law_1694) (fun r_1 M1 hq => ?_)
  obtain ⟨u_2, o_3, rfl, h⟩ := hq
  refine zm_istore (lv' := [(6, .int r_1), (0, .ref b), (1, .ref (g.2.2.1 0)), (2, .ref (g.2.2.1 117)), (3, .ref (g.2.2.1 131)), (4, .ref (g.2.2.1 132)), (5, .int x5)]) C dL_law_1697 (by decide) rfl ?_
  refine zm_aload_n C dL_law_1699 rfl 3 rfl ?_
  refine zm_aload_n C dL_law_1700 rfl 1 rfl ?_
  refine zm_iload C dL_law_1701 6 rfl ?_
  refine zm_iconst (v := 1) C dL_law_1703 (by decide) ?_
  refine zm_iadd C dL_law_1704 ?_
  obtain ⟨hg_4, h⟩ := h
  refine zm_sld C hX hbl hbA hg_4 dL_law_1705 ?_
  refine zm_aload_n C dL_law_1706 rfl 1 rfl ?_
  refine zm_iload C dL_law_1707 6 rfl ?_
  refine zm_iconst (v := 2) C dL_law_1709 (by decide) ?_
  refine zm_iadd C dL_law_1710 ?_
  obtain ⟨hg_5, h⟩ := h
  refine zm_sld C hX hbl hbA hg_5 dL_law_1711 ?_
  refine zm_if_eq (tgt := 1719) C dL_law_1712 (by decide) (fun hc_6 => ?_) (fun hc_6 => ?_)
  · have h := h.1 hc_6
    refine zm_iconst (v := 0) C dL_law_1719 (by decide) ?_
    exact (zm_sub [1, 2, 3, 4, 5, 6, 0] rfl (vb_law_1720 C hX hbl hbA hcz hsz hstk hL28 _ _ _ _ _ _ _ _ h))
  · have h := h.2 hc_6
    refine zm_iconst (v := 1) C dL_law_1715 (by decide) ?_
    refine zm_goto (tgt := 1720) C dL_law_1716 (by decide) ?_
    exact (zm_sub [1, 2, 3, 4, 5, 6, 0] rfl (vb_law_1720 C hX hbl hbA hcz hsz hstk hL28 _ _ _ _ _ _ _ _ h))
def wb_law_1672 (xs : Nat → Int32) (L : Nat) (L28 : Int32 → MU → MU → (Nat → Int64) → (Nat → UInt64) → Prop) (x5 : Int32) (u v : MU) (o : Nat → Int64) (dd : Nat → UInt64) : Prop := vp_in (x5 + (1 : Int32)) L ∧ (vp_in (x5 + (2 : Int32)) L ∧ ((((xs ((x5 + (2 : Int32))).toNatClampNeg) = 0) → wb_law_1693 xs L L28 x5 (0 : Int32) (xs ((x5 + (1 : Int32))).toNatClampNeg) u v o dd) ∧ ((¬ (xs ((x5 + (2 : Int32))).toNatClampNeg) = 0) → wb_law_1693 xs L L28 x5 (1 : Int32) (xs ((x5 + (1 : Int32))).toNatClampNeg) u v o dd)))
set_option maxHeartbeats 4000000 in
set_option maxRecDepth 100000 in
theorem vb_law_1672 {p : Program} {l : Launch} {e : Env} {s : State} {m : MethodId} {args : Array Value} {below : List Frame} {meth : Method} {c : Code} {g : GE} {Qz : State → Prop} {b L : Nat} {xs : Nat → Int32} (C : zCx p l s m args meth c g RL cL_law 9) (hX : va_X b L xs s s.heap) (hbl : b < s.heap.size) (hbA : ¬ zA g b) {cz sz : Nat} (hcz : cz + 2 ≤ 603072) (hsz : sz + 12 ≤ 7207018) (hstk : l.stackTraces = false) {L28 : Int32 → MU → MU → (Nat → Int64) → (Nat → UInt64) → Prop} (hL28 : ∀ (x5 : Int32) (u v : MU) (o : Nat → Int64) (dd : Nat → UInt64), L28 x5 u v o dd → WM p l e room_1 s m args below meth c g 9 (cz + 2) (sz + 12) Qz 28 [(0, .ref b), (1, .ref (g.2.2.1 0)), (2, .ref (g.2.2.1 117)), (3, .ref (g.2.2.1 131)), (4, .ref (g.2.2.1 132)), (5, .int x5)] [] (u, v, o, dd)) (x5 : Int32) (u v : MU) (o : Nat → Int64) (dd : Nat → UInt64) (h : wb_law_1672 xs L L28 x5 u v o dd) : WM p l e room_1 s m args below meth c g 9 cz sz Qz 1672 [(0, .ref b), (1, .ref (g.2.2.1 0)), (2, .ref (g.2.2.1 117)), (3, .ref (g.2.2.1 131)), (4, .ref (g.2.2.1 132)), (5, .int x5)] [] (u, v, o, dd) := by
  unfold wb_law_1672 at h
  refine zm_aload_n C dL_law_1672 rfl 1 rfl ?_
  refine zm_aload_n C dL_law_1673 rfl 0 rfl ?_
  refine zm_iload C dL_law_1674 5 rfl ?_
  refine zm_iconst (v := 1) C dL_law_1676 (by decide) ?_
  refine zm_iadd C dL_law_1677 ?_
  obtain ⟨hg_1, h⟩ := h
  refine zm_sld C hX hbl hbA hg_1 dL_law_1678 ?_
  refine zm_aload_n C dL_law_1679 rfl 0 rfl ?_
  refine zm_iload C dL_law_1680 5 rfl ?_
  refine zm_iconst (v := 2) C dL_law_1682 (by decide) ?_
  refine zm_iadd C dL_law_1683 ?_
  obtain ⟨hg_2, h⟩ := h
  refine zm_sld C hX hbl hbA hg_2 dL_law_1684 ?_
  refine zm_if_eq (tgt := 1692) C dL_law_1685 (by decide) (fun hc_3 => ?_) (fun hc_3 => ?_)
  · have h := h.1 hc_3
    refine zm_iconst (v := 0) C dL_law_1692 (by decide) ?_
    exact (zm_sub [0, 1, 2, 3, 4, 5] rfl (vb_law_1693 C hX hbl hbA hcz hsz hstk hL28 _ _ _ _ _ _ _ h))
  · have h := h.2 hc_3
    refine zm_iconst (v := 1) C dL_law_1688 (by decide) ?_
    refine zm_goto (tgt := 1693) C dL_law_1689 (by decide) ?_
    exact (zm_sub [0, 1, 2, 3, 4, 5] rfl (vb_law_1693 C hX hbl hbA hcz hsz hstk hL28 _ _ _ _ _ _ _ h))
def wb_law_1797 (xs : Nat → Int32) (L : Nat) (L28 : Int32 → MU → MU → (Nat → Int64) → (Nat → UInt64) → Prop) (x5 : Int32) (u v : MU) (o : Nat → Int64) (dd : Nat → UInt64) : Prop := wb_law_2328 xs L L28 x5 u v o dd
set_option maxHeartbeats 4000000 in
set_option maxRecDepth 100000 in
theorem vb_law_1797 {p : Program} {l : Launch} {e : Env} {s : State} {m : MethodId} {args : Array Value} {below : List Frame} {meth : Method} {c : Code} {g : GE} {Qz : State → Prop} {b L : Nat} {xs : Nat → Int32} (C : zCx p l s m args meth c g RL cL_law 9) (hX : va_X b L xs s s.heap) (hbl : b < s.heap.size) (hbA : ¬ zA g b) {cz sz : Nat} (hcz : cz + 2 ≤ 603072) (hsz : sz + 12 ≤ 7207018) (hstk : l.stackTraces = false) {L28 : Int32 → MU → MU → (Nat → Int64) → (Nat → UInt64) → Prop} (hL28 : ∀ (x5 : Int32) (u v : MU) (o : Nat → Int64) (dd : Nat → UInt64), L28 x5 u v o dd → WM p l e room_1 s m args below meth c g 9 (cz + 2) (sz + 12) Qz 28 [(0, .ref b), (1, .ref (g.2.2.1 0)), (2, .ref (g.2.2.1 117)), (3, .ref (g.2.2.1 131)), (4, .ref (g.2.2.1 132)), (5, .int x5)] [] (u, v, o, dd)) (x5 : Int32) (u v : MU) (o : Nat → Int64) (dd : Nat → UInt64) (h : wb_law_1797 xs L L28 x5 u v o dd) : WM p l e room_1 s m args below meth c g 9 (cz + 1) (sz + 6) Qz 1797 [(0, .ref b), (1, .ref (g.2.2.1 0)), (2, .ref (g.2.2.1 117)), (3, .ref (g.2.2.1 131)), (4, .ref (g.2.2.1 132)), (5, .int x5)] [] (u, v, o, dd) := by
  unfold wb_law_1797 at h
  refine zm_goto (tgt := 2328) C dL_law_1797 (by decide) ?_
  exact zm_widen (by omega) (by omega) (zm_sub [0, 1, 2, 3, 4, 5] rfl (vb_law_2328 C hX hbl hbA hcz hsz hstk hL28 _ _ _ _ _ h))
def wb_law_1756 (xs : Nat → Int32) (L : Nat) (L28 : Int32 → MU → MU → (Nat → Int64) → (Nat → UInt64) → Prop) (x5 : Int32) (u v : MU) (o : Nat → Int64) (dd : Nat → UInt64) : Prop := w_L_now  u o (fun r_1 u_2 o_3 => w_X10_now  v (fun r_4 u_5 => w_X10_thrown u_5  (fun r_6 => ((r_6 = r_1) → ((¬ r_1 = 0) → wb_law_1797 xs L L28 x5 u_2 u_5 o_3 dd) ∧ ((r_1 = 0) → (((lg_cmp (o_3 ((0 : Int32)).toNatClampNeg) r_4.toInt64) = 0) → wb_law_1797 xs L L28 x5 u_2 u_5 o_3 dd) ∧ ((¬ (lg_cmp (o_3 ((0 : Int32)).toNatClampNeg) r_4.toInt64) = 0) → False))) ∧ ((¬ r_6 = r_1) → False))))
set_option maxHeartbeats 4000000 in
set_option maxRecDepth 100000 in
theorem vb_law_1756 {p : Program} {l : Launch} {e : Env} {s : State} {m : MethodId} {args : Array Value} {below : List Frame} {meth : Method} {c : Code} {g : GE} {Qz : State → Prop} {b L : Nat} {xs : Nat → Int32} (C : zCx p l s m args meth c g RL cL_law 9) (hX : va_X b L xs s s.heap) (hbl : b < s.heap.size) (hbA : ¬ zA g b) {cz sz : Nat} (hcz : cz + 2 ≤ 603072) (hsz : sz + 12 ≤ 7207018) (hstk : l.stackTraces = false) {L28 : Int32 → MU → MU → (Nat → Int64) → (Nat → UInt64) → Prop} (hL28 : ∀ (x5 : Int32) (u v : MU) (o : Nat → Int64) (dd : Nat → UInt64), L28 x5 u v o dd → WM p l e room_1 s m args below meth c g 9 (cz + 2) (sz + 12) Qz 28 [(0, .ref b), (1, .ref (g.2.2.1 0)), (2, .ref (g.2.2.1 117)), (3, .ref (g.2.2.1 131)), (4, .ref (g.2.2.1 132)), (5, .int x5)] [] (u, v, o, dd)) (x5 : Int32) (u v : MU) (o : Nat → Int64) (dd : Nat → UInt64) (h : wb_law_1756 xs L L28 x5 u v o dd) : WM p l e room_1 s m args below meth c g 9 cz sz Qz 1756 [(0, .ref b), (1, .ref (g.2.2.1 0)), (2, .ref (g.2.2.1 117)), (3, .ref (g.2.2.1 131)), (4, .ref (g.2.2.1 132)), (5, .int x5)] [] (u, v, o, dd) := by
  unfold wb_law_1756 at h
  refine zm_aload_n C dL_law_1756 rfl 1 rfl ?_
  refine zm_aload_n C dL_law_1757 rfl 3 rfl ?_
  refine zm_ci (zr_SW (As := [.ref (g.2.2.1 0), .ref (g.2.2.1 131)]) (rest := []) C (c_L_now l hstk g u v o dd  h) wd_941 wd_942 wd_0 wd_943 hz_L_now rfl rfl ⟨by decide, by decide⟩ ⟨(show cz + 1 ≤ 603072 by omega), (show sz + 6 ≤ 7207018 by omega)⟩ rfl rfl (Nat.le_of_ble_eq_true rfl) dL_law_1758) (fun r_1 M1 hq => ?_)
  obtain ⟨u_2, o_3, rfl, h⟩ := hq
  refine zm_istore (lv' := [(6, .int r_1), (0, .ref b), (1, .ref (g.2.2.1 0)), (2, .ref (g.2.2.1 117)), (3, .ref (g.2.2.1 131)), (4, .ref (g.2.2.1 132)), (5, .int x5)]) C dL_law_1761 (by decide) rfl ?_
  refine zm_aload_n C dL_law_1763 rfl 3 rfl ?_
  refine zm_ci (zr_V (As := []) (rest := []) C (c_X10_now l g u_2 v (o_3, dd)  h) wd_1408 wd_1409 wd_1410 wd_11 wd_1411 hy_X10_now rfl rfl ⟨by decide, by decide⟩ ⟨(show (cz + 1) + 0 ≤ 603072 by omega), (show (sz + 6) + 0 ≤ 7207018 by omega)⟩ (ci := 10) (by decide) (zCell_k kd_117) rfl rfl rfl rfl (Nat.le_of_ble_eq_true rfl) dL_law_1764) (fun r_4 M1 hq => ?_)
  obtain ⟨u_5, rfl, h⟩ := hq
  refine zm_istore (lv' := [(7, .int r_4), (6, .int r_1), (0, .ref b), (1, .ref (g.2.2.1 0)), (2, .ref (g.2.2.1 117)), (3, .ref (g.2.2.1 131)), (4, .ref (g.2.2.1 132)), (5, .int x5)]) C dL_law_1767 (by decide) rfl ?_
  refine zm_aload_n C dL_law_1769 rfl 4 rfl ?_
  refine zm_ci (zr_V (As := []) (rest := []) C (c_X10_thrown l g u_2 u_5 (o_3, dd)  h) wd_1176 wd_1177 wd_1178 wd_11 wd_1179 hy_X10_thrown rfl rfl ⟨by decide, by decide⟩ ⟨(show (cz + 1) + 0 ≤ 603072 by omega), (show (sz + 6) + 0 ≤ 7207018 by omega)⟩ (ci := 10) (by decide) (zCell_k kd_117) rfl rfl rfl rfl (Nat.le_of_ble_eq_true rfl) dL_law_1770) (fun r_6 M1 hq => ?_)
  obtain ⟨rfl, h⟩ := hq
  refine zm_iload C dL_law_1773 1 rfl ?_
  refine zm_icmp_eq (tgt := 1780) C dL_law_1775 (by decide) (fun hc_8 => ?_) (fun hc_8 => ?_)
  · have h := h.1 hc_8
    refine zm_iload C dL_law_1780 1 rfl ?_
    refine zm_if_ne (tgt := 1797) C dL_law_1782 (by decide) (fun hc_9 => ?_) (fun hc_9 => ?_)
    · have h := h.1 hc_9
      exact (zm_sub [2, 3, 4, 5, 6, 7] rfl (vb_law_1797 C hX hbl hbA hcz hsz hstk hL28 _ _ _ _ _ h))
    · have h := h.2 hc_9
      refine zm_aload_n C dL_law_1785 rfl 5 rfl ?_
      refine zm_iconst (v := 0) C dL_law_1786 (by decide) ?_
      refine zm_ldL C zIn01 dL_law_1787 ?_
      refine zm_iload C dL_law_1788 0 rfl ?_
      refine zm_i2l C dL_law_1790 ?_
      refine zm_lcmp C dL_law_1791 ?_
      refine zm_if_eq (tgt := 1797) C dL_law_1792 (by decide) (fun hc_10 => ?_) (fun hc_10 => ?_)
      · have h := h.1 hc_10
        exact (zm_sub [2, 3, 4, 5, 6, 7] rfl (vb_law_1797 C hX hbl hbA hcz hsz hstk hL28 _ _ _ _ _ h))
      · have h := h.2 hc_10
        refine zm_iconst (v := 0) C dL_law_1795 (by decide) ?_
        exact h.elim
  · have h := h.2 hc_8
    refine zm_iconst (v := 0) C dL_law_1778 (by decide) ?_
    exact h.elim
def wb_law_1855 (xs : Nat → Int32) (L : Nat) (L28 : Int32 → MU → MU → (Nat → Int64) → (Nat → UInt64) → Prop) (x5 : Int32) (u v : MU) (o : Nat → Int64) (dd : Nat → UInt64) : Prop := wb_law_2328 xs L L28 x5 u v o dd
set_option maxHeartbeats 4000000 in
set_option maxRecDepth 100000 in
theorem vb_law_1855 {p : Program} {l : Launch} {e : Env} {s : State} {m : MethodId} {args : Array Value} {below : List Frame} {meth : Method} {c : Code} {g : GE} {Qz : State → Prop} {b L : Nat} {xs : Nat → Int32} (C : zCx p l s m args meth c g RL cL_law 9) (hX : va_X b L xs s s.heap) (hbl : b < s.heap.size) (hbA : ¬ zA g b) {cz sz : Nat} (hcz : cz + 2 ≤ 603072) (hsz : sz + 12 ≤ 7207018) (hstk : l.stackTraces = false) {L28 : Int32 → MU → MU → (Nat → Int64) → (Nat → UInt64) → Prop} (hL28 : ∀ (x5 : Int32) (u v : MU) (o : Nat → Int64) (dd : Nat → UInt64), L28 x5 u v o dd → WM p l e room_1 s m args below meth c g 9 (cz + 2) (sz + 12) Qz 28 [(0, .ref b), (1, .ref (g.2.2.1 0)), (2, .ref (g.2.2.1 117)), (3, .ref (g.2.2.1 131)), (4, .ref (g.2.2.1 132)), (5, .int x5)] [] (u, v, o, dd)) (x5 : Int32) (u v : MU) (o : Nat → Int64) (dd : Nat → UInt64) (h : wb_law_1855 xs L L28 x5 u v o dd) : WM p l e room_1 s m args below meth c g 9 (cz + 1) (sz + 6) Qz 1855 [(0, .ref b), (1, .ref (g.2.2.1 0)), (2, .ref (g.2.2.1 117)), (3, .ref (g.2.2.1 131)), (4, .ref (g.2.2.1 132)), (5, .int x5)] [] (u, v, o, dd) := by
  unfold wb_law_1855 at h
  refine zm_goto (tgt := 2328) C dL_law_1855 (by decide) ?_
  exact zm_widen (by omega) (by omega) (zm_sub [0, 1, 2, 3, 4, 5] rfl (vb_law_2328 C hX hbl hbA hcz hsz hstk hL28 _ _ _ _ _ h))
def wb_law_1800 (xs : Nat → Int32) (L : Nat) (L28 : Int32 → MU → MU → (Nat → Int64) → (Nat → UInt64) → Prop) (x5 : Int32) (u v : MU) (o : Nat → Int64) (dd : Nat → UInt64) : Prop := vp_in (x5 + (1 : Int32)) L ∧ (w_L_append (((xs ((x5 + (1 : Int32))).toNatClampNeg).toUInt32 % 65536).toInt32) u o (fun r_2 u_3 o_4 => vp_in (x5 + (1 : Int32)) L ∧ (w_X10_append (((xs ((x5 + (1 : Int32))).toNatClampNeg).toUInt32 % 65536).toInt32) v (fun r_6 u_7 => w_X10_thrown u_7  (fun r_8 => ((r_8 = r_2) → ((¬ r_2 = 0) → wb_law_1855 xs L L28 x5 u_3 u_7 o_4 dd) ∧ ((r_2 = 0) → (((lg_cmp (o_4 ((0 : Int32)).toNatClampNeg) r_6.toInt64) = 0) → wb_law_1855 xs L L28 x5 u_3 u_7 o_4 dd) ∧ ((¬ (lg_cmp (o_4 ((0 : Int32)).toNatClampNeg) r_6.toInt64) = 0) → False))) ∧ ((¬ r_8 = r_2) → False))))))
set_option maxHeartbeats 4000000 in
set_option maxRecDepth 100000 in
theorem vb_law_1800 {p : Program} {l : Launch} {e : Env} {s : State} {m : MethodId} {args : Array Value} {below : List Frame} {meth : Method} {c : Code} {g : GE} {Qz : State → Prop} {b L : Nat} {xs : Nat → Int32} (C : zCx p l s m args meth c g RL cL_law 9) (hX : va_X b L xs s s.heap) (hbl : b < s.heap.size) (hbA : ¬ zA g b) {cz sz : Nat} (hcz : cz + 2 ≤ 603072) (hsz : sz + 12 ≤ 7207018) (hstk : l.stackTraces = false) {L28 : Int32 → MU → MU → (Nat → Int64) → (Nat → UInt64) → Prop} (hL28 : ∀ (x5 : Int32) (u v : MU) (o : Nat → Int64) (dd : Nat → UInt64), L28 x5 u v o dd → WM p l e room_1 s m args below meth c g 9 (cz + 2) (sz + 12) Qz 28 [(0, .ref b), (1, .ref (g.2.2.1 0)), (2, .ref (g.2.2.1 117)), (3, .ref (g.2.2.1 131)), (4, .ref (g.2.2.1 132)), (5, .int x5)] [] (u, v, o, dd)) (x5 : Int32) (u v : MU) (o : Nat → Int64) (dd : Nat → UInt64) (h : wb_law_1800 xs L L28 x5 u v o dd) : WM p l e room_1 s m args below meth c g 9 cz sz Qz 1800 [(0, .ref b), (1, .ref (g.2.2.1 0)), (2, .ref (g.2.2.1 117)), (3, .ref (g.2.2.1 131)), (4, .ref (g.2.2.1 132)), (5, .int x5)] [] (u, v, o, dd) := by
  unfold wb_law_1800 at h
  refine zm_aload_n C dL_law_1800 rfl 1 rfl ?_
  refine zm_aload_n C dL_law_1801 rfl 0 rfl ?_
  refine zm_iload C dL_law_1802 5 rfl ?_
  refine zm_iconst (v := 1) C dL_law_1804 (by decide) ?_
  refine zm_iadd C dL_law_1805 ?_
  obtain ⟨hg_1, h⟩ := h
  refine zm_sld C hX hbl hbA hg_1 dL_law_1806 ?_
  refine zm_i2c C dL_law_1807 ?_
  refine zm_aload_n C dL_law_1808 rfl 3 rfl ?_
  refine zm_ci (zr_SW (As := [.ref (g.2.2.1 0), .int ((xs ((x5 + (1 : Int32))).toNatClampNeg).toUInt32 % 65536).toInt32, .ref (g.2.2.1 131)]) (rest := []) C (c_L_append l hstk g u v o dd (((xs ((x5 + (1 : Int32))).toNatClampNeg).toUInt32 % 65536).toInt32) h) wd_949 wd_950 wd_0 wd_951 hz_L_append rfl rfl ⟨by decide, by decide⟩ ⟨(show cz + 1 ≤ 603072 by omega), (show sz + 6 ≤ 7207018 by omega)⟩ rfl rfl (Nat.le_of_ble_eq_true rfl) dL_law_1809) (fun r_2 M1 hq => ?_)
  obtain ⟨u_3, o_4, rfl, h⟩ := hq
  refine zm_istore (lv' := [(6, .int r_2), (0, .ref b), (1, .ref (g.2.2.1 0)), (2, .ref (g.2.2.1 117)), (3, .ref (g.2.2.1 131)), (4, .ref (g.2.2.1 132)), (5, .int x5)]) C dL_law_1812 (by decide) rfl ?_
  refine zm_aload_n C dL_law_1814 rfl 3 rfl ?_
  refine zm_aload_n C dL_law_1815 rfl 1 rfl ?_
  refine zm_iload C dL_law_1816 6 rfl ?_
  refine zm_iconst (v := 1) C dL_law_1818 (by decide) ?_
  refine zm_iadd C dL_law_1819 ?_
  obtain ⟨hg_5, h⟩ := h
  refine zm_sld C hX hbl hbA hg_5 dL_law_1820 ?_
  refine zm_i2c C dL_law_1821 ?_
  refine zm_ci (zr_V (As := [.int ((xs ((x5 + (1 : Int32))).toNatClampNeg).toUInt32 % 65536).toInt32]) (rest := []) C (c_X10_append l g u_3 v (o_4, dd) (((xs ((x5 + (1 : Int32))).toNatClampNeg).toUInt32 % 65536).toInt32) h) wd_1412 wd_1413 wd_1414 wd_11 wd_1415 hy_X10_append rfl rfl ⟨by decide, by decide⟩ ⟨(show (cz + 1) + 0 ≤ 603072 by omega), (show (sz + 6) + 0 ≤ 7207018 by omega)⟩ (ci := 10) (by decide) (zCell_k kd_117) rfl rfl rfl rfl (Nat.le_of_ble_eq_true rfl) dL_law_1822) (fun r_6 M1 hq => ?_)
  obtain ⟨u_7, rfl, h⟩ := hq
  refine zm_istore (lv' := [(7, .int r_6), (6, .int r_2), (0, .ref b), (1, .ref (g.2.2.1 0)), (2, .ref (g.2.2.1 117)), (3, .ref (g.2.2.1 131)), (4, .ref (g.2.2.1 132)), (5, .int x5)]) C dL_law_1825 (by decide) rfl ?_
  refine zm_aload_n C dL_law_1827 rfl 4 rfl ?_
  refine zm_ci (zr_V (As := []) (rest := []) C (c_X10_thrown l g u_3 u_7 (o_4, dd)  h) wd_1176 wd_1177 wd_1178 wd_11 wd_1179 hy_X10_thrown rfl rfl ⟨by decide, by decide⟩ ⟨(show (cz + 1) + 0 ≤ 603072 by omega), (show (sz + 6) + 0 ≤ 7207018 by omega)⟩ (ci := 10) (by decide) (zCell_k kd_117) rfl rfl rfl rfl (Nat.le_of_ble_eq_true rfl) dL_law_1828) (fun r_8 M1 hq => ?_)
  obtain ⟨rfl, h⟩ := hq
  refine zm_iload C dL_law_1831 1 rfl ?_
  refine zm_icmp_eq (tgt := 1838) C dL_law_1833 (by decide) (fun hc_10 => ?_) (fun hc_10 => ?_)
  · have h := h.1 hc_10
    refine zm_iload C dL_law_1838 1 rfl ?_
    refine zm_if_ne (tgt := 1855) C dL_law_1840 (by decide) (fun hc_11 => ?_) (fun hc_11 => ?_)
    · have h := h.1 hc_11
      exact (zm_sub [2, 3, 4, 5, 6, 7] rfl (vb_law_1855 C hX hbl hbA hcz hsz hstk hL28 _ _ _ _ _ h))
    · have h := h.2 hc_11
      refine zm_aload_n C dL_law_1843 rfl 5 rfl ?_
      refine zm_iconst (v := 0) C dL_law_1844 (by decide) ?_
      refine zm_ldL C zIn01 dL_law_1845 ?_
      refine zm_iload C dL_law_1846 0 rfl ?_
      refine zm_i2l C dL_law_1848 ?_
      refine zm_lcmp C dL_law_1849 ?_
      refine zm_if_eq (tgt := 1855) C dL_law_1850 (by decide) (fun hc_12 => ?_) (fun hc_12 => ?_)
      · have h := h.1 hc_12
        exact (zm_sub [2, 3, 4, 5, 6, 7] rfl (vb_law_1855 C hX hbl hbA hcz hsz hstk hL28 _ _ _ _ _ h))
      · have h := h.2 hc_12
        refine zm_iconst (v := 0) C dL_law_1853 (by decide) ?_
        exact h.elim
  · have h := h.2 hc_10
    refine zm_iconst (v := 0) C dL_law_1836 (by decide) ?_
    exact h.elim
def wb_law_1899 (xs : Nat → Int32) (L : Nat) (L28 : Int32 → MU → MU → (Nat → Int64) → (Nat → UInt64) → Prop) (x5 : Int32) (u v : MU) (o : Nat → Int64) (dd : Nat → UInt64) : Prop := wb_law_2328 xs L L28 x5 u v o dd
set_option maxHeartbeats 4000000 in
set_option maxRecDepth 100000 in
theorem vb_law_1899 {p : Program} {l : Launch} {e : Env} {s : State} {m : MethodId} {args : Array Value} {below : List Frame} {meth : Method} {c : Code} {g : GE} {Qz : State → Prop} {b L : Nat} {xs : Nat → Int32} (C : zCx p l s m args meth c g RL cL_law 9) (hX : va_X b L xs s s.heap) (hbl : b < s.heap.size) (hbA : ¬ zA g b) {cz sz : Nat} (hcz : cz + 2 ≤ 603072) (hsz : sz + 12 ≤ 7207018) (hstk : l.stackTraces = false) {L28 : Int32 → MU → MU → (Nat → Int64) → (Nat → UInt64) → Prop} (hL28 : ∀ (x5 : Int32) (u v : MU) (o : Nat → Int64) (dd : Nat → UInt64), L28 x5 u v o dd → WM p l e room_1 s m args below meth c g 9 (cz + 2) (sz + 12) Qz 28 [(0, .ref b), (1, .ref (g.2.2.1 0)), (2, .ref (g.2.2.1 117)), (3, .ref (g.2.2.1 131)), (4, .ref (g.2.2.1 132)), (5, .int x5)] [] (u, v, o, dd)) (x5 : Int32) (u v : MU) (o : Nat → Int64) (dd : Nat → UInt64) (h : wb_law_1899 xs L L28 x5 u v o dd) : WM p l e room_1 s m args below meth c g 9 (cz + 1) (sz + 6) Qz 1899 [(0, .ref b), (1, .ref (g.2.2.1 0)), (2, .ref (g.2.2.1 117)), (3, .ref (g.2.2.1 131)), (4, .ref (g.2.2.1 132)), (5, .int x5)] [] (u, v, o, dd) := by
  unfold wb_law_1899 at h
  refine zm_goto (tgt := 2328) C dL_law_1899 (by decide) ?_
  exact zm_widen (by omega) (by omega) (zm_sub [0, 1, 2, 3, 4, 5] rfl (vb_law_2328 C hX hbl hbA hcz hsz hstk hL28 _ _ _ _ _ h))
def wb_law_1858 (xs : Nat → Int32) (L : Nat) (L28 : Int32 → MU → MU → (Nat → Int64) → (Nat → UInt64) → Prop) (x5 : Int32) (u v : MU) (o : Nat → Int64) (dd : Nat → UInt64) : Prop := w_L_commands  u o (fun r_1 u_2 o_3 => w_X10_commands  v (fun r_4 u_5 => w_X10_thrown u_5  (fun r_6 => ((r_6 = r_1) → ((¬ r_1 = 0) → wb_law_1899 xs L L28 x5 u_2 u_5 o_3 dd) ∧ ((r_1 = 0) → (((lg_cmp (o_3 ((0 : Int32)).toNatClampNeg) r_4.toInt64) = 0) → wb_law_1899 xs L L28 x5 u_2 u_5 o_3 dd) ∧ ((¬ (lg_cmp (o_3 ((0 : Int32)).toNatClampNeg) r_4.toInt64) = 0) → False))) ∧ ((¬ r_6 = r_1) → False))))
set_option maxHeartbeats 4000000 in
set_option maxRecDepth 100000 in
theorem vb_law_1858 {p : Program} {l : Launch} {e : Env} {s : State} {m : MethodId} {args : Array Value} {below : List Frame} {meth : Method} {c : Code} {g : GE} {Qz : State → Prop} {b L : Nat} {xs : Nat → Int32} (C : zCx p l s m args meth c g RL cL_law 9) (hX : va_X b L xs s s.heap) (hbl : b < s.heap.size) (hbA : ¬ zA g b) {cz sz : Nat} (hcz : cz + 2 ≤ 603072) (hsz : sz + 12 ≤ 7207018) (hstk : l.stackTraces = false) {L28 : Int32 → MU → MU → (Nat → Int64) → (Nat → UInt64) → Prop} (hL28 : ∀ (x5 : Int32) (u v : MU) (o : Nat → Int64) (dd : Nat → UInt64), L28 x5 u v o dd → WM p l e room_1 s m args below meth c g 9 (cz + 2) (sz + 12) Qz 28 [(0, .ref b), (1, .ref (g.2.2.1 0)), (2, .ref (g.2.2.1 117)), (3, .ref (g.2.2.1 131)), (4, .ref (g.2.2.1 132)), (5, .int x5)] [] (u, v, o, dd)) (x5 : Int32) (u v : MU) (o : Nat → Int64) (dd : Nat → UInt64) (h : wb_law_1858 xs L L28 x5 u v o dd) : WM p l e room_1 s m args below meth c g 9 cz sz Qz 1858 [(0, .ref b), (1, .ref (g.2.2.1 0)), (2, .ref (g.2.2.1 117)), (3, .ref (g.2.2.1 131)), (4, .ref (g.2.2.1 132)), (5, .int x5)] [] (u, v, o, dd) := by
  unfold wb_law_1858 at h
  refine zm_aload_n C dL_law_1858 rfl 1 rfl ?_
  refine zm_aload_n C dL_law_1859 rfl 3 rfl ?_
  refine zm_ci (zr_SW (As := [.ref (g.2.2.1 0), .ref (g.2.2.1 131)]) (rest := []) C (c_L_commands l hstk g u v o dd  h) wd_973 wd_974 wd_0 wd_975 hz_L_commands rfl rfl ⟨by decide, by decide⟩ ⟨(show cz + 1 ≤ 603072 by omega), (show sz + 6 ≤ 7207018 by omega)⟩ rfl rfl (Nat.le_of_ble_eq_true rfl) dL_law_1860) (fun r_1 M1 hq => ?_)
  obtain ⟨u_2, o_3, rfl, h⟩ := hq
  refine zm_istore (lv' := [(6, .int r_1), (0, .ref b), (1, .ref (g.2.2.1 0)), (2, .ref (g.2.2.1 117)), (3, .ref (g.2.2.1 131)), (4, .ref (g.2.2.1 132)), (5, .int x5)]) C dL_law_1863 (by decide) rfl ?_
  refine zm_aload_n C dL_law_1865 rfl 3 rfl ?_
  refine zm_ci (zr_V (As := []) (rest := []) C (c_X10_commands l g u_2 v (o_3, dd)  h) wd_1416 wd_1417 wd_1418 wd_11 wd_1419 hy_X10_commands rfl rfl ⟨by decide, by decide⟩ ⟨(show (cz + 1) + 0 ≤ 603072 by omega), (show (sz + 6) + 0 ≤ 7207018 by omega)⟩ (ci := 10) (by decide) (zCell_k kd_117) rfl rfl rfl rfl (Nat.le_of_ble_eq_true rfl) dL_law_1866) (fun r_4 M1 hq => ?_)
  obtain ⟨u_5, rfl, h⟩ := hq
  refine zm_istore (lv' := [(7, .int r_4), (6, .int r_1), (0, .ref b), (1, .ref (g.2.2.1 0)), (2, .ref (g.2.2.1 117)), (3, .ref (g.2.2.1 131)), (4, .ref (g.2.2.1 132)), (5, .int x5)]) C dL_law_1869 (by decide) rfl ?_
  refine zm_aload_n C dL_law_1871 rfl 4 rfl ?_
  refine zm_ci (zr_V (As := []) (rest := []) C (c_X10_thrown l g u_2 u_5 (o_3, dd)  h) wd_1176 wd_1177 wd_1178 wd_11 wd_1179 hy_X10_thrown rfl rfl ⟨by decide, by decide⟩ ⟨(show (cz + 1) + 0 ≤ 603072 by omega), (show (sz + 6) + 0 ≤ 7207018 by omega)⟩ (ci := 10) (by decide) (zCell_k kd_117) rfl rfl rfl rfl (Nat.le_of_ble_eq_true rfl) dL_law_1872) (fun r_6 M1 hq => ?_)
  obtain ⟨rfl, h⟩ := hq
  refine zm_iload C dL_law_1875 1 rfl ?_
  refine zm_icmp_eq (tgt := 1882) C dL_law_1877 (by decide) (fun hc_8 => ?_) (fun hc_8 => ?_)
  · have h := h.1 hc_8
    refine zm_iload C dL_law_1882 1 rfl ?_
    refine zm_if_ne (tgt := 1899) C dL_law_1884 (by decide) (fun hc_9 => ?_) (fun hc_9 => ?_)
    · have h := h.1 hc_9
      exact (zm_sub [2, 3, 4, 5, 6, 7] rfl (vb_law_1899 C hX hbl hbA hcz hsz hstk hL28 _ _ _ _ _ h))
    · have h := h.2 hc_9
      refine zm_aload_n C dL_law_1887 rfl 5 rfl ?_
      refine zm_iconst (v := 0) C dL_law_1888 (by decide) ?_
      refine zm_ldL C zIn01 dL_law_1889 ?_
      refine zm_iload C dL_law_1890 0 rfl ?_
      refine zm_i2l C dL_law_1892 ?_
      refine zm_lcmp C dL_law_1893 ?_
      refine zm_if_eq (tgt := 1899) C dL_law_1894 (by decide) (fun hc_10 => ?_) (fun hc_10 => ?_)
      · have h := h.1 hc_10
        exact (zm_sub [2, 3, 4, 5, 6, 7] rfl (vb_law_1899 C hX hbl hbA hcz hsz hstk hL28 _ _ _ _ _ h))
      · have h := h.2 hc_10
        refine zm_iconst (v := 0) C dL_law_1897 (by decide) ?_
        exact h.elim
  · have h := h.2 hc_8
    refine zm_iconst (v := 0) C dL_law_1880 (by decide) ?_
    exact h.elim
def wb_law_1902 (xs : Nat → Int32) (L : Nat) (L28 : Int32 → MU → MU → (Nat → Int64) → (Nat → UInt64) → Prop) (x5 : Int32) (u v : MU) (o : Nat → Int64) (dd : Nat → UInt64) : Prop := w_X9_faultPosition u  (fun r_1 => w_X10_faultPosition  v (fun r_3 u_4 => ((r_1 = r_3) → wb_law_2328 xs L L28 x5 u u_4 o dd) ∧ ((¬ r_1 = r_3) → False)))
set_option maxHeartbeats 4000000 in
set_option maxRecDepth 100000 in
theorem vb_law_1902 {p : Program} {l : Launch} {e : Env} {s : State} {m : MethodId} {args : Array Value} {below : List Frame} {meth : Method} {c : Code} {g : GE} {Qz : State → Prop} {b L : Nat} {xs : Nat → Int32} (C : zCx p l s m args meth c g RL cL_law 9) (hX : va_X b L xs s s.heap) (hbl : b < s.heap.size) (hbA : ¬ zA g b) {cz sz : Nat} (hcz : cz + 2 ≤ 603072) (hsz : sz + 12 ≤ 7207018) (hstk : l.stackTraces = false) {L28 : Int32 → MU → MU → (Nat → Int64) → (Nat → UInt64) → Prop} (hL28 : ∀ (x5 : Int32) (u v : MU) (o : Nat → Int64) (dd : Nat → UInt64), L28 x5 u v o dd → WM p l e room_1 s m args below meth c g 9 (cz + 2) (sz + 12) Qz 28 [(0, .ref b), (1, .ref (g.2.2.1 0)), (2, .ref (g.2.2.1 117)), (3, .ref (g.2.2.1 131)), (4, .ref (g.2.2.1 132)), (5, .int x5)] [] (u, v, o, dd)) (x5 : Int32) (u v : MU) (o : Nat → Int64) (dd : Nat → UInt64) (h : wb_law_1902 xs L L28 x5 u v o dd) : WM p l e room_1 s m args below meth c g 9 cz sz Qz 1902 [(0, .ref b), (1, .ref (g.2.2.1 0)), (2, .ref (g.2.2.1 117)), (3, .ref (g.2.2.1 131)), (4, .ref (g.2.2.1 132)), (5, .int x5)] [] (u, v, o, dd) := by
  unfold wb_law_1902 at h
  refine zm_aload_n C dL_law_1902 rfl 1 rfl ?_
  refine zm_ci (zr_V (As := []) (rest := []) C (c_X9_faultPosition l g u (v, o, dd)  h) wd_293 wd_294 wd_295 wd_1 wd_296 hy_X9_faultPosition rfl rfl ⟨by decide, by decide⟩ ⟨(show cz + 0 ≤ 603072 by omega), (show sz + 0 ≤ 7207018 by omega)⟩ (ci := 9) (by decide) (zCell_k kd_0) rfl rfl rfl rfl (Nat.le_of_ble_eq_true rfl) dL_law_1903) (fun r_1 M1 hq => ?_)
  obtain ⟨rfl, h⟩ := hq
  refine zm_aload_n C dL_law_1906 rfl 2 rfl ?_
  refine zm_ci (zr_V (As := []) (rest := [.int r_1]) C (c_X10_faultPosition l g u v (o, dd)  h) wd_1436 wd_1437 wd_1438 wd_11 wd_1439 hy_X10_faultPosition rfl rfl ⟨by decide, by decide⟩ ⟨(show cz + 0 ≤ 603072 by omega), (show sz + 0 ≤ 7207018 by omega)⟩ (ci := 10) (by decide) (zCell_k kd_117) rfl rfl rfl rfl (Nat.le_of_ble_eq_true rfl) dL_law_1907) (fun r_3 M1 hq => ?_)
  obtain ⟨u_4, rfl, h⟩ := hq
  refine zm_icmp_eq (tgt := 2328) C dL_law_1910 (by decide) (fun hc_5 => ?_) (fun hc_5 => ?_)
  · have h := h.1 hc_5
    exact zm_widen (by omega) (by omega) (zm_sub [0, 1, 2, 3, 4, 5] rfl (vb_law_2328 C hX hbl hbA hcz hsz hstk hL28 _ _ _ _ _ h))
  · have h := h.2 hc_5
    refine zm_iconst (v := 0) C dL_law_1913 (by decide) ?_
    exact h.elim
def wb_law_1968 (xs : Nat → Int32) (L : Nat) (L28 : Int32 → MU → MU → (Nat → Int64) → (Nat → UInt64) → Prop) (x5 : Int32) (u v : MU) (o : Nat → Int64) (dd : Nat → UInt64) : Prop := wb_law_2328 xs L L28 x5 u v o dd
set_option maxHeartbeats 4000000 in
set_option maxRecDepth 100000 in
theorem vb_law_1968 {p : Program} {l : Launch} {e : Env} {s : State} {m : MethodId} {args : Array Value} {below : List Frame} {meth : Method} {c : Code} {g : GE} {Qz : State → Prop} {b L : Nat} {xs : Nat → Int32} (C : zCx p l s m args meth c g RL cL_law 9) (hX : va_X b L xs s s.heap) (hbl : b < s.heap.size) (hbA : ¬ zA g b) {cz sz : Nat} (hcz : cz + 2 ≤ 603072) (hsz : sz + 12 ≤ 7207018) (hstk : l.stackTraces = false) {L28 : Int32 → MU → MU → (Nat → Int64) → (Nat → UInt64) → Prop} (hL28 : ∀ (x5 : Int32) (u v : MU) (o : Nat → Int64) (dd : Nat → UInt64), L28 x5 u v o dd → WM p l e room_1 s m args below meth c g 9 (cz + 2) (sz + 12) Qz 28 [(0, .ref b), (1, .ref (g.2.2.1 0)), (2, .ref (g.2.2.1 117)), (3, .ref (g.2.2.1 131)), (4, .ref (g.2.2.1 132)), (5, .int x5)] [] (u, v, o, dd)) (x5 : Int32) (u v : MU) (o : Nat → Int64) (dd : Nat → UInt64) (h : wb_law_1968 xs L L28 x5 u v o dd) : WM p l e room_1 s m args below meth c g 9 (cz + 1) (sz + 6) Qz 1968 [(0, .ref b), (1, .ref (g.2.2.1 0)), (2, .ref (g.2.2.1 117)), (3, .ref (g.2.2.1 131)), (4, .ref (g.2.2.1 132)), (5, .int x5)] [] (u, v, o, dd) := by
  unfold wb_law_1968 at h
  refine zm_goto (tgt := 2328) C dL_law_1968 (by decide) ?_
  exact zm_widen (by omega) (by omega) (zm_sub [0, 1, 2, 3, 4, 5] rfl (vb_law_2328 C hX hbl hbA hcz hsz hstk hL28 _ _ _ _ _ h))
def wb_law_1915 (xs : Nat → Int32) (L : Nat) (L28 : Int32 → MU → MU → (Nat → Int64) → (Nat → UInt64) → Prop) (x5 : Int32) (u v : MU) (o : Nat → Int64) (dd : Nat → UInt64) : Prop := vp_in (x5 + (1 : Int32)) L ∧ (w_L_reason (xs ((x5 + (1 : Int32))).toNatClampNeg) u o (fun r_2 u_3 o_4 => vp_in (x5 + (1 : Int32)) L ∧ (w_X10_reason (xs ((x5 + (1 : Int32))).toNatClampNeg) v (fun r_6 u_7 => w_X10_thrown u_7  (fun r_8 => ((r_8 = r_2) → ((¬ r_2 = 0) → wb_law_1968 xs L L28 x5 u_3 u_7 o_4 dd) ∧ ((r_2 = 0) → (((lg_cmp (o_4 ((0 : Int32)).toNatClampNeg) r_6.toInt64) = 0) → wb_law_1968 xs L L28 x5 u_3 u_7 o_4 dd) ∧ ((¬ (lg_cmp (o_4 ((0 : Int32)).toNatClampNeg) r_6.toInt64) = 0) → False))) ∧ ((¬ r_8 = r_2) → False))))))
set_option maxHeartbeats 4000000 in
set_option maxRecDepth 100000 in
theorem vb_law_1915 {p : Program} {l : Launch} {e : Env} {s : State} {m : MethodId} {args : Array Value} {below : List Frame} {meth : Method} {c : Code} {g : GE} {Qz : State → Prop} {b L : Nat} {xs : Nat → Int32} (C : zCx p l s m args meth c g RL cL_law 9) (hX : va_X b L xs s s.heap) (hbl : b < s.heap.size) (hbA : ¬ zA g b) {cz sz : Nat} (hcz : cz + 2 ≤ 603072) (hsz : sz + 12 ≤ 7207018) (hstk : l.stackTraces = false) {L28 : Int32 → MU → MU → (Nat → Int64) → (Nat → UInt64) → Prop} (hL28 : ∀ (x5 : Int32) (u v : MU) (o : Nat → Int64) (dd : Nat → UInt64), L28 x5 u v o dd → WM p l e room_1 s m args below meth c g 9 (cz + 2) (sz + 12) Qz 28 [(0, .ref b), (1, .ref (g.2.2.1 0)), (2, .ref (g.2.2.1 117)), (3, .ref (g.2.2.1 131)), (4, .ref (g.2.2.1 132)), (5, .int x5)] [] (u, v, o, dd)) (x5 : Int32) (u v : MU) (o : Nat → Int64) (dd : Nat → UInt64) (h : wb_law_1915 xs L L28 x5 u v o dd) : WM p l e room_1 s m args below meth c g 9 cz sz Qz 1915 [(0, .ref b), (1, .ref (g.2.2.1 0)), (2, .ref (g.2.2.1 117)), (3, .ref (g.2.2.1 131)), (4, .ref (g.2.2.1 132)), (5, .int x5)] [] (u, v, o, dd) := by
  unfold wb_law_1915 at h
  refine zm_aload_n C dL_law_1915 rfl 1 rfl ?_
  refine zm_aload_n C dL_law_1916 rfl 0 rfl ?_
  refine zm_iload C dL_law_1917 5 rfl ?_
  refine zm_iconst (v := 1) C dL_law_1919 (by decide) ?_
  refine zm_iadd C dL_law_1920 ?_
  obtain ⟨hg_1, h⟩ := h
  refine zm_sld C hX hbl hbA hg_1 dL_law_1921 ?_
  refine zm_aload_n C dL_law_1922 rfl 3 rfl ?_
  refine zm_ci (zr_SW (As := [.ref (g.2.2.1 0), .int (xs ((x5 + (1 : Int32))).toNatClampNeg), .ref (g.2.2.1 131)]) (rest := []) C (c_L_reason l hstk g u v o dd (xs ((x5 + (1 : Int32))).toNatClampNeg) h) wd_1009 wd_1010 wd_0 wd_1011 hz_L_reason rfl rfl ⟨by decide, by decide⟩ ⟨(show cz + 1 ≤ 603072 by omega), (show sz + 6 ≤ 7207018 by omega)⟩ rfl rfl (Nat.le_of_ble_eq_true rfl) dL_law_1923) (fun r_2 M1 hq => ?_)
  obtain ⟨u_3, o_4, rfl, h⟩ := hq
  refine zm_istore (lv' := [(6, .int r_2), (0, .ref b), (1, .ref (g.2.2.1 0)), (2, .ref (g.2.2.1 117)), (3, .ref (g.2.2.1 131)), (4, .ref (g.2.2.1 132)), (5, .int x5)]) C dL_law_1926 (by decide) rfl ?_
  refine zm_aload_n C dL_law_1928 rfl 3 rfl ?_
  refine zm_aload_n C dL_law_1929 rfl 1 rfl ?_
  refine zm_iload C dL_law_1930 6 rfl ?_
  refine zm_iconst (v := 1) C dL_law_1932 (by decide) ?_
  refine zm_iadd C dL_law_1933 ?_
  obtain ⟨hg_5, h⟩ := h
  refine zm_sld C hX hbl hbA hg_5 dL_law_1934 ?_
  refine zm_ci (zr_V (As := [.int (xs ((x5 + (1 : Int32))).toNatClampNeg)]) (rest := []) C (c_X10_reason l g u_3 v (o_4, dd) (xs ((x5 + (1 : Int32))).toNatClampNeg) h) wd_1440 wd_1441 wd_1442 wd_11 wd_1443 hy_X10_reason rfl rfl ⟨by decide, by decide⟩ ⟨(show (cz + 1) + 0 ≤ 603072 by omega), (show (sz + 6) + 0 ≤ 7207018 by omega)⟩ (ci := 10) (by decide) (zCell_k kd_117) rfl rfl rfl rfl (Nat.le_of_ble_eq_true rfl) dL_law_1935) (fun r_6 M1 hq => ?_)
  obtain ⟨u_7, rfl, h⟩ := hq
  refine zm_istore (lv' := [(7, .int r_6), (6, .int r_2), (0, .ref b), (1, .ref (g.2.2.1 0)), (2, .ref (g.2.2.1 117)), (3, .ref (g.2.2.1 131)), (4, .ref (g.2.2.1 132)), (5, .int x5)]) C dL_law_1938 (by decide) rfl ?_
  refine zm_aload_n C dL_law_1940 rfl 4 rfl ?_
  refine zm_ci (zr_V (As := []) (rest := []) C (c_X10_thrown l g u_3 u_7 (o_4, dd)  h) wd_1176 wd_1177 wd_1178 wd_11 wd_1179 hy_X10_thrown rfl rfl ⟨by decide, by decide⟩ ⟨(show (cz + 1) + 0 ≤ 603072 by omega), (show (sz + 6) + 0 ≤ 7207018 by omega)⟩ (ci := 10) (by decide) (zCell_k kd_117) rfl rfl rfl rfl (Nat.le_of_ble_eq_true rfl) dL_law_1941) (fun r_8 M1 hq => ?_)
  obtain ⟨rfl, h⟩ := hq
  refine zm_iload C dL_law_1944 1 rfl ?_
  refine zm_icmp_eq (tgt := 1951) C dL_law_1946 (by decide) (fun hc_10 => ?_) (fun hc_10 => ?_)
  · have h := h.1 hc_10
    refine zm_iload C dL_law_1951 1 rfl ?_
    refine zm_if_ne (tgt := 1968) C dL_law_1953 (by decide) (fun hc_11 => ?_) (fun hc_11 => ?_)
    · have h := h.1 hc_11
      exact (zm_sub [2, 3, 4, 5, 6, 7] rfl (vb_law_1968 C hX hbl hbA hcz hsz hstk hL28 _ _ _ _ _ h))
    · have h := h.2 hc_11
      refine zm_aload_n C dL_law_1956 rfl 5 rfl ?_
      refine zm_iconst (v := 0) C dL_law_1957 (by decide) ?_
      refine zm_ldL C zIn01 dL_law_1958 ?_
      refine zm_iload C dL_law_1959 0 rfl ?_
      refine zm_i2l C dL_law_1961 ?_
      refine zm_lcmp C dL_law_1962 ?_
      refine zm_if_eq (tgt := 1968) C dL_law_1963 (by decide) (fun hc_12 => ?_) (fun hc_12 => ?_)
      · have h := h.1 hc_12
        exact (zm_sub [2, 3, 4, 5, 6, 7] rfl (vb_law_1968 C hX hbl hbA hcz hsz hstk hL28 _ _ _ _ _ h))
      · have h := h.2 hc_12
        refine zm_iconst (v := 0) C dL_law_1966 (by decide) ?_
        exact h.elim
  · have h := h.2 hc_10
    refine zm_iconst (v := 0) C dL_law_1949 (by decide) ?_
    exact h.elim
def wb_law_1971 (xs : Nat → Int32) (L : Nat) (L28 : Int32 → MU → MU → (Nat → Int64) → (Nat → UInt64) → Prop) (x5 : Int32) (u v : MU) (o : Nat → Int64) (dd : Nat → UInt64) : Prop := w_X9_line  u (fun r_1 u_2 => w_X10_line  v (fun r_3 u_4 => ((r_1 = r_3) → wb_law_2328 xs L L28 x5 u_2 u_4 o dd) ∧ ((¬ r_1 = r_3) → False)))
set_option maxHeartbeats 4000000 in
set_option maxRecDepth 100000 in
theorem vb_law_1971 {p : Program} {l : Launch} {e : Env} {s : State} {m : MethodId} {args : Array Value} {below : List Frame} {meth : Method} {c : Code} {g : GE} {Qz : State → Prop} {b L : Nat} {xs : Nat → Int32} (C : zCx p l s m args meth c g RL cL_law 9) (hX : va_X b L xs s s.heap) (hbl : b < s.heap.size) (hbA : ¬ zA g b) {cz sz : Nat} (hcz : cz + 2 ≤ 603072) (hsz : sz + 12 ≤ 7207018) (hstk : l.stackTraces = false) {L28 : Int32 → MU → MU → (Nat → Int64) → (Nat → UInt64) → Prop} (hL28 : ∀ (x5 : Int32) (u v : MU) (o : Nat → Int64) (dd : Nat → UInt64), L28 x5 u v o dd → WM p l e room_1 s m args below meth c g 9 (cz + 2) (sz + 12) Qz 28 [(0, .ref b), (1, .ref (g.2.2.1 0)), (2, .ref (g.2.2.1 117)), (3, .ref (g.2.2.1 131)), (4, .ref (g.2.2.1 132)), (5, .int x5)] [] (u, v, o, dd)) (x5 : Int32) (u v : MU) (o : Nat → Int64) (dd : Nat → UInt64) (h : wb_law_1971 xs L L28 x5 u v o dd) : WM p l e room_1 s m args below meth c g 9 cz sz Qz 1971 [(0, .ref b), (1, .ref (g.2.2.1 0)), (2, .ref (g.2.2.1 117)), (3, .ref (g.2.2.1 131)), (4, .ref (g.2.2.1 132)), (5, .int x5)] [] (u, v, o, dd) := by
  unfold wb_law_1971 at h
  refine zm_aload_n C dL_law_1971 rfl 1 rfl ?_
  refine zm_ci (zr_V (As := []) (rest := []) C (c_X9_line l g u (v, o, dd)  h) wd_297 wd_298 wd_299 wd_1 wd_300 hy_X9_line rfl rfl ⟨by decide, by decide⟩ ⟨(show cz + 0 ≤ 603072 by omega), (show sz + 0 ≤ 7207018 by omega)⟩ (ci := 9) (by decide) (zCell_k kd_0) rfl rfl rfl rfl (Nat.le_of_ble_eq_true rfl) dL_law_1972) (fun r_1 M1 hq => ?_)
  obtain ⟨u_2, rfl, h⟩ := hq
  refine zm_aload_n C dL_law_1975 rfl 2 rfl ?_
  refine zm_ci (zr_V (As := []) (rest := [.int r_1]) C (c_X10_line l g u_2 v (o, dd)  h) wd_1444 wd_1445 wd_1446 wd_11 wd_1447 hy_X10_line rfl rfl ⟨by decide, by decide⟩ ⟨(show cz + 0 ≤ 603072 by omega), (show sz + 0 ≤ 7207018 by omega)⟩ (ci := 10) (by decide) (zCell_k kd_117) rfl rfl rfl rfl (Nat.le_of_ble_eq_true rfl) dL_law_1976) (fun r_3 M1 hq => ?_)
  obtain ⟨u_4, rfl, h⟩ := hq
  refine zm_icmp_eq (tgt := 2328) C dL_law_1979 (by decide) (fun hc_5 => ?_) (fun hc_5 => ?_)
  · have h := h.1 hc_5
    exact zm_widen (by omega) (by omega) (zm_sub [0, 1, 2, 3, 4, 5] rfl (vb_law_2328 C hX hbl hbA hcz hsz hstk hL28 _ _ _ _ _ h))
  · have h := h.2 hc_5
    refine zm_iconst (v := 0) C dL_law_1982 (by decide) ?_
    exact h.elim
def wb_law_2037 (xs : Nat → Int32) (L : Nat) (L28 : Int32 → MU → MU → (Nat → Int64) → (Nat → UInt64) → Prop) (x5 : Int32) (u v : MU) (o : Nat → Int64) (dd : Nat → UInt64) : Prop := wb_law_2328 xs L L28 x5 u v o dd
set_option maxHeartbeats 4000000 in
set_option maxRecDepth 100000 in
theorem vb_law_2037 {p : Program} {l : Launch} {e : Env} {s : State} {m : MethodId} {args : Array Value} {below : List Frame} {meth : Method} {c : Code} {g : GE} {Qz : State → Prop} {b L : Nat} {xs : Nat → Int32} (C : zCx p l s m args meth c g RL cL_law 9) (hX : va_X b L xs s s.heap) (hbl : b < s.heap.size) (hbA : ¬ zA g b) {cz sz : Nat} (hcz : cz + 2 ≤ 603072) (hsz : sz + 12 ≤ 7207018) (hstk : l.stackTraces = false) {L28 : Int32 → MU → MU → (Nat → Int64) → (Nat → UInt64) → Prop} (hL28 : ∀ (x5 : Int32) (u v : MU) (o : Nat → Int64) (dd : Nat → UInt64), L28 x5 u v o dd → WM p l e room_1 s m args below meth c g 9 (cz + 2) (sz + 12) Qz 28 [(0, .ref b), (1, .ref (g.2.2.1 0)), (2, .ref (g.2.2.1 117)), (3, .ref (g.2.2.1 131)), (4, .ref (g.2.2.1 132)), (5, .int x5)] [] (u, v, o, dd)) (x5 : Int32) (u v : MU) (o : Nat → Int64) (dd : Nat → UInt64) (h : wb_law_2037 xs L L28 x5 u v o dd) : WM p l e room_1 s m args below meth c g 9 (cz + 1) (sz + 6) Qz 2037 [(0, .ref b), (1, .ref (g.2.2.1 0)), (2, .ref (g.2.2.1 117)), (3, .ref (g.2.2.1 131)), (4, .ref (g.2.2.1 132)), (5, .int x5)] [] (u, v, o, dd) := by
  unfold wb_law_2037 at h
  refine zm_goto (tgt := 2328) C dL_law_2037 (by decide) ?_
  exact zm_widen (by omega) (by omega) (zm_sub [0, 1, 2, 3, 4, 5] rfl (vb_law_2328 C hX hbl hbA hcz hsz hstk hL28 _ _ _ _ _ h))
def wb_law_1984 (xs : Nat → Int32) (L : Nat) (L28 : Int32 → MU → MU → (Nat → Int64) → (Nat → UInt64) → Prop) (x5 : Int32) (u v : MU) (o : Nat → Int64) (dd : Nat → UInt64) : Prop := vp_in (x5 + (1 : Int32)) L ∧ (w_L_character (xs ((x5 + (1 : Int32))).toNatClampNeg) u o (fun r_2 u_3 o_4 => vp_in (x5 + (1 : Int32)) L ∧ (w_X10_character (xs ((x5 + (1 : Int32))).toNatClampNeg) v (fun r_6 u_7 => w_X10_thrown u_7  (fun r_8 => ((r_8 = r_2) → ((¬ r_2 = 0) → wb_law_2037 xs L L28 x5 u_3 u_7 o_4 dd) ∧ ((r_2 = 0) → (((lg_cmp (o_4 ((0 : Int32)).toNatClampNeg) r_6.toInt64) = 0) → wb_law_2037 xs L L28 x5 u_3 u_7 o_4 dd) ∧ ((¬ (lg_cmp (o_4 ((0 : Int32)).toNatClampNeg) r_6.toInt64) = 0) → False))) ∧ ((¬ r_8 = r_2) → False))))))
set_option maxHeartbeats 4000000 in
set_option maxRecDepth 100000 in
theorem vb_law_1984 {p : Program} {l : Launch} {e : Env} {s : State} {m : MethodId} {args : Array Value} {below : List Frame} {meth : Method} {c : Code} {g : GE} {Qz : State → Prop} {b L : Nat} {xs : Nat → Int32} (C : zCx p l s m args meth c g RL cL_law 9) (hX : va_X b L xs s s.heap) (hbl : b < s.heap.size) (hbA : ¬ zA g b) {cz sz : Nat} (hcz : cz + 2 ≤ 603072) (hsz : sz + 12 ≤ 7207018) (hstk : l.stackTraces = false) {L28 : Int32 → MU → MU → (Nat → Int64) → (Nat → UInt64) → Prop} (hL28 : ∀ (x5 : Int32) (u v : MU) (o : Nat → Int64) (dd : Nat → UInt64), L28 x5 u v o dd → WM p l e room_1 s m args below meth c g 9 (cz + 2) (sz + 12) Qz 28 [(0, .ref b), (1, .ref (g.2.2.1 0)), (2, .ref (g.2.2.1 117)), (3, .ref (g.2.2.1 131)), (4, .ref (g.2.2.1 132)), (5, .int x5)] [] (u, v, o, dd)) (x5 : Int32) (u v : MU) (o : Nat → Int64) (dd : Nat → UInt64) (h : wb_law_1984 xs L L28 x5 u v o dd) : WM p l e room_1 s m args below meth c g 9 cz sz Qz 1984 [(0, .ref b), (1, .ref (g.2.2.1 0)), (2, .ref (g.2.2.1 117)), (3, .ref (g.2.2.1 131)), (4, .ref (g.2.2.1 132)), (5, .int x5)] [] (u, v, o, dd) := by
  unfold wb_law_1984 at h
  refine zm_aload_n C dL_law_1984 rfl 1 rfl ?_
  refine zm_aload_n C dL_law_1985 rfl 0 rfl ?_
  refine zm_iload C dL_law_1986 5 rfl ?_
  refine zm_iconst (v := 1) C dL_law_1988 (by decide) ?_
  refine zm_iadd C dL_law_1989 ?_
  obtain ⟨hg_1, h⟩ := h
  refine zm_sld C hX hbl hbA hg_1 dL_law_1990 ?_
  refine zm_aload_n C dL_law_1991 rfl 3 rfl ?_
  refine zm_ci (zr_SW (As := [.ref (g.2.2.1 0), .int (xs ((x5 + (1 : Int32))).toNatClampNeg), .ref (g.2.2.1 131)]) (rest := []) C (c_L_character l hstk g u v o dd (xs ((x5 + (1 : Int32))).toNatClampNeg) h) wd_1018 wd_1019 wd_0 wd_1020 hz_L_character rfl rfl ⟨by decide, by decide⟩ ⟨(show cz + 1 ≤ 603072 by omega), (show sz + 6 ≤ 7207018 by omega)⟩ rfl rfl (Nat.le_of_ble_eq_true rfl) dL_law_1992) (fun r_2 M1 hq => ?_)
  obtain ⟨u_3, o_4, rfl, h⟩ := hq
  refine zm_istore (lv' := [(6, .int r_2), (0, .ref b), (1, .ref (g.2.2.1 0)), (2, .ref (g.2.2.1 117)), (3, .ref (g.2.2.1 131)), (4, .ref (g.2.2.1 132)), (5, .int x5)]) C dL_law_1995 (by decide) rfl ?_
  refine zm_aload_n C dL_law_1997 rfl 3 rfl ?_
  refine zm_aload_n C dL_law_1998 rfl 1 rfl ?_
  refine zm_iload C dL_law_1999 6 rfl ?_
  refine zm_iconst (v := 1) C dL_law_2001 (by decide) ?_
  refine zm_iadd C dL_law_2002 ?_
  obtain ⟨hg_5, h⟩ := h
  refine zm_sld C hX hbl hbA hg_5 dL_law_2003 ?_
  refine zm_ci (zr_V (As := [.int (xs ((x5 + (1 : Int32))).toNatClampNeg)]) (rest := []) C (c_X10_character l g u_3 v (o_4, dd) (xs ((x5 + (1 : Int32))).toNatClampNeg) h) wd_1448 wd_1449 wd_1450 wd_11 wd_1451 hy_X10_character rfl rfl ⟨by decide, by decide⟩ ⟨(show (cz + 1) + 0 ≤ 603072 by omega), (show (sz + 6) + 0 ≤ 7207018 by omega)⟩ (ci := 10) (by decide) (zCell_k kd_117) rfl rfl rfl rfl (Nat.le_of_ble_eq_true rfl) dL_law_2004) (fun r_6 M1 hq => ?_)
  obtain ⟨u_7, rfl, h⟩ := hq
  refine zm_istore (lv' := [(7, .int r_6), (6, .int r_2), (0, .ref b), (1, .ref (g.2.2.1 0)), (2, .ref (g.2.2.1 117)), (3, .ref (g.2.2.1 131)), (4, .ref (g.2.2.1 132)), (5, .int x5)]) C dL_law_2007 (by decide) rfl ?_
  refine zm_aload_n C dL_law_2009 rfl 4 rfl ?_
  refine zm_ci (zr_V (As := []) (rest := []) C (c_X10_thrown l g u_3 u_7 (o_4, dd)  h) wd_1176 wd_1177 wd_1178 wd_11 wd_1179 hy_X10_thrown rfl rfl ⟨by decide, by decide⟩ ⟨(show (cz + 1) + 0 ≤ 603072 by omega), (show (sz + 6) + 0 ≤ 7207018 by omega)⟩ (ci := 10) (by decide) (zCell_k kd_117) rfl rfl rfl rfl (Nat.le_of_ble_eq_true rfl) dL_law_2010) (fun r_8 M1 hq => ?_)
  obtain ⟨rfl, h⟩ := hq
  refine zm_iload C dL_law_2013 1 rfl ?_
  refine zm_icmp_eq (tgt := 2020) C dL_law_2015 (by decide) (fun hc_10 => ?_) (fun hc_10 => ?_)
  · have h := h.1 hc_10
    refine zm_iload C dL_law_2020 1 rfl ?_
    refine zm_if_ne (tgt := 2037) C dL_law_2022 (by decide) (fun hc_11 => ?_) (fun hc_11 => ?_)
    · have h := h.1 hc_11
      exact (zm_sub [2, 3, 4, 5, 6, 7] rfl (vb_law_2037 C hX hbl hbA hcz hsz hstk hL28 _ _ _ _ _ h))
    · have h := h.2 hc_11
      refine zm_aload_n C dL_law_2025 rfl 5 rfl ?_
      refine zm_iconst (v := 0) C dL_law_2026 (by decide) ?_
      refine zm_ldL C zIn01 dL_law_2027 ?_
      refine zm_iload C dL_law_2028 0 rfl ?_
      refine zm_i2l C dL_law_2030 ?_
      refine zm_lcmp C dL_law_2031 ?_
      refine zm_if_eq (tgt := 2037) C dL_law_2032 (by decide) (fun hc_12 => ?_) (fun hc_12 => ?_)
      · have h := h.1 hc_12
        exact (zm_sub [2, 3, 4, 5, 6, 7] rfl (vb_law_2037 C hX hbl hbA hcz hsz hstk hL28 _ _ _ _ _ h))
      · have h := h.2 hc_12
        refine zm_iconst (v := 0) C dL_law_2035 (by decide) ?_
        exact h.elim
  · have h := h.2 hc_10
    refine zm_iconst (v := 0) C dL_law_2018 (by decide) ?_
    exact h.elim
def wb_law_2102 (xs : Nat → Int32) (L : Nat) (L28 : Int32 → MU → MU → (Nat → Int64) → (Nat → UInt64) → Prop) (x5 : Int32) (u v : MU) (o : Nat → Int64) (dd : Nat → UInt64) : Prop := wb_law_2328 xs L L28 x5 u v o dd
set_option maxHeartbeats 4000000 in
set_option maxRecDepth 100000 in
theorem vb_law_2102 {p : Program} {l : Launch} {e : Env} {s : State} {m : MethodId} {args : Array Value} {below : List Frame} {meth : Method} {c : Code} {g : GE} {Qz : State → Prop} {b L : Nat} {xs : Nat → Int32} (C : zCx p l s m args meth c g RL cL_law 9) (hX : va_X b L xs s s.heap) (hbl : b < s.heap.size) (hbA : ¬ zA g b) {cz sz : Nat} (hcz : cz + 2 ≤ 603072) (hsz : sz + 12 ≤ 7207018) (hstk : l.stackTraces = false) {L28 : Int32 → MU → MU → (Nat → Int64) → (Nat → UInt64) → Prop} (hL28 : ∀ (x5 : Int32) (u v : MU) (o : Nat → Int64) (dd : Nat → UInt64), L28 x5 u v o dd → WM p l e room_1 s m args below meth c g 9 (cz + 2) (sz + 12) Qz 28 [(0, .ref b), (1, .ref (g.2.2.1 0)), (2, .ref (g.2.2.1 117)), (3, .ref (g.2.2.1 131)), (4, .ref (g.2.2.1 132)), (5, .int x5)] [] (u, v, o, dd)) (x5 : Int32) (u v : MU) (o : Nat → Int64) (dd : Nat → UInt64) (h : wb_law_2102 xs L L28 x5 u v o dd) : WM p l e room_1 s m args below meth c g 9 (cz + 1) (sz + 6) Qz 2102 [(0, .ref b), (1, .ref (g.2.2.1 0)), (2, .ref (g.2.2.1 117)), (3, .ref (g.2.2.1 131)), (4, .ref (g.2.2.1 132)), (5, .int x5)] [] (u, v, o, dd) := by
  unfold wb_law_2102 at h
  refine zm_goto (tgt := 2328) C dL_law_2102 (by decide) ?_
  exact zm_widen (by omega) (by omega) (zm_sub [0, 1, 2, 3, 4, 5] rfl (vb_law_2328 C hX hbl hbA hcz hsz hstk hL28 _ _ _ _ _ h))
def wb_law_2100 (xs : Nat → Int32) (L : Nat) (L28 : Int32 → MU → MU → (Nat → Int64) → (Nat → UInt64) → Prop) (x5 : Int32) (u v : MU) (o : Nat → Int64) (dd : Nat → UInt64) : Prop := False
set_option maxHeartbeats 4000000 in
set_option maxRecDepth 100000 in
theorem vb_law_2100 {p : Program} {l : Launch} {e : Env} {s : State} {m : MethodId} {args : Array Value} {below : List Frame} {meth : Method} {c : Code} {g : GE} {Qz : State → Prop} {b L : Nat} {xs : Nat → Int32} (C : zCx p l s m args meth c g RL cL_law 9) (hX : va_X b L xs s s.heap) (hbl : b < s.heap.size) (hbA : ¬ zA g b) {cz sz : Nat} (hcz : cz + 2 ≤ 603072) (hsz : sz + 12 ≤ 7207018) (hstk : l.stackTraces = false) {L28 : Int32 → MU → MU → (Nat → Int64) → (Nat → UInt64) → Prop} (hL28 : ∀ (x5 : Int32) (u v : MU) (o : Nat → Int64) (dd : Nat → UInt64), L28 x5 u v o dd → WM p l e room_1 s m args below meth c g 9 (cz + 2) (sz + 12) Qz 28 [(0, .ref b), (1, .ref (g.2.2.1 0)), (2, .ref (g.2.2.1 117)), (3, .ref (g.2.2.1 131)), (4, .ref (g.2.2.1 132)), (5, .int x5)] [] (u, v, o, dd)) (x5 : Int32) (u v : MU) (o : Nat → Int64) (dd : Nat → UInt64) (h : wb_law_2100 xs L L28 x5 u v o dd) : WM p l e room_1 s m args below meth c g 9 (cz + 1) (sz + 6) Qz 2100 [(0, .ref b), (1, .ref (g.2.2.1 0)), (2, .ref (g.2.2.1 117)), (3, .ref (g.2.2.1 131)), (4, .ref (g.2.2.1 132)), (5, .int x5)] [] (u, v, o, dd) := by
  unfold wb_law_2100 at h
  refine zm_iconst (v := 0) C dL_law_2100 (by decide) ?_
  exact h.elim
def wb_law_2040 (xs : Nat → Int32) (L : Nat) (L28 : Int32 → MU → MU → (Nat → Int64) → (Nat → UInt64) → Prop) (x5 : Int32) (u v : MU) (o : Nat → Int64) (dd : Nat → UInt64) : Prop := w_L_meanMoves  u dd (fun r_1 u_2 o_3 => w_X10_meanMoves  v (fun r_4 u_5 => w_X10_thrown u_5  (fun r_6 => ((r_6 = r_1) → ((¬ r_1 = 0) → wb_law_2102 xs L L28 x5 u_2 u_5 o o_3) ∧ ((r_1 = 0) → (((Op.cmpValue (FP.dcmp (o_3 ((0 : Int32)).toNatClampNeg) r_4) .l) = 0) → wb_law_2102 xs L L28 x5 u_2 u_5 o o_3) ∧ ((¬ (Op.cmpValue (FP.dcmp (o_3 ((0 : Int32)).toNatClampNeg) r_4) .l) = 0) → (((Op.cmpValue (FP.dcmp (o_3 ((0 : Int32)).toNatClampNeg) (o_3 ((0 : Int32)).toNatClampNeg)) .l) = 0) → wb_law_2100 xs L L28 x5 u_2 u_5 o o_3) ∧ ((¬ (Op.cmpValue (FP.dcmp (o_3 ((0 : Int32)).toNatClampNeg) (o_3 ((0 : Int32)).toNatClampNeg)) .l) = 0) → ((¬ (Op.cmpValue (FP.dcmp r_4 r_4) .l) = 0) → wb_law_2102 xs L L28 x5 u_2 u_5 o o_3) ∧ (((Op.cmpValue (FP.dcmp r_4 r_4) .l) = 0) → wb_law_2100 xs L L28 x5 u_2 u_5 o o_3))))) ∧ ((¬ r_6 = r_1) → False))))
set_option maxHeartbeats 4000000 in
set_option maxRecDepth 100000 in
theorem vb_law_2040 {p : Program} {l : Launch} {e : Env} {s : State} {m : MethodId} {args : Array Value} {below : List Frame} {meth : Method} {c : Code} {g : GE} {Qz : State → Prop} {b L : Nat} {xs : Nat → Int32} (C : zCx p l s m args meth c g RL cL_law 9) (hX : va_X b L xs s s.heap) (hbl : b < s.heap.size) (hbA : ¬ zA g b) {cz sz : Nat} (hcz : cz + 2 ≤ 603072) (hsz : sz + 12 ≤ 7207018) (hstk : l.stackTraces = false) {L28 : Int32 → MU → MU → (Nat → Int64) → (Nat → UInt64) → Prop} (hL28 : ∀ (x5 : Int32) (u v : MU) (o : Nat → Int64) (dd : Nat → UInt64), L28 x5 u v o dd → WM p l e room_1 s m args below meth c g 9 (cz + 2) (sz + 12) Qz 28 [(0, .ref b), (1, .ref (g.2.2.1 0)), (2, .ref (g.2.2.1 117)), (3, .ref (g.2.2.1 131)), (4, .ref (g.2.2.1 132)), (5, .int x5)] [] (u, v, o, dd)) (x5 : Int32) (u v : MU) (o : Nat → Int64) (dd : Nat → UInt64) (h : wb_law_2040 xs L L28 x5 u v o dd) : WM p l e room_1 s m args below meth c g 9 cz sz Qz 2040 [(0, .ref b), (1, .ref (g.2.2.1 0)), (2, .ref (g.2.2.1 117)), (3, .ref (g.2.2.1 131)), (4, .ref (g.2.2.1 132)), (5, .int x5)] [] (u, v, o, dd) := by
  unfold wb_law_2040 at h
  refine zm_aload_n C dL_law_2040 rfl 1 rfl ?_
  refine zm_aload C dL_law_2041 4 rfl ?_
  refine zm_ci (zr_SW (As := [.ref (g.2.2.1 0), .ref (g.2.2.1 132)]) (rest := []) C (c_L_meanMoves l hstk g u v dd o  h) wd_1027 wd_1028 wd_0 wd_1029 hz_L_meanMoves rfl rfl ⟨by decide, by decide⟩ ⟨(show cz + 1 ≤ 603072 by omega), (show sz + 6 ≤ 7207018 by omega)⟩ rfl rfl (Nat.le_of_ble_eq_true rfl) dL_law_2043) (fun r_1 M1 hq => ?_)
  obtain ⟨u_2, o_3, rfl, h⟩ := hq
  refine zm_istore (lv' := [(6, .int r_1), (0, .ref b), (1, .ref (g.2.2.1 0)), (2, .ref (g.2.2.1 117)), (3, .ref (g.2.2.1 131)), (4, .ref (g.2.2.1 132)), (5, .int x5)]) C dL_law_2046 (by decide) rfl ?_
  refine zm_aload_n C dL_law_2048 rfl 3 rfl ?_
  refine zm_cd (zr_V (As := []) (rest := []) C (c_X10_meanMoves l g u_2 v (o, o_3)  h) wd_1452 wd_1453 wd_1454 wd_11 wd_1455 hy_X10_meanMoves rfl rfl ⟨by decide, by decide⟩ ⟨(show (cz + 1) + 0 ≤ 603072 by omega), (show (sz + 6) + 0 ≤ 7207018 by omega)⟩ (ci := 10) (by decide) (zCell_k kd_117) rfl rfl rfl rfl (Nat.le_of_ble_eq_true rfl) dL_law_2049) (fun r_4 M1 hq => ?_)
  obtain ⟨u_5, rfl, h⟩ := hq
  refine zm_dstore (lv' := [(7, .double r_4), (6, .int r_1), (0, .ref b), (1, .ref (g.2.2.1 0)), (2, .ref (g.2.2.1 117)), (3, .ref (g.2.2.1 131)), (4, .ref (g.2.2.1 132)), (5, .int x5)]) C dL_law_2052 (by decide) rfl ?_
  refine zm_aload_n C dL_law_2054 rfl 4 rfl ?_
  refine zm_ci (zr_V (As := []) (rest := []) C (c_X10_thrown l g u_2 u_5 (o, o_3)  h) wd_1176 wd_1177 wd_1178 wd_11 wd_1179 hy_X10_thrown rfl rfl ⟨by decide, by decide⟩ ⟨(show (cz + 1) + 0 ≤ 603072 by omega), (show (sz + 6) + 0 ≤ 7207018 by omega)⟩ (ci := 10) (by decide) (zCell_k kd_117) rfl rfl rfl rfl (Nat.le_of_ble_eq_true rfl) dL_law_2055) (fun r_6 M1 hq => ?_)
  obtain ⟨rfl, h⟩ := hq
  refine zm_iload C dL_law_2058 1 rfl ?_
  refine zm_icmp_eq (tgt := 2065) C dL_law_2060 (by decide) (fun hc_8 => ?_) (fun hc_8 => ?_)
  · have h := h.1 hc_8
    refine zm_iload C dL_law_2065 1 rfl ?_
    refine zm_if_ne (tgt := 2102) C dL_law_2067 (by decide) (fun hc_9 => ?_) (fun hc_9 => ?_)
    · have h := h.1 hc_9
      exact (zm_sub [2, 3, 4, 5, 6, 7] rfl (vb_law_2102 C hX hbl hbA hcz hsz hstk hL28 _ _ _ _ _ h))
    · have h := h.2 hc_9
      refine zm_aload C dL_law_2070 6 rfl ?_
      refine zm_iconst (v := 0) C dL_law_2072 (by decide) ?_
      refine zm_ldD C zIn01 dL_law_2073 ?_
      refine zm_dload C dL_law_2074 0 rfl ?_
      refine zm_dcmp C dL_law_2076 ?_
      refine zm_if_eq (tgt := 2102) C dL_law_2077 (by decide) (fun hc_10 => ?_) (fun hc_10 => ?_)
      · have h := h.1 hc_10
        exact (zm_sub [2, 3, 4, 5, 6, 7] rfl (vb_law_2102 C hX hbl hbA hcz hsz hstk hL28 _ _ _ _ _ h))
      · have h := h.2 hc_10
        refine zm_aload C dL_law_2080 6 rfl ?_
        refine zm_iconst (v := 0) C dL_law_2082 (by decide) ?_
        refine zm_ldD C zIn01 dL_law_2083 ?_
        refine zm_aload C dL_law_2084 6 rfl ?_
        refine zm_iconst (v := 0) C dL_law_2086 (by decide) ?_
        refine zm_ldD C zIn01 dL_law_2087 ?_
        refine zm_dcmp C dL_law_2088 ?_
        refine zm_if_eq (tgt := 2100) C dL_law_2089 (by decide) (fun hc_11 => ?_) (fun hc_11 => ?_)
        · have h := h.1 hc_11
          exact (zm_sub [2, 3, 4, 5, 6, 7] rfl (vb_law_2100 C hX hbl hbA hcz hsz hstk hL28 _ _ _ _ _ h))
        · have h := h.2 hc_11
          refine zm_dload C dL_law_2092 0 rfl ?_
          refine zm_dload C dL_law_2094 0 rfl ?_
          refine zm_dcmp C dL_law_2096 ?_
          refine zm_if_ne (tgt := 2102) C dL_law_2097 (by decide) (fun hc_12 => ?_) (fun hc_12 => ?_)
          · have h := h.1 hc_12
            exact (zm_sub [2, 3, 4, 5, 6, 7] rfl (vb_law_2102 C hX hbl hbA hcz hsz hstk hL28 _ _ _ _ _ h))
          · have h := h.2 hc_12
            exact (zm_sub [2, 3, 4, 5, 6, 7] rfl (vb_law_2100 C hX hbl hbA hcz hsz hstk hL28 _ _ _ _ _ h))
  · have h := h.2 hc_8
    refine zm_iconst (v := 0) C dL_law_2063 (by decide) ?_
    exact h.elim
def wb_law_2168 (xs : Nat → Int32) (L : Nat) (L28 : Int32 → MU → MU → (Nat → Int64) → (Nat → UInt64) → Prop) (x5 : Int32) (u v : MU) (o : Nat → Int64) (dd : Nat → UInt64) : Prop := wb_law_2328 xs L L28 x5 u v o dd
set_option maxHeartbeats 4000000 in
set_option maxRecDepth 100000 in
theorem vb_law_2168 {p : Program} {l : Launch} {e : Env} {s : State} {m : MethodId} {args : Array Value} {below : List Frame} {meth : Method} {c : Code} {g : GE} {Qz : State → Prop} {b L : Nat} {xs : Nat → Int32} (C : zCx p l s m args meth c g RL cL_law 9) (hX : va_X b L xs s s.heap) (hbl : b < s.heap.size) (hbA : ¬ zA g b) {cz sz : Nat} (hcz : cz + 2 ≤ 603072) (hsz : sz + 12 ≤ 7207018) (hstk : l.stackTraces = false) {L28 : Int32 → MU → MU → (Nat → Int64) → (Nat → UInt64) → Prop} (hL28 : ∀ (x5 : Int32) (u v : MU) (o : Nat → Int64) (dd : Nat → UInt64), L28 x5 u v o dd → WM p l e room_1 s m args below meth c g 9 (cz + 2) (sz + 12) Qz 28 [(0, .ref b), (1, .ref (g.2.2.1 0)), (2, .ref (g.2.2.1 117)), (3, .ref (g.2.2.1 131)), (4, .ref (g.2.2.1 132)), (5, .int x5)] [] (u, v, o, dd)) (x5 : Int32) (u v : MU) (o : Nat → Int64) (dd : Nat → UInt64) (h : wb_law_2168 xs L L28 x5 u v o dd) : WM p l e room_1 s m args below meth c g 9 (cz + 1) (sz + 6) Qz 2168 [(0, .ref b), (1, .ref (g.2.2.1 0)), (2, .ref (g.2.2.1 117)), (3, .ref (g.2.2.1 131)), (4, .ref (g.2.2.1 132)), (5, .int x5)] [] (u, v, o, dd) := by
  unfold wb_law_2168 at h
  refine zm_goto (tgt := 2328) C dL_law_2168 (by decide) ?_
  exact zm_widen (by omega) (by omega) (zm_sub [0, 1, 2, 3, 4, 5] rfl (vb_law_2328 C hX hbl hbA hcz hsz hstk hL28 _ _ _ _ _ h))
def wb_law_2166 (xs : Nat → Int32) (L : Nat) (L28 : Int32 → MU → MU → (Nat → Int64) → (Nat → UInt64) → Prop) (x5 : Int32) (u v : MU) (o : Nat → Int64) (dd : Nat → UInt64) : Prop := False
set_option maxHeartbeats 4000000 in
set_option maxRecDepth 100000 in
theorem vb_law_2166 {p : Program} {l : Launch} {e : Env} {s : State} {m : MethodId} {args : Array Value} {below : List Frame} {meth : Method} {c : Code} {g : GE} {Qz : State → Prop} {b L : Nat} {xs : Nat → Int32} (C : zCx p l s m args meth c g RL cL_law 9) (hX : va_X b L xs s s.heap) (hbl : b < s.heap.size) (hbA : ¬ zA g b) {cz sz : Nat} (hcz : cz + 2 ≤ 603072) (hsz : sz + 12 ≤ 7207018) (hstk : l.stackTraces = false) {L28 : Int32 → MU → MU → (Nat → Int64) → (Nat → UInt64) → Prop} (hL28 : ∀ (x5 : Int32) (u v : MU) (o : Nat → Int64) (dd : Nat → UInt64), L28 x5 u v o dd → WM p l e room_1 s m args below meth c g 9 (cz + 2) (sz + 12) Qz 28 [(0, .ref b), (1, .ref (g.2.2.1 0)), (2, .ref (g.2.2.1 117)), (3, .ref (g.2.2.1 131)), (4, .ref (g.2.2.1 132)), (5, .int x5)] [] (u, v, o, dd)) (x5 : Int32) (u v : MU) (o : Nat → Int64) (dd : Nat → UInt64) (h : wb_law_2166 xs L L28 x5 u v o dd) : WM p l e room_1 s m args below meth c g 9 (cz + 1) (sz + 6) Qz 2166 [(0, .ref b), (1, .ref (g.2.2.1 0)), (2, .ref (g.2.2.1 117)), (3, .ref (g.2.2.1 131)), (4, .ref (g.2.2.1 132)), (5, .int x5)] [] (u, v, o, dd) := by
  unfold wb_law_2166 at h
  refine zm_iconst (v := 0) C dL_law_2166 (by decide) ?_
  exact h.elim
def wb_law_2105 (xs : Nat → Int32) (L : Nat) (L28 : Int32 → MU → MU → (Nat → Int64) → (Nat → UInt64) → Prop) (x5 : Int32) (u v : MU) (o : Nat → Int64) (dd : Nat → UInt64) : Prop := w_L_drawn  u dd (fun r_1 u_2 o_3 => w_X10_drawn  v (fun r_4 u_5 => w_X10_thrown u_5  (fun r_6 => ((r_6 = r_1) → ((¬ r_1 = 0) → wb_law_2168 xs L L28 x5 u_2 u_5 o o_3) ∧ ((r_1 = 0) → vf_n64 (FP.f2d r_4) ∧ ((((Op.cmpValue (FP.dcmp (o_3 ((0 : Int32)).toNatClampNeg) (FP.f2d r_4)) .l) = 0) → wb_law_2168 xs L L28 x5 u_2 u_5 o o_3) ∧ ((¬ (Op.cmpValue (FP.dcmp (o_3 ((0 : Int32)).toNatClampNeg) (FP.f2d r_4)) .l) = 0) → (((Op.cmpValue (FP.dcmp (o_3 ((0 : Int32)).toNatClampNeg) (o_3 ((0 : Int32)).toNatClampNeg)) .l) = 0) → wb_law_2166 xs L L28 x5 u_2 u_5 o o_3) ∧ ((¬ (Op.cmpValue (FP.dcmp (o_3 ((0 : Int32)).toNatClampNeg) (o_3 ((0 : Int32)).toNatClampNeg)) .l) = 0) → ((¬ (Op.cmpValue (FP.fcmp r_4 r_4) .l) = 0) → wb_law_2168 xs L L28 x5 u_2 u_5 o o_3) ∧ (((Op.cmpValue (FP.fcmp r_4 r_4) .l) = 0) → wb_law_2166 xs L L28 x5 u_2 u_5 o o_3)))))) ∧ ((¬ r_6 = r_1) → False))))
set_option maxHeartbeats 4000000 in
set_option maxRecDepth 100000 in
theorem vb_law_2105 {p : Program} {l : Launch} {e : Env} {s : State} {m : MethodId} {args : Array Value} {below : List Frame} {meth : Method} {c : Code} {g : GE} {Qz : State → Prop} {b L : Nat} {xs : Nat → Int32} (C : zCx p l s m args meth c g RL cL_law 9) (hX : va_X b L xs s s.heap) (hbl : b < s.heap.size) (hbA : ¬ zA g b) {cz sz : Nat} (hcz : cz + 2 ≤ 603072) (hsz : sz + 12 ≤ 7207018) (hstk : l.stackTraces = false) {L28 : Int32 → MU → MU → (Nat → Int64) → (Nat → UInt64) → Prop} (hL28 : ∀ (x5 : Int32) (u v : MU) (o : Nat → Int64) (dd : Nat → UInt64), L28 x5 u v o dd → WM p l e room_1 s m args below meth c g 9 (cz + 2) (sz + 12) Qz 28 [(0, .ref b), (1, .ref (g.2.2.1 0)), (2, .ref (g.2.2.1 117)), (3, .ref (g.2.2.1 131)), (4, .ref (g.2.2.1 132)), (5, .int x5)] [] (u, v, o, dd)) (x5 : Int32) (u v : MU) (o : Nat → Int64) (dd : Nat → UInt64) (h : wb_law_2105 xs L L28 x5 u v o dd) : WM p l e room_1 s m args below meth c g 9 cz sz Qz 2105 [(0, .ref b), (1, .ref (g.2.2.1 0)), (2, .ref (g.2.2.1 117)), (3, .ref (g.2.2.1 131)), (4, .ref (g.2.2.1 132)), (5, .int x5)] [] (u, v, o, dd) := by
  unfold wb_law_2105 at h
  refine zm_aload_n C dL_law_2105 rfl 1 rfl ?_
  refine zm_aload C dL_law_2106 4 rfl ?_
  refine zm_ci (zr_SW (As := [.ref (g.2.2.1 0), .ref (g.2.2.1 132)]) (rest := []) C (c_L_drawn l hstk g u v dd o  h) wd_1051 wd_1052 wd_0 wd_1053 hz_L_drawn rfl rfl ⟨by decide, by decide⟩ ⟨(show cz + 1 ≤ 603072 by omega), (show sz + 6 ≤ 7207018 by omega)⟩ rfl rfl (Nat.le_of_ble_eq_true rfl) dL_law_2108) (fun r_1 M1 hq => ?_)
  obtain ⟨u_2, o_3, rfl, h⟩ := hq
  refine zm_istore (lv' := [(6, .int r_1), (0, .ref b), (1, .ref (g.2.2.1 0)), (2, .ref (g.2.2.1 117)), (3, .ref (g.2.2.1 131)), (4, .ref (g.2.2.1 132)), (5, .int x5)]) C dL_law_2111 (by decide) rfl ?_
  refine zm_aload_n C dL_law_2113 rfl 3 rfl ?_
  refine zm_cf (zr_V (As := []) (rest := []) C (c_X10_drawn l g u_2 v (o, o_3)  h) wd_1456 wd_1457 wd_1458 wd_11 wd_1459 hy_X10_drawn rfl rfl ⟨by decide, by decide⟩ ⟨(show (cz + 1) + 0 ≤ 603072 by omega), (show (sz + 6) + 0 ≤ 7207018 by omega)⟩ (ci := 10) (by decide) (zCell_k kd_117) rfl rfl rfl rfl (Nat.le_of_ble_eq_true rfl) dL_law_2114) (fun r_4 M1 hq => ?_)
  obtain ⟨u_5, rfl, h⟩ := hq
  refine zm_fstore (lv' := [(7, .float r_4), (6, .int r_1), (0, .ref b), (1, .ref (g.2.2.1 0)), (2, .ref (g.2.2.1 117)), (3, .ref (g.2.2.1 131)), (4, .ref (g.2.2.1 132)), (5, .int x5)]) C dL_law_2117 (by decide) rfl ?_
  refine zm_aload_n C dL_law_2119 rfl 4 rfl ?_
  refine zm_ci (zr_V (As := []) (rest := []) C (c_X10_thrown l g u_2 u_5 (o, o_3)  h) wd_1176 wd_1177 wd_1178 wd_11 wd_1179 hy_X10_thrown rfl rfl ⟨by decide, by decide⟩ ⟨(show (cz + 1) + 0 ≤ 603072 by omega), (show (sz + 6) + 0 ≤ 7207018 by omega)⟩ (ci := 10) (by decide) (zCell_k kd_117) rfl rfl rfl rfl (Nat.le_of_ble_eq_true rfl) dL_law_2120) (fun r_6 M1 hq => ?_)
  obtain ⟨rfl, h⟩ := hq
  refine zm_iload C dL_law_2123 1 rfl ?_
  refine zm_icmp_eq (tgt := 2130) C dL_law_2125 (by decide) (fun hc_8 => ?_) (fun hc_8 => ?_)
  · have h := h.1 hc_8
    refine zm_iload C dL_law_2130 1 rfl ?_
    refine zm_if_ne (tgt := 2168) C dL_law_2132 (by decide) (fun hc_9 => ?_) (fun hc_9 => ?_)
    · have h := h.1 hc_9
      exact (zm_sub [2, 3, 4, 5, 6, 7] rfl (vb_law_2168 C hX hbl hbA hcz hsz hstk hL28 _ _ _ _ _ h))
    · have h := h.2 hc_9
      refine zm_aload C dL_law_2135 6 rfl ?_
      refine zm_iconst (v := 0) C dL_law_2137 (by decide) ?_
      refine zm_ldD C zIn01 dL_law_2138 ?_
      refine zm_fload C dL_law_2139 0 rfl ?_
      obtain ⟨hg_10, h⟩ := h
      refine zm_f2d C dL_law_2141 hg_10 ?_
      refine zm_dcmp C dL_law_2142 ?_
      refine zm_if_eq (tgt := 2168) C dL_law_2143 (by decide) (fun hc_11 => ?_) (fun hc_11 => ?_)
      · have h := h.1 hc_11
        exact (zm_sub [2, 3, 4, 5, 6, 7] rfl (vb_law_2168 C hX hbl hbA hcz hsz hstk hL28 _ _ _ _ _ h))
      · have h := h.2 hc_11
        refine zm_aload C dL_law_2146 6 rfl ?_
        refine zm_iconst (v := 0) C dL_law_2148 (by decide) ?_
        refine zm_ldD C zIn01 dL_law_2149 ?_
        refine zm_aload C dL_law_2150 6 rfl ?_
        refine zm_iconst (v := 0) C dL_law_2152 (by decide) ?_
        refine zm_ldD C zIn01 dL_law_2153 ?_
        refine zm_dcmp C dL_law_2154 ?_
        refine zm_if_eq (tgt := 2166) C dL_law_2155 (by decide) (fun hc_12 => ?_) (fun hc_12 => ?_)
        · have h := h.1 hc_12
          exact (zm_sub [2, 3, 4, 5, 6, 7] rfl (vb_law_2166 C hX hbl hbA hcz hsz hstk hL28 _ _ _ _ _ h))
        · have h := h.2 hc_12
          refine zm_fload C dL_law_2158 0 rfl ?_
          refine zm_fload C dL_law_2160 0 rfl ?_
          refine zm_fcmp C dL_law_2162 ?_
          refine zm_if_ne (tgt := 2168) C dL_law_2163 (by decide) (fun hc_13 => ?_) (fun hc_13 => ?_)
          · have h := h.1 hc_13
            exact (zm_sub [2, 3, 4, 5, 6, 7] rfl (vb_law_2168 C hX hbl hbA hcz hsz hstk hL28 _ _ _ _ _ h))
          · have h := h.2 hc_13
            exact (zm_sub [2, 3, 4, 5, 6, 7] rfl (vb_law_2166 C hX hbl hbA hcz hsz hstk hL28 _ _ _ _ _ h))
  · have h := h.2 hc_8
    refine zm_iconst (v := 0) C dL_law_2128 (by decide) ?_
    exact h.elim
def wb_law_2224 (xs : Nat → Int32) (L : Nat) (L28 : Int32 → MU → MU → (Nat → Int64) → (Nat → UInt64) → Prop) (x5 : Int32) (u v : MU) (o : Nat → Int64) (dd : Nat → UInt64) : Prop := wb_law_2328 xs L L28 x5 u v o dd
set_option maxHeartbeats 4000000 in
set_option maxRecDepth 100000 in
theorem vb_law_2224 {p : Program} {l : Launch} {e : Env} {s : State} {m : MethodId} {args : Array Value} {below : List Frame} {meth : Method} {c : Code} {g : GE} {Qz : State → Prop} {b L : Nat} {xs : Nat → Int32} (C : zCx p l s m args meth c g RL cL_law 9) (hX : va_X b L xs s s.heap) (hbl : b < s.heap.size) (hbA : ¬ zA g b) {cz sz : Nat} (hcz : cz + 2 ≤ 603072) (hsz : sz + 12 ≤ 7207018) (hstk : l.stackTraces = false) {L28 : Int32 → MU → MU → (Nat → Int64) → (Nat → UInt64) → Prop} (hL28 : ∀ (x5 : Int32) (u v : MU) (o : Nat → Int64) (dd : Nat → UInt64), L28 x5 u v o dd → WM p l e room_1 s m args below meth c g 9 (cz + 2) (sz + 12) Qz 28 [(0, .ref b), (1, .ref (g.2.2.1 0)), (2, .ref (g.2.2.1 117)), (3, .ref (g.2.2.1 131)), (4, .ref (g.2.2.1 132)), (5, .int x5)] [] (u, v, o, dd)) (x5 : Int32) (u v : MU) (o : Nat → Int64) (dd : Nat → UInt64) (h : wb_law_2224 xs L L28 x5 u v o dd) : WM p l e room_1 s m args below meth c g 9 (cz + 1) (sz + 6) Qz 2224 [(0, .ref b), (1, .ref (g.2.2.1 0)), (2, .ref (g.2.2.1 117)), (3, .ref (g.2.2.1 131)), (4, .ref (g.2.2.1 132)), (5, .int x5)] [] (u, v, o, dd) := by
  unfold wb_law_2224 at h
  refine zm_goto (tgt := 2328) C dL_law_2224 (by decide) ?_
  exact zm_widen (by omega) (by omega) (zm_sub [0, 1, 2, 3, 4, 5] rfl (vb_law_2328 C hX hbl hbA hcz hsz hstk hL28 _ _ _ _ _ h))
def wb_law_2171 (xs : Nat → Int32) (L : Nat) (L28 : Int32 → MU → MU → (Nat → Int64) → (Nat → UInt64) → Prop) (x5 : Int32) (u v : MU) (o : Nat → Int64) (dd : Nat → UInt64) : Prop := vp_in (x5 + (1 : Int32)) L ∧ (w_L_account (xs ((x5 + (1 : Int32))).toNatClampNeg) u o (fun r_2 u_3 o_4 => vp_in (x5 + (1 : Int32)) L ∧ (w_X10_account (xs ((x5 + (1 : Int32))).toNatClampNeg) v (fun r_6 u_7 => w_X10_thrown u_7  (fun r_8 => ((r_8 = r_2) → ((¬ r_2 = 0) → wb_law_2224 xs L L28 x5 u_3 u_7 o_4 dd) ∧ ((r_2 = 0) → (((lg_cmp (o_4 ((0 : Int32)).toNatClampNeg) r_6.toInt64) = 0) → wb_law_2224 xs L L28 x5 u_3 u_7 o_4 dd) ∧ ((¬ (lg_cmp (o_4 ((0 : Int32)).toNatClampNeg) r_6.toInt64) = 0) → False))) ∧ ((¬ r_8 = r_2) → False))))))
set_option maxHeartbeats 4000000 in
set_option maxRecDepth 100000 in
theorem vb_law_2171 {p : Program} {l : Launch} {e : Env} {s : State} {m : MethodId} {args : Array Value} {below : List Frame} {meth : Method} {c : Code} {g : GE} {Qz : State → Prop} {b L : Nat} {xs : Nat → Int32} (C : zCx p l s m args meth c g RL cL_law 9) (hX : va_X b L xs s s.heap) (hbl : b < s.heap.size) (hbA : ¬ zA g b) {cz sz : Nat} (hcz : cz + 2 ≤ 603072) (hsz : sz + 12 ≤ 7207018) (hstk : l.stackTraces = false) {L28 : Int32 → MU → MU → (Nat → Int64) → (Nat → UInt64) → Prop} (hL28 : ∀ (x5 : Int32) (u v : MU) (o : Nat → Int64) (dd : Nat → UInt64), L28 x5 u v o dd → WM p l e room_1 s m args below meth c g 9 (cz + 2) (sz + 12) Qz 28 [(0, .ref b), (1, .ref (g.2.2.1 0)), (2, .ref (g.2.2.1 117)), (3, .ref (g.2.2.1 131)), (4, .ref (g.2.2.1 132)), (5, .int x5)] [] (u, v, o, dd)) (x5 : Int32) (u v : MU) (o : Nat → Int64) (dd : Nat → UInt64) (h : wb_law_2171 xs L L28 x5 u v o dd) : WM p l e room_1 s m args below meth c g 9 cz sz Qz 2171 [(0, .ref b), (1, .ref (g.2.2.1 0)), (2, .ref (g.2.2.1 117)), (3, .ref (g.2.2.1 131)), (4, .ref (g.2.2.1 132)), (5, .int x5)] [] (u, v, o, dd) := by
  unfold wb_law_2171 at h
  refine zm_aload_n C dL_law_2171 rfl 1 rfl ?_
  refine zm_aload_n C dL_law_2172 rfl 0 rfl ?_
  refine zm_iload C dL_law_2173 5 rfl ?_
  refine zm_iconst (v := 1) C dL_law_2175 (by decide) ?_
  refine zm_iadd C dL_law_2176 ?_
  obtain ⟨hg_1, h⟩ := h
  refine zm_sld C hX hbl hbA hg_1 dL_law_2177 ?_
  refine zm_aload_n C dL_law_2178 rfl 3 rfl ?_
  refine zm_ci (zr_SW (As := [.ref (g.2.2.1 0), .int (xs ((x5 + (1 : Int32))).toNatClampNeg), .ref (g.2.2.1 131)]) (rest := []) C (c_L_account l hstk g u v o dd (xs ((x5 + (1 : Int32))).toNatClampNeg) h) wd_1059 wd_1060 wd_0 wd_1061 hz_L_account rfl rfl ⟨by decide, by decide⟩ ⟨(show cz + 1 ≤ 603072 by omega), (show sz + 6 ≤ 7207018 by omega)⟩ rfl rfl (Nat.le_of_ble_eq_true rfl) dL_law_2179) (fun r_2 M1 hq => ?_)
  obtain ⟨u_3, o_4, rfl, h⟩ := hq
  refine zm_istore (lv' := [(6, .int r_2), (0, .ref b), (1, .ref (g.2.2.1 0)), (2, .ref (g.2.2.1 117)), (3, .ref (g.2.2.1 131)), (4, .ref (g.2.2.1 132)), (5, .int x5)]) C dL_law_2182 (by decide) rfl ?_
  refine zm_aload_n C dL_law_2184 rfl 3 rfl ?_
  refine zm_aload_n C dL_law_2185 rfl 1 rfl ?_
  refine zm_iload C dL_law_2186 6 rfl ?_
  refine zm_iconst (v := 1) C dL_law_2188 (by decide) ?_
  refine zm_iadd C dL_law_2189 ?_
  obtain ⟨hg_5, h⟩ := h
  refine zm_sld C hX hbl hbA hg_5 dL_law_2190 ?_
  refine zm_ci (zr_V (As := [.int (xs ((x5 + (1 : Int32))).toNatClampNeg)]) (rest := []) C (c_X10_account l g u_3 v (o_4, dd) (xs ((x5 + (1 : Int32))).toNatClampNeg) h) wd_1464 wd_1465 wd_1466 wd_11 wd_1467 hy_X10_account rfl rfl ⟨by decide, by decide⟩ ⟨(show (cz + 1) + 0 ≤ 603072 by omega), (show (sz + 6) + 0 ≤ 7207018 by omega)⟩ (ci := 10) (by decide) (zCell_k kd_117) rfl rfl rfl rfl (Nat.le_of_ble_eq_true rfl) dL_law_2191) (fun r_6 M1 hq => ?_)
  obtain ⟨u_7, rfl, h⟩ := hq
  refine zm_istore (lv' := [(7, .int r_6), (6, .int r_2), (0, .ref b), (1, .ref (g.2.2.1 0)), (2, .ref (g.2.2.1 117)), (3, .ref (g.2.2.1 131)), (4, .ref (g.2.2.1 132)), (5, .int x5)]) C dL_law_2194 (by decide) rfl ?_
  refine zm_aload_n C dL_law_2196 rfl 4 rfl ?_
  refine zm_ci (zr_V (As := []) (rest := []) C (c_X10_thrown l g u_3 u_7 (o_4, dd)  h) wd_1176 wd_1177 wd_1178 wd_11 wd_1179 hy_X10_thrown rfl rfl ⟨by decide, by decide⟩ ⟨(show (cz + 1) + 0 ≤ 603072 by omega), (show (sz + 6) + 0 ≤ 7207018 by omega)⟩ (ci := 10) (by decide) (zCell_k kd_117) rfl rfl rfl rfl (Nat.le_of_ble_eq_true rfl) dL_law_2197) (fun r_8 M1 hq => ?_)
  obtain ⟨rfl, h⟩ := hq
  refine zm_iload C dL_law_2200 1 rfl ?_
  refine zm_icmp_eq (tgt := 2207) C dL_law_2202 (by decide) (fun hc_10 => ?_) (fun hc_10 => ?_)
  · have h := h.1 hc_10
    refine zm_iload C dL_law_2207 1 rfl ?_
    refine zm_if_ne (tgt := 2224) C dL_law_2209 (by decide) (fun hc_11 => ?_) (fun hc_11 => ?_)
    · have h := h.1 hc_11
      exact (zm_sub [2, 3, 4, 5, 6, 7] rfl (vb_law_2224 C hX hbl hbA hcz hsz hstk hL28 _ _ _ _ _ h))
    · have h := h.2 hc_11
      refine zm_aload_n C dL_law_2212 rfl 5 rfl ?_
      refine zm_iconst (v := 0) C dL_law_2213 (by decide) ?_
      refine zm_ldL C zIn01 dL_law_2214 ?_
      refine zm_iload C dL_law_2215 0 rfl ?_
      refine zm_i2l C dL_law_2217 ?_
      refine zm_lcmp C dL_law_2218 ?_
      refine zm_if_eq (tgt := 2224) C dL_law_2219 (by decide) (fun hc_12 => ?_) (fun hc_12 => ?_)
      · have h := h.1 hc_12
        exact (zm_sub [2, 3, 4, 5, 6, 7] rfl (vb_law_2224 C hX hbl hbA hcz hsz hstk hL28 _ _ _ _ _ h))
      · have h := h.2 hc_12
        refine zm_iconst (v := 0) C dL_law_2222 (by decide) ?_
        exact h.elim
  · have h := h.2 hc_10
    refine zm_iconst (v := 0) C dL_law_2205 (by decide) ?_
    exact h.elim
def wb_law_2268 (xs : Nat → Int32) (L : Nat) (L28 : Int32 → MU → MU → (Nat → Int64) → (Nat → UInt64) → Prop) (x5 : Int32) (u v : MU) (o : Nat → Int64) (dd : Nat → UInt64) : Prop := wb_law_2328 xs L L28 x5 u v o dd
set_option maxHeartbeats 4000000 in
set_option maxRecDepth 100000 in
theorem vb_law_2268 {p : Program} {l : Launch} {e : Env} {s : State} {m : MethodId} {args : Array Value} {below : List Frame} {meth : Method} {c : Code} {g : GE} {Qz : State → Prop} {b L : Nat} {xs : Nat → Int32} (C : zCx p l s m args meth c g RL cL_law 9) (hX : va_X b L xs s s.heap) (hbl : b < s.heap.size) (hbA : ¬ zA g b) {cz sz : Nat} (hcz : cz + 2 ≤ 603072) (hsz : sz + 12 ≤ 7207018) (hstk : l.stackTraces = false) {L28 : Int32 → MU → MU → (Nat → Int64) → (Nat → UInt64) → Prop} (hL28 : ∀ (x5 : Int32) (u v : MU) (o : Nat → Int64) (dd : Nat → UInt64), L28 x5 u v o dd → WM p l e room_1 s m args below meth c g 9 (cz + 2) (sz + 12) Qz 28 [(0, .ref b), (1, .ref (g.2.2.1 0)), (2, .ref (g.2.2.1 117)), (3, .ref (g.2.2.1 131)), (4, .ref (g.2.2.1 132)), (5, .int x5)] [] (u, v, o, dd)) (x5 : Int32) (u v : MU) (o : Nat → Int64) (dd : Nat → UInt64) (h : wb_law_2268 xs L L28 x5 u v o dd) : WM p l e room_1 s m args below meth c g 9 (cz + 1) (sz + 6) Qz 2268 [(0, .ref b), (1, .ref (g.2.2.1 0)), (2, .ref (g.2.2.1 117)), (3, .ref (g.2.2.1 131)), (4, .ref (g.2.2.1 132)), (5, .int x5)] [] (u, v, o, dd) := by
  unfold wb_law_2268 at h
  refine zm_goto (tgt := 2328) C dL_law_2268 (by decide) ?_
  exact zm_widen (by omega) (by omega) (zm_sub [0, 1, 2, 3, 4, 5] rfl (vb_law_2328 C hX hbl hbA hcz hsz hstk hL28 _ _ _ _ _ h))
def wb_law_2227 (xs : Nat → Int32) (L : Nat) (L28 : Int32 → MU → MU → (Nat → Int64) → (Nat → UInt64) → Prop) (x5 : Int32) (u v : MU) (o : Nat → Int64) (dd : Nat → UInt64) : Prop := w_L_undo  u o (fun r_1 u_2 o_3 => w_X10_undo  v (fun r_4 u_5 => w_X10_thrown u_5  (fun r_6 => ((r_6 = r_1) → ((¬ r_1 = 0) → wb_law_2268 xs L L28 x5 u_2 u_5 o_3 dd) ∧ ((r_1 = 0) → (((lg_cmp (o_3 ((0 : Int32)).toNatClampNeg) r_4.toInt64) = 0) → wb_law_2268 xs L L28 x5 u_2 u_5 o_3 dd) ∧ ((¬ (lg_cmp (o_3 ((0 : Int32)).toNatClampNeg) r_4.toInt64) = 0) → False))) ∧ ((¬ r_6 = r_1) → False))))
set_option maxHeartbeats 4000000 in
set_option maxRecDepth 100000 in
theorem vb_law_2227 {p : Program} {l : Launch} {e : Env} {s : State} {m : MethodId} {args : Array Value} {below : List Frame} {meth : Method} {c : Code} {g : GE} {Qz : State → Prop} {b L : Nat} {xs : Nat → Int32} (C : zCx p l s m args meth c g RL cL_law 9) (hX : va_X b L xs s s.heap) (hbl : b < s.heap.size) (hbA : ¬ zA g b) {cz sz : Nat} (hcz : cz + 2 ≤ 603072) (hsz : sz + 12 ≤ 7207018) (hstk : l.stackTraces = false) {L28 : Int32 → MU → MU → (Nat → Int64) → (Nat → UInt64) → Prop} (hL28 : ∀ (x5 : Int32) (u v : MU) (o : Nat → Int64) (dd : Nat → UInt64), L28 x5 u v o dd → WM p l e room_1 s m args below meth c g 9 (cz + 2) (sz + 12) Qz 28 [(0, .ref b), (1, .ref (g.2.2.1 0)), (2, .ref (g.2.2.1 117)), (3, .ref (g.2.2.1 131)), (4, .ref (g.2.2.1 132)), (5, .int x5)] [] (u, v, o, dd)) (x5 : Int32) (u v : MU) (o : Nat → Int64) (dd : Nat → UInt64) (h : wb_law_2227 xs L L28 x5 u v o dd) : WM p l e room_1 s m args below meth c g 9 cz sz Qz 2227 [(0, .ref b), (1, .ref (g.2.2.1 0)), (2, .ref (g.2.2.1 117)), (3, .ref (g.2.2.1 131)), (4, .ref (g.2.2.1 132)), (5, .int x5)] [] (u, v, o, dd) := by
  unfold wb_law_2227 at h
  refine zm_aload_n C dL_law_2227 rfl 1 rfl ?_
  refine zm_aload_n C dL_law_2228 rfl 3 rfl ?_
  refine zm_ci (zr_SW (As := [.ref (g.2.2.1 0), .ref (g.2.2.1 131)]) (rest := []) C (c_L_undo l hstk g u v o dd  h) wd_1071 wd_1072 wd_0 wd_1073 hz_L_undo rfl rfl ⟨by decide, by decide⟩ ⟨(show cz + 1 ≤ 603072 by omega), (show sz + 6 ≤ 7207018 by omega)⟩ rfl rfl (Nat.le_of_ble_eq_true rfl) dL_law_2229) (fun r_1 M1 hq => ?_)
  obtain ⟨u_2, o_3, rfl, h⟩ := hq
  refine zm_istore (lv' := [(6, .int r_1), (0, .ref b), (1, .ref (g.2.2.1 0)), (2, .ref (g.2.2.1 117)), (3, .ref (g.2.2.1 131)), (4, .ref (g.2.2.1 132)), (5, .int x5)]) C dL_law_2232 (by decide) rfl ?_
  refine zm_aload_n C dL_law_2234 rfl 3 rfl ?_
  refine zm_ci (zr_V (As := []) (rest := []) C (c_X10_undo l g u_2 v (o_3, dd)  h) wd_1468 wd_1469 wd_1470 wd_11 wd_1471 hy_X10_undo rfl rfl ⟨by decide, by decide⟩ ⟨(show (cz + 1) + 0 ≤ 603072 by omega), (show (sz + 6) + 0 ≤ 7207018 by omega)⟩ (ci := 10) (by decide) (zCell_k kd_117) rfl rfl rfl rfl (Nat.le_of_ble_eq_true rfl) dL_law_2235) (fun r_4 M1 hq => ?_)
  obtain ⟨u_5, rfl, h⟩ := hq
  refine zm_istore (lv' := [(7, .int r_4), (6, .int r_1), (0, .ref b), (1, .ref (g.2.2.1 0)), (2, .ref (g.2.2.1 117)), (3, .ref (g.2.2.1 131)), (4, .ref (g.2.2.1 132)), (5, .int x5)]) C dL_law_2238 (by decide) rfl ?_
  refine zm_aload_n C dL_law_2240 rfl 4 rfl ?_
  refine zm_ci (zr_V (As := []) (rest := []) C (c_X10_thrown l g u_2 u_5 (o_3, dd)  h) wd_1176 wd_1177 wd_1178 wd_11 wd_1179 hy_X10_thrown rfl rfl ⟨by decide, by decide⟩ ⟨(show (cz + 1) + 0 ≤ 603072 by omega), (show (sz + 6) + 0 ≤ 7207018 by omega)⟩ (ci := 10) (by decide) (zCell_k kd_117) rfl rfl rfl rfl (Nat.le_of_ble_eq_true rfl) dL_law_2241) (fun r_6 M1 hq => ?_)
  obtain ⟨rfl, h⟩ := hq
  refine zm_iload C dL_law_2244 1 rfl ?_
  refine zm_icmp_eq (tgt := 2251) C dL_law_2246 (by decide) (fun hc_8 => ?_) (fun hc_8 => ?_)
  · have h := h.1 hc_8
    refine zm_iload C dL_law_2251 1 rfl ?_
    refine zm_if_ne (tgt := 2268) C dL_law_2253 (by decide) (fun hc_9 => ?_) (fun hc_9 => ?_)
    · have h := h.1 hc_9
      exact (zm_sub [2, 3, 4, 5, 6, 7] rfl (vb_law_2268 C hX hbl hbA hcz hsz hstk hL28 _ _ _ _ _ h))
    · have h := h.2 hc_9
      refine zm_aload_n C dL_law_2256 rfl 5 rfl ?_
      refine zm_iconst (v := 0) C dL_law_2257 (by decide) ?_
      refine zm_ldL C zIn01 dL_law_2258 ?_
      refine zm_iload C dL_law_2259 0 rfl ?_
      refine zm_i2l C dL_law_2261 ?_
      refine zm_lcmp C dL_law_2262 ?_
      refine zm_if_eq (tgt := 2268) C dL_law_2263 (by decide) (fun hc_10 => ?_) (fun hc_10 => ?_)
      · have h := h.1 hc_10
        exact (zm_sub [2, 3, 4, 5, 6, 7] rfl (vb_law_2268 C hX hbl hbA hcz hsz hstk hL28 _ _ _ _ _ h))
      · have h := h.2 hc_10
        refine zm_iconst (v := 0) C dL_law_2266 (by decide) ?_
        exact h.elim
  · have h := h.2 hc_8
    refine zm_iconst (v := 0) C dL_law_2249 (by decide) ?_
    exact h.elim
def wb_law_2271 (xs : Nat → Int32) (L : Nat) (L28 : Int32 → MU → MU → (Nat → Int64) → (Nat → UInt64) → Prop) (x5 : Int32) (u v : MU) (o : Nat → Int64) (dd : Nat → UInt64) : Prop := w_X9_save  u (fun r_1 u_2 => w_X10_save  v (fun r_3 u_4 => ((r_1 = r_3) → wb_law_2328 xs L L28 x5 u_2 u_4 o dd) ∧ ((¬ r_1 = r_3) → False)))
set_option maxHeartbeats 4000000 in
set_option maxRecDepth 100000 in
theorem vb_law_2271 {p : Program} {l : Launch} {e : Env} {s : State} {m : MethodId} {args : Array Value} {below : List Frame} {meth : Method} {c : Code} {g : GE} {Qz : State → Prop} {b L : Nat} {xs : Nat → Int32} (C : zCx p l s m args meth c g RL cL_law 9) (hX : va_X b L xs s s.heap) (hbl : b < s.heap.size) (hbA : ¬ zA g b) {cz sz : Nat} (hcz : cz + 2 ≤ 603072) (hsz : sz + 12 ≤ 7207018) (hstk : l.stackTraces = false) {L28 : Int32 → MU → MU → (Nat → Int64) → (Nat → UInt64) → Prop} (hL28 : ∀ (x5 : Int32) (u v : MU) (o : Nat → Int64) (dd : Nat → UInt64), L28 x5 u v o dd → WM p l e room_1 s m args below meth c g 9 (cz + 2) (sz + 12) Qz 28 [(0, .ref b), (1, .ref (g.2.2.1 0)), (2, .ref (g.2.2.1 117)), (3, .ref (g.2.2.1 131)), (4, .ref (g.2.2.1 132)), (5, .int x5)] [] (u, v, o, dd)) (x5 : Int32) (u v : MU) (o : Nat → Int64) (dd : Nat → UInt64) (h : wb_law_2271 xs L L28 x5 u v o dd) : WM p l e room_1 s m args below meth c g 9 cz sz Qz 2271 [(0, .ref b), (1, .ref (g.2.2.1 0)), (2, .ref (g.2.2.1 117)), (3, .ref (g.2.2.1 131)), (4, .ref (g.2.2.1 132)), (5, .int x5)] [] (u, v, o, dd) := by
  unfold wb_law_2271 at h
  refine zm_aload_n C dL_law_2271 rfl 1 rfl ?_
  refine zm_ci (zr_V (As := []) (rest := []) C (c_X9_save l g u (v, o, dd)  h) wd_317 wd_318 wd_319 wd_1 wd_320 hy_X9_save rfl rfl ⟨by decide, by decide⟩ ⟨(show cz + 0 ≤ 603072 by omega), (show sz + 0 ≤ 7207018 by omega)⟩ (ci := 9) (by decide) (zCell_k kd_0) rfl rfl rfl rfl (Nat.le_of_ble_eq_true rfl) dL_law_2272) (fun r_1 M1 hq => ?_)
  obtain ⟨u_2, rfl, h⟩ := hq
  refine zm_aload_n C dL_law_2275 rfl 2 rfl ?_
  refine zm_ci (zr_V (As := []) (rest := [.int r_1]) C (c_X10_save l g u_2 v (o, dd)  h) wd_1472 wd_1473 wd_1474 wd_11 wd_1475 hy_X10_save rfl rfl ⟨by decide, by decide⟩ ⟨(show cz + 0 ≤ 603072 by omega), (show sz + 0 ≤ 7207018 by omega)⟩ (ci := 10) (by decide) (zCell_k kd_117) rfl rfl rfl rfl (Nat.le_of_ble_eq_true rfl) dL_law_2276) (fun r_3 M1 hq => ?_)
  obtain ⟨u_4, rfl, h⟩ := hq
  refine zm_icmp_eq (tgt := 2328) C dL_law_2279 (by decide) (fun hc_5 => ?_) (fun hc_5 => ?_)
  · have h := h.1 hc_5
    exact zm_widen (by omega) (by omega) (zm_sub [0, 1, 2, 3, 4, 5] rfl (vb_law_2328 C hX hbl hbA hcz hsz hstk hL28 _ _ _ _ _ h))
  · have h := h.2 hc_5
    refine zm_iconst (v := 0) C dL_law_2282 (by decide) ?_
    exact h.elim
def wb_law_2325 (xs : Nat → Int32) (L : Nat) (L28 : Int32 → MU → MU → (Nat → Int64) → (Nat → UInt64) → Prop) (x5 : Int32) (u v : MU) (o : Nat → Int64) (dd : Nat → UInt64) : Prop := wb_law_2328 xs L L28 x5 u v o dd
set_option maxHeartbeats 4000000 in
set_option maxRecDepth 100000 in
theorem vb_law_2325 {p : Program} {l : Launch} {e : Env} {s : State} {m : MethodId} {args : Array Value} {below : List Frame} {meth : Method} {c : Code} {g : GE} {Qz : State → Prop} {b L : Nat} {xs : Nat → Int32} (C : zCx p l s m args meth c g RL cL_law 9) (hX : va_X b L xs s s.heap) (hbl : b < s.heap.size) (hbA : ¬ zA g b) {cz sz : Nat} (hcz : cz + 2 ≤ 603072) (hsz : sz + 12 ≤ 7207018) (hstk : l.stackTraces = false) {L28 : Int32 → MU → MU → (Nat → Int64) → (Nat → UInt64) → Prop} (hL28 : ∀ (x5 : Int32) (u v : MU) (o : Nat → Int64) (dd : Nat → UInt64), L28 x5 u v o dd → WM p l e room_1 s m args below meth c g 9 (cz + 2) (sz + 12) Qz 28 [(0, .ref b), (1, .ref (g.2.2.1 0)), (2, .ref (g.2.2.1 117)), (3, .ref (g.2.2.1 131)), (4, .ref (g.2.2.1 132)), (5, .int x5)] [] (u, v, o, dd)) (x5 : Int32) (u v : MU) (o : Nat → Int64) (dd : Nat → UInt64) (h : wb_law_2325 xs L L28 x5 u v o dd) : WM p l e room_1 s m args below meth c g 9 (cz + 1) (sz + 6) Qz 2325 [(0, .ref b), (1, .ref (g.2.2.1 0)), (2, .ref (g.2.2.1 117)), (3, .ref (g.2.2.1 131)), (4, .ref (g.2.2.1 132)), (5, .int x5)] [] (u, v, o, dd) := by
  unfold wb_law_2325 at h
  refine zm_goto (tgt := 2328) C dL_law_2325 (by decide) ?_
  exact zm_widen (by omega) (by omega) (zm_sub [0, 1, 2, 3, 4, 5] rfl (vb_law_2328 C hX hbl hbA hcz hsz hstk hL28 _ _ _ _ _ h))
def wb_law_2284 (xs : Nat → Int32) (L : Nat) (L28 : Int32 → MU → MU → (Nat → Int64) → (Nat → UInt64) → Prop) (x5 : Int32) (u v : MU) (o : Nat → Int64) (dd : Nat → UInt64) : Prop := w_L_restore  u o (fun r_1 u_2 o_3 => w_X10_restore  v (fun r_4 u_5 => w_X10_thrown u_5  (fun r_6 => ((r_6 = r_1) → ((¬ r_1 = 0) → wb_law_2325 xs L L28 x5 u_2 u_5 o_3 dd) ∧ ((r_1 = 0) → (((lg_cmp (o_3 ((0 : Int32)).toNatClampNeg) r_4.toInt64) = 0) → wb_law_2325 xs L L28 x5 u_2 u_5 o_3 dd) ∧ ((¬ (lg_cmp (o_3 ((0 : Int32)).toNatClampNeg) r_4.toInt64) = 0) → False))) ∧ ((¬ r_6 = r_1) → False))))
set_option maxHeartbeats 4000000 in
set_option maxRecDepth 100000 in
theorem vb_law_2284 {p : Program} {l : Launch} {e : Env} {s : State} {m : MethodId} {args : Array Value} {below : List Frame} {meth : Method} {c : Code} {g : GE} {Qz : State → Prop} {b L : Nat} {xs : Nat → Int32} (C : zCx p l s m args meth c g RL cL_law 9) (hX : va_X b L xs s s.heap) (hbl : b < s.heap.size) (hbA : ¬ zA g b) {cz sz : Nat} (hcz : cz + 2 ≤ 603072) (hsz : sz + 12 ≤ 7207018) (hstk : l.stackTraces = false) {L28 : Int32 → MU → MU → (Nat → Int64) → (Nat → UInt64) → Prop} (hL28 : ∀ (x5 : Int32) (u v : MU) (o : Nat → Int64) (dd : Nat → UInt64), L28 x5 u v o dd → WM p l e room_1 s m args below meth c g 9 (cz + 2) (sz + 12) Qz 28 [(0, .ref b), (1, .ref (g.2.2.1 0)), (2, .ref (g.2.2.1 117)), (3, .ref (g.2.2.1 131)), (4, .ref (g.2.2.1 132)), (5, .int x5)] [] (u, v, o, dd)) (x5 : Int32) (u v : MU) (o : Nat → Int64) (dd : Nat → UInt64) (h : wb_law_2284 xs L L28 x5 u v o dd) : WM p l e room_1 s m args below meth c g 9 cz sz Qz 2284 [(0, .ref b), (1, .ref (g.2.2.1 0)), (2, .ref (g.2.2.1 117)), (3, .ref (g.2.2.1 131)), (4, .ref (g.2.2.1 132)), (5, .int x5)] [] (u, v, o, dd) := by
  unfold wb_law_2284 at h
  refine zm_aload_n C dL_law_2284 rfl 1 rfl ?_
  refine zm_aload_n C dL_law_2285 rfl 3 rfl ?_
  refine zm_ci (zr_SW (As := [.ref (g.2.2.1 0), .ref (g.2.2.1 131)]) (rest := []) C (c_L_restore l hstk g u v o dd  h) wd_1083 wd_1084 wd_0 wd_1085 hz_L_restore rfl rfl ⟨by decide, by decide⟩ ⟨(show cz + 1 ≤ 603072 by omega), (show sz + 6 ≤ 7207018 by omega)⟩ rfl rfl (Nat.le_of_ble_eq_true rfl) dL_law_2286) (fun r_1 M1 hq => ?_)
  obtain ⟨u_2, o_3, rfl, h⟩ := hq
  refine zm_istore (lv' := [(6, .int r_1), (0, .ref b), (1, .ref (g.2.2.1 0)), (2, .ref (g.2.2.1 117)), (3, .ref (g.2.2.1 131)), (4, .ref (g.2.2.1 132)), (5, .int x5)]) C dL_law_2289 (by decide) rfl ?_
  refine zm_aload_n C dL_law_2291 rfl 3 rfl ?_
  refine zm_ci (zr_V (As := []) (rest := []) C (c_X10_restore l g u_2 v (o_3, dd)  h) wd_1476 wd_1477 wd_1478 wd_11 wd_1479 hy_X10_restore rfl rfl ⟨by decide, by decide⟩ ⟨(show (cz + 1) + 0 ≤ 603072 by omega), (show (sz + 6) + 0 ≤ 7207018 by omega)⟩ (ci := 10) (by decide) (zCell_k kd_117) rfl rfl rfl rfl (Nat.le_of_ble_eq_true rfl) dL_law_2292) (fun r_4 M1 hq => ?_)
  obtain ⟨u_5, rfl, h⟩ := hq
  refine zm_istore (lv' := [(7, .int r_4), (6, .int r_1), (0, .ref b), (1, .ref (g.2.2.1 0)), (2, .ref (g.2.2.1 117)), (3, .ref (g.2.2.1 131)), (4, .ref (g.2.2.1 132)), (5, .int x5)]) C dL_law_2295 (by decide) rfl ?_
  refine zm_aload_n C dL_law_2297 rfl 4 rfl ?_
  refine zm_ci (zr_V (As := []) (rest := []) C (c_X10_thrown l g u_2 u_5 (o_3, dd)  h) wd_1176 wd_1177 wd_1178 wd_11 wd_1179 hy_X10_thrown rfl rfl ⟨by decide, by decide⟩ ⟨(show (cz + 1) + 0 ≤ 603072 by omega), (show (sz + 6) + 0 ≤ 7207018 by omega)⟩ (ci := 10) (by decide) (zCell_k kd_117) rfl rfl rfl rfl (Nat.le_of_ble_eq_true rfl) dL_law_2298) (fun r_6 M1 hq => ?_)
  obtain ⟨rfl, h⟩ := hq
  refine zm_iload C dL_law_2301 1 rfl ?_
  refine zm_icmp_eq (tgt := 2308) C dL_law_2303 (by decide) (fun hc_8 => ?_) (fun hc_8 => ?_)
  · have h := h.1 hc_8
    refine zm_iload C dL_law_2308 1 rfl ?_
    refine zm_if_ne (tgt := 2325) C dL_law_2310 (by decide) (fun hc_9 => ?_) (fun hc_9 => ?_)
    · have h := h.1 hc_9
      exact (zm_sub [2, 3, 4, 5, 6, 7] rfl (vb_law_2325 C hX hbl hbA hcz hsz hstk hL28 _ _ _ _ _ h))
    · have h := h.2 hc_9
      refine zm_aload_n C dL_law_2313 rfl 5 rfl ?_
      refine zm_iconst (v := 0) C dL_law_2314 (by decide) ?_
      refine zm_ldL C zIn01 dL_law_2315 ?_
      refine zm_iload C dL_law_2316 0 rfl ?_
      refine zm_i2l C dL_law_2318 ?_
      refine zm_lcmp C dL_law_2319 ?_
      refine zm_if_eq (tgt := 2325) C dL_law_2320 (by decide) (fun hc_10 => ?_) (fun hc_10 => ?_)
      · have h := h.1 hc_10
        exact (zm_sub [2, 3, 4, 5, 6, 7] rfl (vb_law_2325 C hX hbl hbA hcz hsz hstk hL28 _ _ _ _ _ h))
      · have h := h.2 hc_10
        refine zm_iconst (v := 0) C dL_law_2323 (by decide) ?_
        exact h.elim
  · have h := h.2 hc_8
    refine zm_iconst (v := 0) C dL_law_2306 (by decide) ?_
    exact h.elim
def wh_law (xs : Nat → Int32) (L : Nat) (L28 : Int32 → MU → MU → (Nat → Int64) → (Nat → UInt64) → Prop) (x5 : Int32) (u v : MU) (o : Nat → Int64) (dd : Nat → UInt64) : Prop := ((((Int32.ofNat L) - (5 : Int32)) < x5) → True) ∧ ((¬ ((Int32.ofNat L) - (5 : Int32)) < x5) → vp_in x5 L ∧ (∀ w_3, w_3 = ((xs (x5).toNatClampNeg) &&& (63 : Int32)) → (w_3 = (0 : Int32) → wb_law_204 xs L L28 x5 u v o dd) ∧ (¬ w_3 = (0 : Int32) → (w_3 = (1 : Int32) → wb_law_248 xs L L28 x5 u v o dd) ∧ (¬ w_3 = (1 : Int32) → (w_3 = (2 : Int32) → wb_law_316 xs L L28 x5 u v o dd) ∧ (¬ w_3 = (2 : Int32) → (w_3 = (3 : Int32) → wb_law_384 xs L L28 x5 u v o dd) ∧ (¬ w_3 = (3 : Int32) → (w_3 = (4 : Int32) → wb_law_468 xs L L28 x5 u v o dd) ∧ (¬ w_3 = (4 : Int32) → (w_3 = (5 : Int32) → wb_law_524 xs L L28 x5 u v o dd) ∧ (¬ w_3 = (5 : Int32) → (w_3 = (6 : Int32) → wb_law_580 xs L L28 x5 u v o dd) ∧ (¬ w_3 = (6 : Int32) → (w_3 = (7 : Int32) → wb_law_648 xs L L28 x5 u v o dd) ∧ (¬ w_3 = (7 : Int32) → (w_3 = (8 : Int32) → wb_law_704 xs L L28 x5 u v o dd) ∧ (¬ w_3 = (8 : Int32) → (w_3 = (9 : Int32) → wb_law_748 xs L L28 x5 u v o dd) ∧ (¬ w_3 = (9 : Int32) → (w_3 = (10 : Int32) → wb_law_856 xs L L28 x5 u v o dd) ∧ (¬ w_3 = (10 : Int32) → (w_3 = (11 : Int32) → wb_law_924 xs L L28 x5 u v o dd) ∧ (¬ w_3 = (11 : Int32) → (w_3 = (12 : Int32) → wb_law_980 xs L L28 x5 u v o dd) ∧ (¬ w_3 = (12 : Int32) → (w_3 = (13 : Int32) → wb_law_1076 xs L L28 x5 u v o dd) ∧ (¬ w_3 = (13 : Int32) → (w_3 = (14 : Int32) → wb_law_1132 xs L L28 x5 u v o dd) ∧ (¬ w_3 = (14 : Int32) → (w_3 = (15 : Int32) → wb_law_1212 xs L L28 x5 u v o dd) ∧ (¬ w_3 = (15 : Int32) → (w_3 = (16 : Int32) → wb_law_1268 xs L L28 x5 u v o dd) ∧ (¬ w_3 = (16 : Int32) → (w_3 = (17 : Int32) → wb_law_1352 xs L L28 x5 u v o dd) ∧ (¬ w_3 = (17 : Int32) → (w_3 = (18 : Int32) → wb_law_1424 xs L L28 x5 u v o dd) ∧ (¬ w_3 = (18 : Int32) → (w_3 = (19 : Int32) → wb_law_1480 xs L L28 x5 u v o dd) ∧ (¬ w_3 = (19 : Int32) → (w_3 = (20 : Int32) → wb_law_1548 xs L L28 x5 u v o dd) ∧ (¬ w_3 = (20 : Int32) → (w_3 = (21 : Int32) → wb_law_1604 xs L L28 x5 u v o dd) ∧ (¬ w_3 = (21 : Int32) → (w_3 = (22 : Int32) → wb_law_1672 xs L L28 x5 u v o dd) ∧ (¬ w_3 = (22 : Int32) → (w_3 = (23 : Int32) → wb_law_1756 xs L L28 x5 u v o dd) ∧ (¬ w_3 = (23 : Int32) → (w_3 = (24 : Int32) → wb_law_1800 xs L L28 x5 u v o dd) ∧ (¬ w_3 = (24 : Int32) → (w_3 = (25 : Int32) → wb_law_1858 xs L L28 x5 u v o dd) ∧ (¬ w_3 = (25 : Int32) → (w_3 = (26 : Int32) → wb_law_1902 xs L L28 x5 u v o dd) ∧ (¬ w_3 = (26 : Int32) → (w_3 = (27 : Int32) → wb_law_1915 xs L L28 x5 u v o dd) ∧ (¬ w_3 = (27 : Int32) → (w_3 = (28 : Int32) → wb_law_1971 xs L L28 x5 u v o dd) ∧ (¬ w_3 = (28 : Int32) → (w_3 = (29 : Int32) → wb_law_1984 xs L L28 x5 u v o dd) ∧ (¬ w_3 = (29 : Int32) → (w_3 = (30 : Int32) → wb_law_2040 xs L L28 x5 u v o dd) ∧ (¬ w_3 = (30 : Int32) → (w_3 = (31 : Int32) → wb_law_2105 xs L L28 x5 u v o dd) ∧ (¬ w_3 = (31 : Int32) → (w_3 = (32 : Int32) → wb_law_2171 xs L L28 x5 u v o dd) ∧ (¬ w_3 = (32 : Int32) → (w_3 = (33 : Int32) → wb_law_2227 xs L L28 x5 u v o dd) ∧ (¬ w_3 = (33 : Int32) → (w_3 = (34 : Int32) → wb_law_2271 xs L L28 x5 u v o dd) ∧ (¬ w_3 = (34 : Int32) → (w_3 = (35 : Int32) → wb_law_2284 xs L L28 x5 u v o dd) ∧ (¬ w_3 = (35 : Int32) → wb_law_2328 xs L L28 x5 u v o dd))))))))))))))))))))))))))))))))))))))
set_option maxHeartbeats 4000000 in
set_option maxRecDepth 100000 in
theorem vh_law {p : Program} {l : Launch} {e : Env} {s : State} {m : MethodId} {args : Array Value} {below : List Frame} {meth : Method} {c : Code} {g : GE} {Qz : State → Prop} {b L : Nat} {xs : Nat → Int32} (C : zCx p l s m args meth c g RL cL_law 9) (hX : va_X b L xs s s.heap) (hbl : b < s.heap.size) (hbA : ¬ zA g b) {cz sz : Nat} (hcz : cz + 2 ≤ 603072) (hsz : sz + 12 ≤ 7207018) (hstk : l.stackTraces = false) {L28 : Int32 → MU → MU → (Nat → Int64) → (Nat → UInt64) → Prop} (hL28 : ∀ (x5 : Int32) (u v : MU) (o : Nat → Int64) (dd : Nat → UInt64), L28 x5 u v o dd → WM p l e room_1 s m args below meth c g 9 (cz + 2) (sz + 12) Qz 28 [(0, .ref b), (1, .ref (g.2.2.1 0)), (2, .ref (g.2.2.1 117)), (3, .ref (g.2.2.1 131)), (4, .ref (g.2.2.1 132)), (5, .int x5)] [] (u, v, o, dd)) (hend : ∀ (x5 : Int32) (u v : MU) (o : Nat → Int64) (dd : Nat → UInt64), WM p l e room_1 s m args below meth c g 9 603072 7207018 Qz 2335 [(0, .ref b), (1, .ref (g.2.2.1 0)), (2, .ref (g.2.2.1 117)), (3, .ref (g.2.2.1 131)), (4, .ref (g.2.2.1 132)), (5, .int x5)] [.int 1] (u, v, o, dd)) (x5 : Int32) (u v : MU) (o : Nat → Int64) (dd : Nat → UInt64) (h : wh_law xs L L28 x5 u v o dd) : WM p l e room_1 s m args below meth c g 9 cz sz Qz 28 [(0, .ref b), (1, .ref (g.2.2.1 0)), (2, .ref (g.2.2.1 117)), (3, .ref (g.2.2.1 131)), (4, .ref (g.2.2.1 132)), (5, .int x5)] [] (u, v, o, dd) := by
  unfold wh_law at h
  refine zm_iload C dL_law_28 5 rfl ?_
  refine zm_aload_n C dL_law_30 rfl 0 rfl ?_
  refine zm_slen C hX hbl hbA dL_law_31 ?_
  refine zm_iconst (v := 5) C dL_law_32 (by decide) ?_
  refine zm_isub C dL_law_33 ?_
  refine zm_icmp_gt (tgt := 2334) C dL_law_34 (by decide) (fun hc_1 => ?_) (fun hc_1 => ?_)
  · have h := h.1 hc_1
    refine zm_iconst (v := 1) C dL_law_2334 (by decide) ?_
    exact zm_widen (by omega) (by omega) (hend _ _ _ _ _)
  · have h := h.2 hc_1
    refine zm_aload_n C dL_law_37 rfl 0 rfl ?_
    refine zm_iload C dL_law_38 5 rfl ?_
    obtain ⟨hg_2, h⟩ := h
    refine zm_sld C hX hbl hbA hg_2 dL_law_40 ?_
    refine zm_bipush (v := 63) C dL_law_41 (by decide) ?_
    refine zm_iand C dL_law_43 ?_
    refine zm_nmI (fun w_3 hw_3 => ?_)
    have h := h w_3 hw_3
    by_cases hc_4 : w_3 = (0 : Int32)
    · have h := h.1 hc_4
      refine zm_tableIn (tgt := 204) C dL_law_44 (by rw [hc_4]; decide) (by rw [hc_4]; decide) (by rw [hc_4]; rfl) (by decide) ?_
      exact (zm_sub [0, 1, 2, 3, 4, 5] rfl (vb_law_204 C hX hbl hbA hcz hsz hstk hL28 _ _ _ _ _ h))
    · have h := h.2 hc_4
      by_cases hc_5 : w_3 = (1 : Int32)
      · have h := h.1 hc_5
        refine zm_tableIn (tgt := 248) C dL_law_44 (by rw [hc_5]; decide) (by rw [hc_5]; decide) (by rw [hc_5]; rfl) (by decide) ?_
        exact (zm_sub [0, 1, 2, 3, 4, 5] rfl (vb_law_248 C hX hbl hbA hcz hsz hstk hL28 _ _ _ _ _ h))
      · have h := h.2 hc_5
        by_cases hc_6 : w_3 = (2 : Int32)
        · have h := h.1 hc_6
          refine zm_tableIn (tgt := 316) C dL_law_44 (by rw [hc_6]; decide) (by rw [hc_6]; decide) (by rw [hc_6]; rfl) (by decide) ?_
          exact (zm_sub [0, 1, 2, 3, 4, 5] rfl (vb_law_316 C hX hbl hbA hcz hsz hstk hL28 _ _ _ _ _ h))
        · have h := h.2 hc_6
          by_cases hc_7 : w_3 = (3 : Int32)
          · have h := h.1 hc_7
            refine zm_tableIn (tgt := 384) C dL_law_44 (by rw [hc_7]; decide) (by rw [hc_7]; decide) (by rw [hc_7]; rfl) (by decide) ?_
            exact (zm_sub [0, 1, 2, 3, 4, 5] rfl (vb_law_384 C hX hbl hbA hcz hsz hstk hL28 _ _ _ _ _ h))
          · have h := h.2 hc_7
            by_cases hc_8 : w_3 = (4 : Int32)
            · have h := h.1 hc_8
              refine zm_tableIn (tgt := 468) C dL_law_44 (by rw [hc_8]; decide) (by rw [hc_8]; decide) (by rw [hc_8]; rfl) (by decide) ?_
              exact (zm_sub [0, 1, 2, 3, 4, 5] rfl (vb_law_468 C hX hbl hbA hcz hsz hstk hL28 _ _ _ _ _ h))
            · have h := h.2 hc_8
              by_cases hc_9 : w_3 = (5 : Int32)
              · have h := h.1 hc_9
                refine zm_tableIn (tgt := 524) C dL_law_44 (by rw [hc_9]; decide) (by rw [hc_9]; decide) (by rw [hc_9]; rfl) (by decide) ?_
                exact (zm_sub [0, 1, 2, 3, 4, 5] rfl (vb_law_524 C hX hbl hbA hcz hsz hstk hL28 _ _ _ _ _ h))
              · have h := h.2 hc_9
                by_cases hc_10 : w_3 = (6 : Int32)
                · have h := h.1 hc_10
                  refine zm_tableIn (tgt := 580) C dL_law_44 (by rw [hc_10]; decide) (by rw [hc_10]; decide) (by rw [hc_10]; rfl) (by decide) ?_
                  exact (zm_sub [0, 1, 2, 3, 4, 5] rfl (vb_law_580 C hX hbl hbA hcz hsz hstk hL28 _ _ _ _ _ h))
                · have h := h.2 hc_10
                  by_cases hc_11 : w_3 = (7 : Int32)
                  · have h := h.1 hc_11
                    refine zm_tableIn (tgt := 648) C dL_law_44 (by rw [hc_11]; decide) (by rw [hc_11]; decide) (by rw [hc_11]; rfl) (by decide) ?_
                    exact (zm_sub [0, 1, 2, 3, 4, 5] rfl (vb_law_648 C hX hbl hbA hcz hsz hstk hL28 _ _ _ _ _ h))
                  · have h := h.2 hc_11
                    by_cases hc_12 : w_3 = (8 : Int32)
                    · have h := h.1 hc_12
                      refine zm_tableIn (tgt := 704) C dL_law_44 (by rw [hc_12]; decide) (by rw [hc_12]; decide) (by rw [hc_12]; rfl) (by decide) ?_
                      exact (zm_sub [0, 1, 2, 3, 4, 5] rfl (vb_law_704 C hX hbl hbA hcz hsz hstk hL28 _ _ _ _ _ h))
                    · have h := h.2 hc_12
                      by_cases hc_13 : w_3 = (9 : Int32)
                      · have h := h.1 hc_13
                        refine zm_tableIn (tgt := 748) C dL_law_44 (by rw [hc_13]; decide) (by rw [hc_13]; decide) (by rw [hc_13]; rfl) (by decide) ?_
                        exact (zm_sub [0, 1, 2, 3, 4, 5] rfl (vb_law_748 C hX hbl hbA hcz hsz hstk hL28 _ _ _ _ _ h))
                      · have h := h.2 hc_13
                        by_cases hc_14 : w_3 = (10 : Int32)
                        · have h := h.1 hc_14
                          refine zm_tableIn (tgt := 856) C dL_law_44 (by rw [hc_14]; decide) (by rw [hc_14]; decide) (by rw [hc_14]; rfl) (by decide) ?_
                          exact (zm_sub [0, 1, 2, 3, 4, 5] rfl (vb_law_856 C hX hbl hbA hcz hsz hstk hL28 _ _ _ _ _ h))
                        · have h := h.2 hc_14
                          by_cases hc_15 : w_3 = (11 : Int32)
                          · have h := h.1 hc_15
                            refine zm_tableIn (tgt := 924) C dL_law_44 (by rw [hc_15]; decide) (by rw [hc_15]; decide) (by rw [hc_15]; rfl) (by decide) ?_
                            exact (zm_sub [0, 1, 2, 3, 4, 5] rfl (vb_law_924 C hX hbl hbA hcz hsz hstk hL28 _ _ _ _ _ h))
                          · have h := h.2 hc_15
                            by_cases hc_16 : w_3 = (12 : Int32)
                            · have h := h.1 hc_16
                              refine zm_tableIn (tgt := 980) C dL_law_44 (by rw [hc_16]; decide) (by rw [hc_16]; decide) (by rw [hc_16]; rfl) (by decide) ?_
                              exact (zm_sub [0, 1, 2, 3, 4, 5] rfl (vb_law_980 C hX hbl hbA hcz hsz hstk hL28 _ _ _ _ _ h))
                            · have h := h.2 hc_16
                              by_cases hc_17 : w_3 = (13 : Int32)
                              · have h := h.1 hc_17
                                refine zm_tableIn (tgt := 1076) C dL_law_44 (by rw [hc_17]; decide) (by rw [hc_17]; decide) (by rw [hc_17]; rfl) (by decide) ?_
                                exact (zm_sub [0, 1, 2, 3, 4, 5] rfl (vb_law_1076 C hX hbl hbA hcz hsz hstk hL28 _ _ _ _ _ h))
                              · have h := h.2 hc_17
                                by_cases hc_18 : w_3 = (14 : Int32)
                                · have h := h.1 hc_18
                                  refine zm_tableIn (tgt := 1132) C dL_law_44 (by rw [hc_18]; decide) (by rw [hc_18]; decide) (by rw [hc_18]; rfl) (by decide) ?_
                                  exact (zm_sub [0, 1, 2, 3, 4, 5] rfl (vb_law_1132 C hX hbl hbA hcz hsz hstk hL28 _ _ _ _ _ h))
                                · have h := h.2 hc_18
                                  by_cases hc_19 : w_3 = (15 : Int32)
                                  · have h := h.1 hc_19
                                    refine zm_tableIn (tgt := 1212) C dL_law_44 (by rw [hc_19]; decide) (by rw [hc_19]; decide) (by rw [hc_19]; rfl) (by decide) ?_
                                    exact (zm_sub [0, 1, 2, 3, 4, 5] rfl (vb_law_1212 C hX hbl hbA hcz hsz hstk hL28 _ _ _ _ _ h))
                                  · have h := h.2 hc_19
                                    by_cases hc_20 : w_3 = (16 : Int32)
                                    · have h := h.1 hc_20
                                      refine zm_tableIn (tgt := 1268) C dL_law_44 (by rw [hc_20]; decide) (by rw [hc_20]; decide) (by rw [hc_20]; rfl) (by decide) ?_
                                      exact (zm_sub [0, 1, 2, 3, 4, 5] rfl (vb_law_1268 C hX hbl hbA hcz hsz hstk hL28 _ _ _ _ _ h))
                                    · have h := h.2 hc_20
                                      by_cases hc_21 : w_3 = (17 : Int32)
                                      · have h := h.1 hc_21
                                        refine zm_tableIn (tgt := 1352) C dL_law_44 (by rw [hc_21]; decide) (by rw [hc_21]; decide) (by rw [hc_21]; rfl) (by decide) ?_
                                        exact (zm_sub [0, 1, 2, 3, 4, 5] rfl (vb_law_1352 C hX hbl hbA hcz hsz hstk hL28 _ _ _ _ _ h))
                                      · have h := h.2 hc_21
                                        by_cases hc_22 : w_3 = (18 : Int32)
                                        · have h := h.1 hc_22
                                          refine zm_tableIn (tgt := 1424) C dL_law_44 (by rw [hc_22]; decide) (by rw [hc_22]; decide) (by rw [hc_22]; rfl) (by decide) ?_
                                          exact (zm_sub [0, 1, 2, 3, 4, 5] rfl (vb_law_1424 C hX hbl hbA hcz hsz hstk hL28 _ _ _ _ _ h))
                                        · have h := h.2 hc_22
                                          by_cases hc_23 : w_3 = (19 : Int32)
                                          · have h := h.1 hc_23
                                            refine zm_tableIn (tgt := 1480) C dL_law_44 (by rw [hc_23]; decide) (by rw [hc_23]; decide) (by rw [hc_23]; rfl) (by decide) ?_
                                            exact (zm_sub [0, 1, 2, 3, 4, 5] rfl (vb_law_1480 C hX hbl hbA hcz hsz hstk hL28 _ _ _ _ _ h))
                                          · have h := h.2 hc_23
                                            by_cases hc_24 : w_3 = (20 : Int32)
                                            · have h := h.1 hc_24
                                              refine zm_tableIn (tgt := 1548) C dL_law_44 (by rw [hc_24]; decide) (by rw [hc_24]; decide) (by rw [hc_24]; rfl) (by decide) ?_
                                              exact (zm_sub [0, 1, 2, 3, 4, 5] rfl (vb_law_1548 C hX hbl hbA hcz hsz hstk hL28 _ _ _ _ _ h))
                                            · have h := h.2 hc_24
                                              by_cases hc_25 : w_3 = (21 : Int32)
                                              · have h := h.1 hc_25
                                                refine zm_tableIn (tgt := 1604) C dL_law_44 (by rw [hc_25]; decide) (by rw [hc_25]; decide) (by rw [hc_25]; rfl) (by decide) ?_
                                                exact (zm_sub [0, 1, 2, 3, 4, 5] rfl (vb_law_1604 C hX hbl hbA hcz hsz hstk hL28 _ _ _ _ _ h))
                                              · have h := h.2 hc_25
                                                by_cases hc_26 : w_3 = (22 : Int32)
                                                · have h := h.1 hc_26
                                                  refine zm_tableIn (tgt := 1672) C dL_law_44 (by rw [hc_26]; decide) (by rw [hc_26]; decide) (by rw [hc_26]; rfl) (by decide) ?_
                                                  exact (zm_sub [0, 1, 2, 3, 4, 5] rfl (vb_law_1672 C hX hbl hbA hcz hsz hstk hL28 _ _ _ _ _ h))
                                                · have h := h.2 hc_26
                                                  by_cases hc_27 : w_3 = (23 : Int32)
                                                  · have h := h.1 hc_27
                                                    refine zm_tableIn (tgt := 1756) C dL_law_44 (by rw [hc_27]; decide) (by rw [hc_27]; decide) (by rw [hc_27]; rfl) (by decide) ?_
                                                    exact (zm_sub [0, 1, 2, 3, 4, 5] rfl (vb_law_1756 C hX hbl hbA hcz hsz hstk hL28 _ _ _ _ _ h))
                                                  · have h := h.2 hc_27
                                                    by_cases hc_28 : w_3 = (24 : Int32)
                                                    · have h := h.1 hc_28
                                                      refine zm_tableIn (tgt := 1800) C dL_law_44 (by rw [hc_28]; decide) (by rw [hc_28]; decide) (by rw [hc_28]; rfl) (by decide) ?_
                                                      exact (zm_sub [0, 1, 2, 3, 4, 5] rfl (vb_law_1800 C hX hbl hbA hcz hsz hstk hL28 _ _ _ _ _ h))
                                                    · have h := h.2 hc_28
                                                      by_cases hc_29 : w_3 = (25 : Int32)
                                                      · have h := h.1 hc_29
                                                        refine zm_tableIn (tgt := 1858) C dL_law_44 (by rw [hc_29]; decide) (by rw [hc_29]; decide) (by rw [hc_29]; rfl) (by decide) ?_
                                                        exact (zm_sub [0, 1, 2, 3, 4, 5] rfl (vb_law_1858 C hX hbl hbA hcz hsz hstk hL28 _ _ _ _ _ h))
                                                      · have h := h.2 hc_29
                                                        by_cases hc_30 : w_3 = (26 : Int32)
                                                        · have h := h.1 hc_30
                                                          refine zm_tableIn (tgt := 1902) C dL_law_44 (by rw [hc_30]; decide) (by rw [hc_30]; decide) (by rw [hc_30]; rfl) (by decide) ?_
                                                          exact (zm_sub [0, 1, 2, 3, 4, 5] rfl (vb_law_1902 C hX hbl hbA hcz hsz hstk hL28 _ _ _ _ _ h))
                                                        · have h := h.2 hc_30
                                                          by_cases hc_31 : w_3 = (27 : Int32)
                                                          · have h := h.1 hc_31
                                                            refine zm_tableIn (tgt := 1915) C dL_law_44 (by rw [hc_31]; decide) (by rw [hc_31]; decide) (by rw [hc_31]; rfl) (by decide) ?_
                                                            exact (zm_sub [0, 1, 2, 3, 4, 5] rfl (vb_law_1915 C hX hbl hbA hcz hsz hstk hL28 _ _ _ _ _ h))
                                                          · have h := h.2 hc_31
                                                            by_cases hc_32 : w_3 = (28 : Int32)
                                                            · have h := h.1 hc_32
                                                              refine zm_tableIn (tgt := 1971) C dL_law_44 (by rw [hc_32]; decide) (by rw [hc_32]; decide) (by rw [hc_32]; rfl) (by decide) ?_
                                                              exact (zm_sub [0, 1, 2, 3, 4, 5] rfl (vb_law_1971 C hX hbl hbA hcz hsz hstk hL28 _ _ _ _ _ h))
                                                            · have h := h.2 hc_32
                                                              by_cases hc_33 : w_3 = (29 : Int32)
                                                              · have h := h.1 hc_33
                                                                refine zm_tableIn (tgt := 1984) C dL_law_44 (by rw [hc_33]; decide) (by rw [hc_33]; decide) (by rw [hc_33]; rfl) (by decide) ?_
                                                                exact (zm_sub [0, 1, 2, 3, 4, 5] rfl (vb_law_1984 C hX hbl hbA hcz hsz hstk hL28 _ _ _ _ _ h))
                                                              · have h := h.2 hc_33
                                                                by_cases hc_34 : w_3 = (30 : Int32)
                                                                · have h := h.1 hc_34
                                                                  refine zm_tableIn (tgt := 2040) C dL_law_44 (by rw [hc_34]; decide) (by rw [hc_34]; decide) (by rw [hc_34]; rfl) (by decide) ?_
                                                                  exact (zm_sub [0, 1, 2, 3, 4, 5] rfl (vb_law_2040 C hX hbl hbA hcz hsz hstk hL28 _ _ _ _ _ h))
                                                                · have h := h.2 hc_34
                                                                  by_cases hc_35 : w_3 = (31 : Int32)
                                                                  · have h := h.1 hc_35
                                                                    refine zm_tableIn (tgt := 2105) C dL_law_44 (by rw [hc_35]; decide) (by rw [hc_35]; decide) (by rw [hc_35]; rfl) (by decide) ?_
                                                                    exact (zm_sub [0, 1, 2, 3, 4, 5] rfl (vb_law_2105 C hX hbl hbA hcz hsz hstk hL28 _ _ _ _ _ h))
                                                                  · have h := h.2 hc_35
                                                                    by_cases hc_36 : w_3 = (32 : Int32)
                                                                    · have h := h.1 hc_36
                                                                      refine zm_tableIn (tgt := 2171) C dL_law_44 (by rw [hc_36]; decide) (by rw [hc_36]; decide) (by rw [hc_36]; rfl) (by decide) ?_
                                                                      exact (zm_sub [0, 1, 2, 3, 4, 5] rfl (vb_law_2171 C hX hbl hbA hcz hsz hstk hL28 _ _ _ _ _ h))
                                                                    · have h := h.2 hc_36
                                                                      by_cases hc_37 : w_3 = (33 : Int32)
                                                                      · have h := h.1 hc_37
                                                                        refine zm_tableIn (tgt := 2227) C dL_law_44 (by rw [hc_37]; decide) (by rw [hc_37]; decide) (by rw [hc_37]; rfl) (by decide) ?_
                                                                        exact (zm_sub [0, 1, 2, 3, 4, 5] rfl (vb_law_2227 C hX hbl hbA hcz hsz hstk hL28 _ _ _ _ _ h))
                                                                      · have h := h.2 hc_37
                                                                        by_cases hc_38 : w_3 = (34 : Int32)
                                                                        · have h := h.1 hc_38
                                                                          refine zm_tableIn (tgt := 2271) C dL_law_44 (by rw [hc_38]; decide) (by rw [hc_38]; decide) (by rw [hc_38]; rfl) (by decide) ?_
                                                                          exact (zm_sub [0, 1, 2, 3, 4, 5] rfl (vb_law_2271 C hX hbl hbA hcz hsz hstk hL28 _ _ _ _ _ h))
                                                                        · have h := h.2 hc_38
                                                                          by_cases hc_39 : w_3 = (35 : Int32)
                                                                          · have h := h.1 hc_39
                                                                            refine zm_tableIn (tgt := 2284) C dL_law_44 (by rw [hc_39]; decide) (by rw [hc_39]; decide) (by rw [hc_39]; rfl) (by decide) ?_
                                                                            exact (zm_sub [0, 1, 2, 3, 4, 5] rfl (vb_law_2284 C hX hbl hbA hcz hsz hstk hL28 _ _ _ _ _ h))
                                                                          · have h := h.2 hc_39
                                                                            have n0 := lv_neT (a := 0) hc_4 rfl
                                                                            have n1 := lv_neT (a := 1) hc_5 rfl
                                                                            have n2 := lv_neT (a := 2) hc_6 rfl
                                                                            have n3 := lv_neT (a := 3) hc_7 rfl
                                                                            have n4 := lv_neT (a := 4) hc_8 rfl
                                                                            have n5 := lv_neT (a := 5) hc_9 rfl
                                                                            have n6 := lv_neT (a := 6) hc_10 rfl
                                                                            have n7 := lv_neT (a := 7) hc_11 rfl
                                                                            have n8 := lv_neT (a := 8) hc_12 rfl
                                                                            have n9 := lv_neT (a := 9) hc_13 rfl
                                                                            have n10 := lv_neT (a := 10) hc_14 rfl
                                                                            have n11 := lv_neT (a := 11) hc_15 rfl
                                                                            have n12 := lv_neT (a := 12) hc_16 rfl
                                                                            have n13 := lv_neT (a := 13) hc_17 rfl
                                                                            have n14 := lv_neT (a := 14) hc_18 rfl
                                                                            have n15 := lv_neT (a := 15) hc_19 rfl
                                                                            have n16 := lv_neT (a := 16) hc_20 rfl
                                                                            have n17 := lv_neT (a := 17) hc_21 rfl
                                                                            have n18 := lv_neT (a := 18) hc_22 rfl
                                                                            have n19 := lv_neT (a := 19) hc_23 rfl
                                                                            have n20 := lv_neT (a := 20) hc_24 rfl
                                                                            have n21 := lv_neT (a := 21) hc_25 rfl
                                                                            have n22 := lv_neT (a := 22) hc_26 rfl
                                                                            have n23 := lv_neT (a := 23) hc_27 rfl
                                                                            have n24 := lv_neT (a := 24) hc_28 rfl
                                                                            have n25 := lv_neT (a := 25) hc_29 rfl
                                                                            have n26 := lv_neT (a := 26) hc_30 rfl
                                                                            have n27 := lv_neT (a := 27) hc_31 rfl
                                                                            have n28 := lv_neT (a := 28) hc_32 rfl
                                                                            have n29 := lv_neT (a := 29) hc_33 rfl
                                                                            have n30 := lv_neT (a := 30) hc_34 rfl
                                                                            have n31 := lv_neT (a := 31) hc_35 rfl
                                                                            have n32 := lv_neT (a := 32) hc_36 rfl
                                                                            have n33 := lv_neT (a := 33) hc_37 rfl
                                                                            have n34 := lv_neT (a := 34) hc_38 rfl
                                                                            have n35 := lv_neT (a := 35) hc_39 rfl
                                                                            refine zm_tableOut (tgt := 2328) C dL_law_44 (by omega) (by decide) ?_
                                                                            exact zm_widen (by omega) (by omega) (zm_sub [0, 1, 2, 3, 4, 5] rfl (vb_law_2328 C hX hbl hbA hcz hsz hstk hL28 _ _ _ _ _ h))
def wl_law (xs : Nat → Int32) (L : Nat) : Nat → Int32 → MU → MU → (Nat → Int64) → (Nat → UInt64) → Prop
  | 0, _, _, _, _, _ => False
  | n + 1, x5, u, v, o, dd => wh_law xs L (wl_law xs L n) x5 u v o dd
theorem vl_law {p : Program} {l : Launch} {e : Env} {s : State} {m : MethodId} {args : Array Value} {below : List Frame} {meth : Method} {c : Code} {g : GE} {Qz : State → Prop} {b L : Nat} {xs : Nat → Int32} (C : zCx p l s m args meth c g RL cL_law 9) (hX : va_X b L xs s s.heap) (hbl : b < s.heap.size) (hbA : ¬ zA g b) (hstk : l.stackTraces = false) (hend : ∀ (x5 : Int32) (u v : MU) (o : Nat → Int64) (dd : Nat → UInt64), WM p l e room_1 s m args below meth c g 9 603072 7207018 Qz 2335 [(0, .ref b), (1, .ref (g.2.2.1 0)), (2, .ref (g.2.2.1 117)), (3, .ref (g.2.2.1 131)), (4, .ref (g.2.2.1 132)), (5, .int x5)] [.int 1] (u, v, o, dd)) : ∀ (n : Nat), n ≤ 900 → ∀ (x5 : Int32) (u v : MU) (o : Nat → Int64) (dd : Nat → UInt64), wl_law xs L n x5 u v o dd → WM p l e room_1 s m args below meth c g 9 (2000 - 2 * n) (60000 - 12 * n) Qz 28 [(0, .ref b), (1, .ref (g.2.2.1 0)), (2, .ref (g.2.2.1 117)), (3, .ref (g.2.2.1 131)), (4, .ref (g.2.2.1 132)), (5, .int x5)] [] (u, v, o, dd) := by
  intro n
  induction n with
  | zero => intro _ _ _ _ _ _ h; exact h.elim
  | succ n ih =>
    intro hn x5 u v o dd h
    exact vh_law C hX hbl hbA (cz := 2000 - 2 * (n + 1)) (sz := 60000 - 12 * (n + 1)) (by omega) (by omega) hstk (fun x5 u v o dd h => by
      have k := ih (by omega) x5 u v o dd h
      rw [show 2000 - 2 * (n + 1) + 2 = 2000 - 2 * n by omega, show 60000 - 12 * (n + 1) + 12 = 60000 - 12 * n by omega]
      exact k) hend x5 u v o dd h
