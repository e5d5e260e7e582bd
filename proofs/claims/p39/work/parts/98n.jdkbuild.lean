theorem wx_0 : Cond.selects "java/lang/StringBuilder" (⟨"java/lang/AbstractStringBuilder", "ensureCapacityInternal", "(I)V"⟩ : MethodName) (⟨"java/lang/AbstractStringBuilder", "ensureCapacityInternal", "(I)V"⟩ : MethodName) ∈ TB := zTBx 0 rfl (by decide +kernel)
theorem wx_1 : Cond.selects "java/lang/StringBuilder" (⟨"java/lang/AbstractStringBuilder", "putStringAt", "(ILjava/lang/String;)V"⟩ : MethodName) (⟨"java/lang/AbstractStringBuilder", "putStringAt", "(ILjava/lang/String;)V"⟩ : MethodName) ∈ TB := zTBx 1 rfl (by decide +kernel)
theorem wx_2 : Cond.selects "java/lang/StringBuilder" (⟨"java/lang/AbstractStringBuilder", "inflateIfNeededFor", "(Ljava/lang/String;)V"⟩ : MethodName) (⟨"java/lang/AbstractStringBuilder", "inflateIfNeededFor", "(Ljava/lang/String;)V"⟩ : MethodName) ∈ TB := zTBx 2 rfl (by decide +kernel)
theorem wd_32 : (Jvm.Cond.initialized "java/lang/AbstractStringBuilder") ∈ TB := zTB 32 (by decide +kernel) (by decide +kernel)
theorem wd_33 : (Jvm.Cond.initialized "java/lang/StringBuilder") ∈ TB := zTB 33 (by decide +kernel) (by decide +kernel)
theorem wd_35 : (Jvm.Cond.initialized "java/util/Arrays") ∈ TB := zTB 35 (by decide +kernel) (by decide +kernel)
theorem wd_42 : (Jvm.Cond.instanceMethod ({ cls := "java/lang/Object", name := "<init>", desc := "()V" } : Jvm.MethodName)) ∈ TB := zTB 42 (by decide +kernel) (by decide +kernel)
theorem wd_43 : (Jvm.Cond.code ({ cls := "java/lang/Object", name := "<init>", desc := "()V" } : Jvm.MethodName) object_method_1_code (1 : Nat) (Option.none : Option Jvm.ClassFile.FieldType)) ∈ TB := zTB 43 (by decide +kernel) (by decide +kernel)
theorem wd_438 : (Jvm.Cond.arrayClass Jvm.ClassFile.FieldType.byte) ∈ TB := zTB 438 (by decide +kernel) (by decide +kernel)
theorem wd_537 : (Jvm.Cond.instantiable "java/lang/String" (4 : Nat)) ∈ TB := zTB 537 (by decide +kernel) (by decide +kernel)
theorem wd_1123 : (Jvm.Cond.methodLink "java/lang/StringBuilder" (1 : Nat) ({ cls := "java/lang/AbstractStringBuilder", name := "<init>", desc := "(I)V" } : Jvm.MethodName)) ∈ TB := zTB 1123 (by decide +kernel) (by decide +kernel)
theorem wd_1124 : (Jvm.Cond.instanceMethod ({ cls := "java/lang/AbstractStringBuilder", name := "<init>", desc := "(I)V" } : Jvm.MethodName)) ∈ TB := zTB 1124 (by decide +kernel) (by decide +kernel)
theorem wd_1125 : (Jvm.Cond.code ({ cls := "java/lang/AbstractStringBuilder", name := "<init>", desc := "(I)V" } : Jvm.MethodName) prog_14_method_2_code (2 : Nat) (Option.none : Option Jvm.ClassFile.FieldType)) ∈ TB := zTB 1125 (by decide +kernel) (by decide +kernel)
theorem wd_1126 : (Jvm.Cond.methodLink "java/lang/AbstractStringBuilder" (3 : Nat) ({ cls := "java/lang/Object", name := "<init>", desc := "()V" } : Jvm.MethodName)) ∈ TB := zTB 1126 (by decide +kernel) (by decide +kernel)
theorem wd_1127 : (Jvm.Cond.fieldLink "java/lang/AbstractStringBuilder" (18 : Nat) "java/lang/String" "COMPACT_STRINGS" "Z") ∈ TB := zTB 1127 (by decide +kernel) (by decide +kernel)
theorem wd_1136 : (Jvm.Cond.fieldLink "java/lang/AbstractStringBuilder" (15 : Nat) "java/lang/AbstractStringBuilder" "value" "[B") ∈ TB := zTB 1136 (by decide +kernel) (by decide +kernel)
theorem wd_1137 : (Jvm.Cond.fieldLink "java/lang/AbstractStringBuilder" (22 : Nat) "java/lang/AbstractStringBuilder" "coder" "B") ∈ TB := zTB 1137 (by decide +kernel) (by decide +kernel)
theorem wd_1139 : (Jvm.Cond.fieldLink "java/lang/AbstractStringBuilder" (79 : Nat) "java/lang/AbstractStringBuilder" "count" "I") ∈ TB := zTB 1139 (by decide +kernel) (by decide +kernel)
theorem wd_1148 : (Jvm.Cond.superclass "java/lang/StringBuilder" "java/lang/AbstractStringBuilder") ∈ TB := zTB 1148 (by decide +kernel) (by decide +kernel)
theorem wd_1154 : (Jvm.Cond.methodLink "java/lang/StringBuilder" (29 : Nat) ({ cls := "java/lang/AbstractStringBuilder", name := "append", desc := "(Ljava/lang/String;)Ljava/lang/AbstractStringBuilder;" } : Jvm.MethodName)) ∈ TB := zTB 1154 (by decide +kernel) (by decide +kernel)
theorem wd_1155 : (Jvm.Cond.instanceMethod ({ cls := "java/lang/AbstractStringBuilder", name := "append", desc := "(Ljava/lang/String;)Ljava/lang/AbstractStringBuilder;" } : Jvm.MethodName)) ∈ TB := zTB 1155 (by decide +kernel) (by decide +kernel)
theorem wd_1156 : (Jvm.Cond.code ({ cls := "java/lang/AbstractStringBuilder", name := "append", desc := "(Ljava/lang/String;)Ljava/lang/AbstractStringBuilder;" } : Jvm.MethodName) prog_14_method_22_code (3 : Nat) (Option.some (Jvm.ClassFile.FieldType.object "java/lang/AbstractStringBuilder"))) ∈ TB := zTB 1156 (by decide +kernel) (by decide +kernel)
theorem wd_1161 : (Jvm.Cond.methodLink "java/lang/AbstractStringBuilder" (100 : Nat) ({ cls := "java/lang/AbstractStringBuilder", name := "ensureCapacityInternal", desc := "(I)V" } : Jvm.MethodName)) ∈ TB := zTB 1161 (by decide +kernel) (by decide +kernel)
theorem wd_1163 : (Jvm.Cond.instanceMethod ({ cls := "java/lang/AbstractStringBuilder", name := "ensureCapacityInternal", desc := "(I)V" } : Jvm.MethodName)) ∈ TB := zTB 1163 (by decide +kernel) (by decide +kernel)
theorem wd_1164 : (Jvm.Cond.code ({ cls := "java/lang/AbstractStringBuilder", name := "ensureCapacityInternal", desc := "(I)V" } : Jvm.MethodName) prog_14_method_9_code (3 : Nat) (Option.none : Option Jvm.ClassFile.FieldType)) ∈ TB := zTB 1164 (by decide +kernel) (by decide +kernel)
theorem wd_1188 : (Jvm.Cond.methodLink "java/util/Arrays" (304 : Nat) ({ cls := "java/lang/Math", name := "min", desc := "(II)I" } : Jvm.MethodName)) ∈ TB := zTB 1188 (by decide +kernel) (by decide +kernel)
theorem wd_1189 : (Jvm.Cond.methodLink "java/util/Arrays" (150 : Nat) ({ cls := "java/lang/System", name := "arraycopy", desc := "(Ljava/lang/Object;ILjava/lang/Object;II)V" } : Jvm.MethodName)) ∈ TB := zTB 1189 (by decide +kernel) (by decide +kernel)
theorem wd_1190 : (Jvm.Cond.methodLink "java/lang/AbstractStringBuilder" (83 : Nat) ({ cls := "java/lang/AbstractStringBuilder", name := "isLatin1", desc := "()Z" } : Jvm.MethodName)) ∈ TB := zTB 1190 (by decide +kernel) (by decide +kernel)
theorem wd_1191 : (Jvm.Cond.instanceMethod ({ cls := "java/lang/AbstractStringBuilder", name := "isLatin1", desc := "()Z" } : Jvm.MethodName)) ∈ TB := zTB 1191 (by decide +kernel) (by decide +kernel)
theorem wd_1192 : (Jvm.Cond.sameMethod "java/lang/AbstractStringBuilder" "java/lang/AbstractStringBuilder" "isLatin1" "()Z") ∈ TB := zTB 1192 (by decide +kernel) (by decide +kernel)
theorem wd_1193 : (Jvm.Cond.selects "java/lang/StringBuilder" ({ cls := "java/lang/AbstractStringBuilder", name := "isLatin1", desc := "()Z" } : Jvm.MethodName) ({ cls := "java/lang/AbstractStringBuilder", name := "isLatin1", desc := "()Z" } : Jvm.MethodName)) ∈ TB := zTB 1193 (by decide +kernel) (by decide +kernel)
theorem wd_1194 : (Jvm.Cond.code ({ cls := "java/lang/AbstractStringBuilder", name := "isLatin1", desc := "()Z" } : Jvm.MethodName) prog_14_method_68_code (1 : Nat) (Option.some Jvm.ClassFile.FieldType.boolean)) ∈ TB := zTB 1194 (by decide +kernel) (by decide +kernel)
theorem wd_1221 : (Jvm.Cond.methodLink "java/lang/AbstractStringBuilder" (32 : Nat) ({ cls := "java/lang/String", name := "length", desc := "()I" } : Jvm.MethodName)) ∈ TB := zTB 1221 (by decide +kernel) (by decide +kernel)
theorem wd_1222 : (Jvm.Cond.instanceMethod ({ cls := "java/lang/String", name := "length", desc := "()I" } : Jvm.MethodName)) ∈ TB := zTB 1222 (by decide +kernel) (by decide +kernel)
theorem wd_1223 : (Jvm.Cond.selects "java/lang/String" ({ cls := "java/lang/String", name := "length", desc := "()I" } : Jvm.MethodName) ({ cls := "java/lang/String", name := "length", desc := "()I" } : Jvm.MethodName)) ∈ TB := zTB 1223 (by decide +kernel) (by decide +kernel)
theorem wd_1224 : (Jvm.Cond.code ({ cls := "java/lang/String", name := "length", desc := "()I" } : Jvm.MethodName) prog_32_method_54_code (1 : Nat) (Option.some Jvm.ClassFile.FieldType.int)) ∈ TB := zTB 1224 (by decide +kernel) (by decide +kernel)
theorem wd_1230 : (Jvm.Cond.methodLink "java/lang/AbstractStringBuilder" (208 : Nat) ({ cls := "java/lang/AbstractStringBuilder", name := "putStringAt", desc := "(ILjava/lang/String;)V" } : Jvm.MethodName)) ∈ TB := zTB 1230 (by decide +kernel) (by decide +kernel)
theorem wd_1232 : (Jvm.Cond.instanceMethod ({ cls := "java/lang/AbstractStringBuilder", name := "putStringAt", desc := "(ILjava/lang/String;)V" } : Jvm.MethodName)) ∈ TB := zTB 1232 (by decide +kernel) (by decide +kernel)
theorem wd_1233 : (Jvm.Cond.code ({ cls := "java/lang/AbstractStringBuilder", name := "putStringAt", desc := "(ILjava/lang/String;)V" } : Jvm.MethodName) prog_14_method_73_code (3 : Nat) (Option.none : Option Jvm.ClassFile.FieldType)) ∈ TB := zTB 1233 (by decide +kernel) (by decide +kernel)
theorem wd_1234 : (Jvm.Cond.methodLink "java/lang/AbstractStringBuilder" (397 : Nat) ({ cls := "java/lang/AbstractStringBuilder", name := "inflateIfNeededFor", desc := "(Ljava/lang/String;)V" } : Jvm.MethodName)) ∈ TB := zTB 1234 (by decide +kernel) (by decide +kernel)
theorem wd_1236 : (Jvm.Cond.instanceMethod ({ cls := "java/lang/AbstractStringBuilder", name := "inflateIfNeededFor", desc := "(Ljava/lang/String;)V" } : Jvm.MethodName)) ∈ TB := zTB 1236 (by decide +kernel) (by decide +kernel)
theorem wd_1237 : (Jvm.Cond.code ({ cls := "java/lang/AbstractStringBuilder", name := "inflateIfNeededFor", desc := "(Ljava/lang/String;)V" } : Jvm.MethodName) prog_14_method_71_code (2 : Nat) (Option.none : Option Jvm.ClassFile.FieldType)) ∈ TB := zTB 1237 (by decide +kernel) (by decide +kernel)
theorem wd_1238 : (Jvm.Cond.methodLink "java/lang/AbstractStringBuilder" (40 : Nat) ({ cls := "java/lang/String", name := "coder", desc := "()B" } : Jvm.MethodName)) ∈ TB := zTB 1238 (by decide +kernel) (by decide +kernel)
theorem wd_1258 : (Jvm.Cond.methodLink "java/lang/AbstractStringBuilder" (399 : Nat) ({ cls := "java/lang/String", name := "getBytes", desc := "([BIB)V" } : Jvm.MethodName)) ∈ TB := zTB 1258 (by decide +kernel) (by decide +kernel)
theorem wd_1259 : (Jvm.Cond.instanceMethod ({ cls := "java/lang/String", name := "getBytes", desc := "([BIB)V" } : Jvm.MethodName)) ∈ TB := zTB 1259 (by decide +kernel) (by decide +kernel)
theorem wd_1260 : (Jvm.Cond.selects "java/lang/String" ({ cls := "java/lang/String", name := "getBytes", desc := "([BIB)V" } : Jvm.MethodName) ({ cls := "java/lang/String", name := "getBytes", desc := "([BIB)V" } : Jvm.MethodName)) ∈ TB := zTB 1260 (by decide +kernel) (by decide +kernel)
theorem wd_1261 : (Jvm.Cond.code ({ cls := "java/lang/String", name := "getBytes", desc := "([BIB)V" } : Jvm.MethodName) prog_32_method_147_code (4 : Nat) (Option.none : Option Jvm.ClassFile.FieldType)) ∈ TB := zTB 1261 (by decide +kernel) (by decide +kernel)
theorem wd_1262 : (Jvm.Cond.methodLink "java/lang/String" (212 : Nat) ({ cls := "java/lang/System", name := "arraycopy", desc := "(Ljava/lang/Object;ILjava/lang/Object;II)V" } : Jvm.MethodName)) ∈ TB := zTB 1262 (by decide +kernel) (by decide +kernel)
theorem wd_1268 : (Jvm.Cond.methodLink "java/lang/StringBuilder" (53 : Nat) ({ cls := "java/lang/AbstractStringBuilder", name := "append", desc := "(I)Ljava/lang/AbstractStringBuilder;" } : Jvm.MethodName)) ∈ TB := zTB 1268 (by decide +kernel) (by decide +kernel)
theorem wd_1269 : (Jvm.Cond.instanceMethod ({ cls := "java/lang/AbstractStringBuilder", name := "append", desc := "(I)Ljava/lang/AbstractStringBuilder;" } : Jvm.MethodName)) ∈ TB := zTB 1269 (by decide +kernel) (by decide +kernel)
theorem wd_1270 : (Jvm.Cond.code ({ cls := "java/lang/AbstractStringBuilder", name := "append", desc := "(I)Ljava/lang/AbstractStringBuilder;" } : Jvm.MethodName) prog_14_method_32_code (4 : Nat) (Option.some (Jvm.ClassFile.FieldType.object "java/lang/AbstractStringBuilder"))) ∈ TB := zTB 1270 (by decide +kernel) (by decide +kernel)
theorem wd_1271 : (Jvm.Cond.methodLink "java/lang/AbstractStringBuilder" (245 : Nat) ({ cls := "java/lang/Integer", name := "stringSize", desc := "(I)I" } : Jvm.MethodName)) ∈ TB := zTB 1271 (by decide +kernel) (by decide +kernel)
theorem wd_1272 : (Jvm.Cond.static ({ cls := "java/lang/Integer", name := "stringSize", desc := "(I)I" } : Jvm.MethodName)) ∈ TB := zTB 1272 (by decide +kernel) (by decide +kernel)
theorem wd_1273 : (Jvm.Cond.code ({ cls := "java/lang/Integer", name := "stringSize", desc := "(I)I" } : Jvm.MethodName) prog_27_method_13_code (4 : Nat) (Option.some Jvm.ClassFile.FieldType.int)) ∈ TB := zTB 1273 (by decide +kernel) (by decide +kernel)
theorem wd_1274 : (Jvm.Cond.methodLink "java/lang/AbstractStringBuilder" (248 : Nat) ({ cls := "java/lang/Integer", name := "getChars", desc := "(II[B)I" } : Jvm.MethodName)) ∈ TB := zTB 1274 (by decide +kernel) (by decide +kernel)
theorem wd_1275 : (Jvm.Cond.static ({ cls := "java/lang/Integer", name := "getChars", desc := "(II[B)I" } : Jvm.MethodName)) ∈ TB := zTB 1275 (by decide +kernel) (by decide +kernel)
theorem wd_1276 : (Jvm.Cond.code ({ cls := "java/lang/Integer", name := "getChars", desc := "(II[B)I" } : Jvm.MethodName) prog_27_method_12_code (7 : Nat) (Option.some Jvm.ClassFile.FieldType.int)) ∈ TB := zTB 1276 (by decide +kernel) (by decide +kernel)
theorem wd_1277 : (Jvm.Cond.fieldLink "java/lang/Integer" (83 : Nat) "java/lang/Integer" "DigitOnes" "[B") ∈ TB := zTB 1277 (by decide +kernel) (by decide +kernel)
theorem wd_1279 : (Jvm.Cond.fieldLink "java/lang/Integer" (87 : Nat) "java/lang/Integer" "DigitTens" "[B") ∈ TB := zTB 1279 (by decide +kernel) (by decide +kernel)
theorem wd_1294 : (Jvm.Cond.classLink "java/lang/StringBuilder" (18 : Nat) "java/lang/String") ∈ TB := zTB 1294 (by decide +kernel) (by decide +kernel)
theorem wd_1295 : (Jvm.Cond.methodLink "java/lang/StringBuilder" (137 : Nat) ({ cls := "java/lang/String", name := "<init>", desc := "(Ljava/lang/StringBuilder;)V" } : Jvm.MethodName)) ∈ TB := zTB 1295 (by decide +kernel) (by decide +kernel)
theorem wd_1296 : (Jvm.Cond.instanceMethod ({ cls := "java/lang/String", name := "<init>", desc := "(Ljava/lang/StringBuilder;)V" } : Jvm.MethodName)) ∈ TB := zTB 1296 (by decide +kernel) (by decide +kernel)
theorem wd_1297 : (Jvm.Cond.code ({ cls := "java/lang/String", name := "<init>", desc := "(Ljava/lang/StringBuilder;)V" } : Jvm.MethodName) prog_32_method_53_code (2 : Nat) (Option.none : Option Jvm.ClassFile.FieldType)) ∈ TB := zTB 1297 (by decide +kernel) (by decide +kernel)
theorem wd_1298 : (Jvm.Cond.methodLink "java/lang/String" (489 : Nat) ({ cls := "java/lang/String", name := "<init>", desc := "(Ljava/lang/AbstractStringBuilder;Ljava/lang/Void;)V" } : Jvm.MethodName)) ∈ TB := zTB 1298 (by decide +kernel) (by decide +kernel)
theorem wd_1299 : (Jvm.Cond.instanceMethod ({ cls := "java/lang/String", name := "<init>", desc := "(Ljava/lang/AbstractStringBuilder;Ljava/lang/Void;)V" } : Jvm.MethodName)) ∈ TB := zTB 1299 (by decide +kernel) (by decide +kernel)
theorem wd_1300 : (Jvm.Cond.code ({ cls := "java/lang/String", name := "<init>", desc := "(Ljava/lang/AbstractStringBuilder;Ljava/lang/Void;)V" } : Jvm.MethodName) prog_32_method_150_code (5 : Nat) (Option.none : Option Jvm.ClassFile.FieldType)) ∈ TB := zTB 1300 (by decide +kernel) (by decide +kernel)
theorem wd_1301 : (Jvm.Cond.methodLink "java/lang/String" (1 : Nat) ({ cls := "java/lang/Object", name := "<init>", desc := "()V" } : Jvm.MethodName)) ∈ TB := zTB 1301 (by decide +kernel) (by decide +kernel)
theorem wd_1302 : (Jvm.Cond.methodLink "java/lang/String" (552 : Nat) ({ cls := "java/lang/AbstractStringBuilder", name := "getValue", desc := "()[B" } : Jvm.MethodName)) ∈ TB := zTB 1302 (by decide +kernel) (by decide +kernel)
theorem wd_1303 : (Jvm.Cond.instanceMethod ({ cls := "java/lang/AbstractStringBuilder", name := "getValue", desc := "()[B" } : Jvm.MethodName)) ∈ TB := zTB 1303 (by decide +kernel) (by decide +kernel)
theorem wd_1304 : (Jvm.Cond.sameMethod "java/lang/AbstractStringBuilder" "java/lang/AbstractStringBuilder" "getValue" "()[B") ∈ TB := zTB 1304 (by decide +kernel) (by decide +kernel)
theorem wd_1305 : (Jvm.Cond.selects "java/lang/StringBuilder" ({ cls := "java/lang/AbstractStringBuilder", name := "getValue", desc := "()[B" } : Jvm.MethodName) ({ cls := "java/lang/AbstractStringBuilder", name := "getValue", desc := "()[B" } : Jvm.MethodName)) ∈ TB := zTB 1305 (by decide +kernel) (by decide +kernel)
theorem wd_1306 : (Jvm.Cond.code ({ cls := "java/lang/AbstractStringBuilder", name := "getValue", desc := "()[B" } : Jvm.MethodName) prog_14_method_64_code (1 : Nat) (Option.some (Jvm.ClassFile.FieldType.array Jvm.ClassFile.FieldType.byte))) ∈ TB := zTB 1306 (by decide +kernel) (by decide +kernel)
theorem wd_1307 : (Jvm.Cond.methodLink "java/lang/String" (549 : Nat) ({ cls := "java/lang/AbstractStringBuilder", name := "length", desc := "()I" } : Jvm.MethodName)) ∈ TB := zTB 1307 (by decide +kernel) (by decide +kernel)
theorem wd_1308 : (Jvm.Cond.instanceMethod ({ cls := "java/lang/AbstractStringBuilder", name := "length", desc := "()I" } : Jvm.MethodName)) ∈ TB := zTB 1308 (by decide +kernel) (by decide +kernel)
theorem wd_1309 : (Jvm.Cond.sameMethod "java/lang/AbstractStringBuilder" "java/lang/AbstractStringBuilder" "length" "()I") ∈ TB := zTB 1309 (by decide +kernel) (by decide +kernel)
theorem wd_1310 : (Jvm.Cond.selects "java/lang/StringBuilder" ({ cls := "java/lang/AbstractStringBuilder", name := "length", desc := "()I" } : Jvm.MethodName) ({ cls := "java/lang/StringBuilder", name := "length", desc := "()I" } : Jvm.MethodName)) ∈ TB := zTB 1310 (by decide +kernel) (by decide +kernel)
theorem wd_1311 : (Jvm.Cond.instanceMethod ({ cls := "java/lang/StringBuilder", name := "length", desc := "()I" } : Jvm.MethodName)) ∈ TB := zTB 1311 (by decide +kernel) (by decide +kernel)
theorem wd_1312 : (Jvm.Cond.code ({ cls := "java/lang/StringBuilder", name := "length", desc := "()I" } : Jvm.MethodName) prog_33_method_93_code (1 : Nat) (Option.some Jvm.ClassFile.FieldType.int)) ∈ TB := zTB 1312 (by decide +kernel) (by decide +kernel)
theorem wd_1313 : (Jvm.Cond.methodLink "java/lang/StringBuilder" (343 : Nat) ({ cls := "java/lang/AbstractStringBuilder", name := "length", desc := "()I" } : Jvm.MethodName)) ∈ TB := zTB 1313 (by decide +kernel) (by decide +kernel)
theorem wd_1314 : (Jvm.Cond.code ({ cls := "java/lang/AbstractStringBuilder", name := "length", desc := "()I" } : Jvm.MethodName) prog_14_method_6_code (1 : Nat) (Option.some Jvm.ClassFile.FieldType.int)) ∈ TB := zTB 1314 (by decide +kernel) (by decide +kernel)
theorem wd_1315 : (Jvm.Cond.methodLink "java/lang/String" (1047 : Nat) ({ cls := "java/lang/AbstractStringBuilder", name := "isLatin1", desc := "()Z" } : Jvm.MethodName)) ∈ TB := zTB 1315 (by decide +kernel) (by decide +kernel)
theorem wd_1316 : (Jvm.Cond.methodLink "java/lang/String" (54 : Nat) ({ cls := "java/util/Arrays", name := "copyOfRange", desc := "([BII)[B" } : Jvm.MethodName)) ∈ TB := zTB 1316 (by decide +kernel) (by decide +kernel)
theorem wd_1317 : (Jvm.Cond.static ({ cls := "java/util/Arrays", name := "copyOfRange", desc := "([BII)[B" } : Jvm.MethodName)) ∈ TB := zTB 1317 (by decide +kernel) (by decide +kernel)
theorem wd_1318 : (Jvm.Cond.code ({ cls := "java/util/Arrays", name := "copyOfRange", desc := "([BII)[B" } : Jvm.MethodName) prog_41_method_132_code (3 : Nat) (Option.some (Jvm.ClassFile.FieldType.array Jvm.ClassFile.FieldType.byte))) ∈ TB := zTB 1318 (by decide +kernel) (by decide +kernel)
theorem wd_1319 : (Jvm.Cond.methodLink "java/util/Arrays" (339 : Nat) ({ cls := "java/util/Arrays", name := "copyOfRangeByte", desc := "([BII)[B" } : Jvm.MethodName)) ∈ TB := zTB 1319 (by decide +kernel) (by decide +kernel)
theorem wd_1320 : (Jvm.Cond.static ({ cls := "java/util/Arrays", name := "copyOfRangeByte", desc := "([BII)[B" } : Jvm.MethodName)) ∈ TB := zTB 1320 (by decide +kernel) (by decide +kernel)
theorem wd_1321 : (Jvm.Cond.code ({ cls := "java/util/Arrays", name := "copyOfRangeByte", desc := "([BII)[B" } : Jvm.MethodName) prog_41_method_133_code (5 : Nat) (Option.some (Jvm.ClassFile.FieldType.array Jvm.ClassFile.FieldType.byte))) ∈ TB := zTB 1321 (by decide +kernel) (by decide +kernel)
theorem wd_1322 : (Jvm.Cond.methodLink "java/util/Arrays" (343 : Nat) ({ cls := "java/util/Arrays", name := "checkLength", desc := "(II)V" } : Jvm.MethodName)) ∈ TB := zTB 1322 (by decide +kernel) (by decide +kernel)
theorem wd_1323 : (Jvm.Cond.static ({ cls := "java/util/Arrays", name := "checkLength", desc := "(II)V" } : Jvm.MethodName)) ∈ TB := zTB 1323 (by decide +kernel) (by decide +kernel)
theorem wd_1324 : (Jvm.Cond.code ({ cls := "java/util/Arrays", name := "checkLength", desc := "(II)V" } : Jvm.MethodName) prog_41_method_131_code (2 : Nat) (Option.none : Option Jvm.ClassFile.FieldType)) ∈ TB := zTB 1324 (by decide +kernel) (by decide +kernel)
theorem wd_1417 : (Jvm.Cond.sameMethod "java/lang/AbstractStringBuilder" "java/lang/AbstractStringBuilder" "append" "(Ljava/lang/String;)Ljava/lang/AbstractStringBuilder;") ∈ TB := zTB 1417 (by decide +kernel) (by decide +kernel)
theorem wd_1419 : (Jvm.Cond.sameMethod "java/lang/AbstractStringBuilder" "java/lang/AbstractStringBuilder" "ensureCapacityInternal" "(I)V") ∈ TB := zTB 1419 (by decide +kernel) (by decide +kernel)
theorem wd_1421 : (Jvm.Cond.sameMethod "java/lang/AbstractStringBuilder" "java/lang/AbstractStringBuilder" "putStringAt" "(ILjava/lang/String;)V") ∈ TB := zTB 1421 (by decide +kernel) (by decide +kernel)
theorem wd_1422 : (Jvm.Cond.sameMethod "java/lang/AbstractStringBuilder" "java/lang/AbstractStringBuilder" "inflateIfNeededFor" "(Ljava/lang/String;)V") ∈ TB := zTB 1422 (by decide +kernel) (by decide +kernel)
theorem wd_1424 : (Jvm.Cond.sameMethod "java/lang/AbstractStringBuilder" "java/lang/AbstractStringBuilder" "append" "(I)Ljava/lang/AbstractStringBuilder;") ∈ TB := zTB 1424 (by decide +kernel) (by decide +kernel)
theorem hz_J5_length_8abf5 : (yJ5_length_8abf5.cls ≠ "java/lang/invoke/MethodHandle" ∧ yJ5_length_8abf5.cls ≠ "java/lang/invoke/VarHandle" ∧ (parseMethodDescriptor yJ5_length_8abf5.desc).map (fun d => d.parameters.length) = some 0) := ⟨by decide +kernel, by decide +kernel, by decide +kernel⟩
theorem hy_J5_length_8abf5 : yJ5_length_8abf5.cls = RJ5 ∧ (yJ5_length_8abf5.cls ≠ "java/lang/invoke/MethodHandle" ∧ yJ5_length_8abf5.cls ≠ "java/lang/invoke/VarHandle" ∧ (parseMethodDescriptor yJ5_length_8abf5.desc).map (fun d => d.parameters.length) = some 0) := ⟨rfl, hz_J5_length_8abf5⟩
theorem hz_J5_inflateIfNeededFor_a7421 : (yJ5_inflateIfNeededFor_a7421.cls ≠ "java/lang/invoke/MethodHandle" ∧ yJ5_inflateIfNeededFor_a7421.cls ≠ "java/lang/invoke/VarHandle" ∧ (parseMethodDescriptor yJ5_inflateIfNeededFor_a7421.desc).map (fun d => d.parameters.length) = some 1) := ⟨by decide +kernel, by decide +kernel, by decide +kernel⟩
theorem hy_J5_inflateIfNeededFor_a7421 : yJ5_inflateIfNeededFor_a7421.cls = RJ5 ∧ (yJ5_inflateIfNeededFor_a7421.cls ≠ "java/lang/invoke/MethodHandle" ∧ yJ5_inflateIfNeededFor_a7421.cls ≠ "java/lang/invoke/VarHandle" ∧ (parseMethodDescriptor yJ5_inflateIfNeededFor_a7421.desc).map (fun d => d.parameters.length) = some 1) := ⟨rfl, hz_J5_inflateIfNeededFor_a7421⟩
theorem hz_J0_getBytes_840e7 : (yJ0_getBytes_840e7.cls ≠ "java/lang/invoke/MethodHandle" ∧ yJ0_getBytes_840e7.cls ≠ "java/lang/invoke/VarHandle" ∧ (parseMethodDescriptor yJ0_getBytes_840e7.desc).map (fun d => d.parameters.length) = some 3) := ⟨by decide +kernel, by decide +kernel, by decide +kernel⟩
theorem hy_J0_getBytes_840e7 : yJ0_getBytes_840e7.cls = RJ0 ∧ (yJ0_getBytes_840e7.cls ≠ "java/lang/invoke/MethodHandle" ∧ yJ0_getBytes_840e7.cls ≠ "java/lang/invoke/VarHandle" ∧ (parseMethodDescriptor yJ0_getBytes_840e7.desc).map (fun d => d.parameters.length) = some 3) := ⟨rfl, hz_J0_getBytes_840e7⟩
theorem hz_J0_length_8abf5 : (yJ0_length_8abf5.cls ≠ "java/lang/invoke/MethodHandle" ∧ yJ0_length_8abf5.cls ≠ "java/lang/invoke/VarHandle" ∧ (parseMethodDescriptor yJ0_length_8abf5.desc).map (fun d => d.parameters.length) = some 0) := ⟨by decide +kernel, by decide +kernel, by decide +kernel⟩
theorem hy_J0_length_8abf5 : yJ0_length_8abf5.cls = RJ0 ∧ (yJ0_length_8abf5.cls ≠ "java/lang/invoke/MethodHandle" ∧ yJ0_length_8abf5.cls ≠ "java/lang/invoke/VarHandle" ∧ (parseMethodDescriptor yJ0_length_8abf5.desc).map (fun d => d.parameters.length) = some 0) := ⟨rfl, hz_J0_length_8abf5⟩
theorem hz_J5_ensureCapacityInternal_d00df : (yJ5_ensureCapacityInternal_d00df.cls ≠ "java/lang/invoke/MethodHandle" ∧ yJ5_ensureCapacityInternal_d00df.cls ≠ "java/lang/invoke/VarHandle" ∧ (parseMethodDescriptor yJ5_ensureCapacityInternal_d00df.desc).map (fun d => d.parameters.length) = some 1) := ⟨by decide +kernel, by decide +kernel, by decide +kernel⟩
theorem hy_J5_ensureCapacityInternal_d00df : yJ5_ensureCapacityInternal_d00df.cls = RJ5 ∧ (yJ5_ensureCapacityInternal_d00df.cls ≠ "java/lang/invoke/MethodHandle" ∧ yJ5_ensureCapacityInternal_d00df.cls ≠ "java/lang/invoke/VarHandle" ∧ (parseMethodDescriptor yJ5_ensureCapacityInternal_d00df.desc).map (fun d => d.parameters.length) = some 1) := ⟨rfl, hz_J5_ensureCapacityInternal_d00df⟩
theorem hz_J5_putStringAt_47b60 : (yJ5_putStringAt_47b60.cls ≠ "java/lang/invoke/MethodHandle" ∧ yJ5_putStringAt_47b60.cls ≠ "java/lang/invoke/VarHandle" ∧ (parseMethodDescriptor yJ5_putStringAt_47b60.desc).map (fun d => d.parameters.length) = some 2) := ⟨by decide +kernel, by decide +kernel, by decide +kernel⟩
theorem hy_J5_putStringAt_47b60 : yJ5_putStringAt_47b60.cls = RJ5 ∧ (yJ5_putStringAt_47b60.cls ≠ "java/lang/invoke/MethodHandle" ∧ yJ5_putStringAt_47b60.cls ≠ "java/lang/invoke/VarHandle" ∧ (parseMethodDescriptor yJ5_putStringAt_47b60.desc).map (fun d => d.parameters.length) = some 2) := ⟨rfl, hz_J5_putStringAt_47b60⟩
theorem hz_J5_append_cf1ce : (yJ5_append_cf1ce.cls ≠ "java/lang/invoke/MethodHandle" ∧ yJ5_append_cf1ce.cls ≠ "java/lang/invoke/VarHandle" ∧ (parseMethodDescriptor yJ5_append_cf1ce.desc).map (fun d => d.parameters.length) = some 1) := ⟨by decide +kernel, by decide +kernel, by decide +kernel⟩
theorem hy_J5_append_cf1ce : yJ5_append_cf1ce.cls = RJ5 ∧ (yJ5_append_cf1ce.cls ≠ "java/lang/invoke/MethodHandle" ∧ yJ5_append_cf1ce.cls ≠ "java/lang/invoke/VarHandle" ∧ (parseMethodDescriptor yJ5_append_cf1ce.desc).map (fun d => d.parameters.length) = some 1) := ⟨rfl, hz_J5_append_cf1ce⟩
theorem hz_J6_stringSize_0f7a4 : (yJ6_stringSize_0f7a4.cls ≠ "java/lang/invoke/MethodHandle" ∧ yJ6_stringSize_0f7a4.cls ≠ "java/lang/invoke/VarHandle" ∧ (parseMethodDescriptor yJ6_stringSize_0f7a4.desc).map (fun d => d.parameters.length) = some 1) := ⟨by decide +kernel, by decide +kernel, by decide +kernel⟩
theorem hy_J6_stringSize_0f7a4 : yJ6_stringSize_0f7a4.cls = RJ6 ∧ (yJ6_stringSize_0f7a4.cls ≠ "java/lang/invoke/MethodHandle" ∧ yJ6_stringSize_0f7a4.cls ≠ "java/lang/invoke/VarHandle" ∧ (parseMethodDescriptor yJ6_stringSize_0f7a4.desc).map (fun d => d.parameters.length) = some 1) := ⟨rfl, hz_J6_stringSize_0f7a4⟩
theorem hz_J5_isLatin1_aae02 : (yJ5_isLatin1_aae02.cls ≠ "java/lang/invoke/MethodHandle" ∧ yJ5_isLatin1_aae02.cls ≠ "java/lang/invoke/VarHandle" ∧ (parseMethodDescriptor yJ5_isLatin1_aae02.desc).map (fun d => d.parameters.length) = some 0) := ⟨by decide +kernel, by decide +kernel, by decide +kernel⟩
theorem hy_J5_isLatin1_aae02 : yJ5_isLatin1_aae02.cls = RJ5 ∧ (yJ5_isLatin1_aae02.cls ≠ "java/lang/invoke/MethodHandle" ∧ yJ5_isLatin1_aae02.cls ≠ "java/lang/invoke/VarHandle" ∧ (parseMethodDescriptor yJ5_isLatin1_aae02.desc).map (fun d => d.parameters.length) = some 0) := ⟨rfl, hz_J5_isLatin1_aae02⟩
theorem hz_J6_getChars_ba4f3 : (yJ6_getChars_ba4f3.cls ≠ "java/lang/invoke/MethodHandle" ∧ yJ6_getChars_ba4f3.cls ≠ "java/lang/invoke/VarHandle" ∧ (parseMethodDescriptor yJ6_getChars_ba4f3.desc).map (fun d => d.parameters.length) = some 3) := ⟨by decide +kernel, by decide +kernel, by decide +kernel⟩
theorem hy_J6_getChars_ba4f3 : yJ6_getChars_ba4f3.cls = RJ6 ∧ (yJ6_getChars_ba4f3.cls ≠ "java/lang/invoke/MethodHandle" ∧ yJ6_getChars_ba4f3.cls ≠ "java/lang/invoke/VarHandle" ∧ (parseMethodDescriptor yJ6_getChars_ba4f3.desc).map (fun d => d.parameters.length) = some 3) := ⟨rfl, hz_J6_getChars_ba4f3⟩
theorem hz_J5_append_c97b9 : (yJ5_append_c97b9.cls ≠ "java/lang/invoke/MethodHandle" ∧ yJ5_append_c97b9.cls ≠ "java/lang/invoke/VarHandle" ∧ (parseMethodDescriptor yJ5_append_c97b9.desc).map (fun d => d.parameters.length) = some 1) := ⟨by decide +kernel, by decide +kernel, by decide +kernel⟩
theorem hy_J5_append_c97b9 : yJ5_append_c97b9.cls = RJ5 ∧ (yJ5_append_c97b9.cls ≠ "java/lang/invoke/MethodHandle" ∧ yJ5_append_c97b9.cls ≠ "java/lang/invoke/VarHandle" ∧ (parseMethodDescriptor yJ5_append_c97b9.desc).map (fun d => d.parameters.length) = some 1) := ⟨rfl, hz_J5_append_c97b9⟩
theorem hz_J5_init_d00df : (yJ5_init_d00df.cls ≠ "java/lang/invoke/MethodHandle" ∧ yJ5_init_d00df.cls ≠ "java/lang/invoke/VarHandle" ∧ (parseMethodDescriptor yJ5_init_d00df.desc).map (fun d => d.parameters.length) = some 1) := ⟨by decide +kernel, by decide +kernel, by decide +kernel⟩
theorem hy_J5_init_d00df : yJ5_init_d00df.cls = RJ5 ∧ (yJ5_init_d00df.cls ≠ "java/lang/invoke/MethodHandle" ∧ yJ5_init_d00df.cls ≠ "java/lang/invoke/VarHandle" ∧ (parseMethodDescriptor yJ5_init_d00df.desc).map (fun d => d.parameters.length) = some 1) := ⟨rfl, hz_J5_init_d00df⟩
theorem hz_J7_checkLength_df160 : (yJ7_checkLength_df160.cls ≠ "java/lang/invoke/MethodHandle" ∧ yJ7_checkLength_df160.cls ≠ "java/lang/invoke/VarHandle" ∧ (parseMethodDescriptor yJ7_checkLength_df160.desc).map (fun d => d.parameters.length) = some 2) := ⟨by decide +kernel, by decide +kernel, by decide +kernel⟩
theorem hy_J7_checkLength_df160 : yJ7_checkLength_df160.cls = RJ7 ∧ (yJ7_checkLength_df160.cls ≠ "java/lang/invoke/MethodHandle" ∧ yJ7_checkLength_df160.cls ≠ "java/lang/invoke/VarHandle" ∧ (parseMethodDescriptor yJ7_checkLength_df160.desc).map (fun d => d.parameters.length) = some 2) := ⟨rfl, hz_J7_checkLength_df160⟩
theorem hz_J7_copyOfRangeByte_39247 : (yJ7_copyOfRangeByte_39247.cls ≠ "java/lang/invoke/MethodHandle" ∧ yJ7_copyOfRangeByte_39247.cls ≠ "java/lang/invoke/VarHandle" ∧ (parseMethodDescriptor yJ7_copyOfRangeByte_39247.desc).map (fun d => d.parameters.length) = some 3) := ⟨by decide +kernel, by decide +kernel, by decide +kernel⟩
theorem hy_J7_copyOfRangeByte_39247 : yJ7_copyOfRangeByte_39247.cls = RJ7 ∧ (yJ7_copyOfRangeByte_39247.cls ≠ "java/lang/invoke/MethodHandle" ∧ yJ7_copyOfRangeByte_39247.cls ≠ "java/lang/invoke/VarHandle" ∧ (parseMethodDescriptor yJ7_copyOfRangeByte_39247.desc).map (fun d => d.parameters.length) = some 3) := ⟨rfl, hz_J7_copyOfRangeByte_39247⟩
theorem hz_J5_getValue_6d5f1 : (yJ5_getValue_6d5f1.cls ≠ "java/lang/invoke/MethodHandle" ∧ yJ5_getValue_6d5f1.cls ≠ "java/lang/invoke/VarHandle" ∧ (parseMethodDescriptor yJ5_getValue_6d5f1.desc).map (fun d => d.parameters.length) = some 0) := ⟨by decide +kernel, by decide +kernel, by decide +kernel⟩
theorem hy_J5_getValue_6d5f1 : yJ5_getValue_6d5f1.cls = RJ5 ∧ (yJ5_getValue_6d5f1.cls ≠ "java/lang/invoke/MethodHandle" ∧ yJ5_getValue_6d5f1.cls ≠ "java/lang/invoke/VarHandle" ∧ (parseMethodDescriptor yJ5_getValue_6d5f1.desc).map (fun d => d.parameters.length) = some 0) := ⟨rfl, hz_J5_getValue_6d5f1⟩
theorem hz_J4_length_8abf5 : (yJ4_length_8abf5.cls ≠ "java/lang/invoke/MethodHandle" ∧ yJ4_length_8abf5.cls ≠ "java/lang/invoke/VarHandle" ∧ (parseMethodDescriptor yJ4_length_8abf5.desc).map (fun d => d.parameters.length) = some 0) := ⟨by decide +kernel, by decide +kernel, by decide +kernel⟩
theorem hy_J4_length_8abf5 : yJ4_length_8abf5.cls = RJ4 ∧ (yJ4_length_8abf5.cls ≠ "java/lang/invoke/MethodHandle" ∧ yJ4_length_8abf5.cls ≠ "java/lang/invoke/VarHandle" ∧ (parseMethodDescriptor yJ4_length_8abf5.desc).map (fun d => d.parameters.length) = some 0) := ⟨rfl, hz_J4_length_8abf5⟩
theorem hz_J7_copyOfRange_39247 : (yJ7_copyOfRange_39247.cls ≠ "java/lang/invoke/MethodHandle" ∧ yJ7_copyOfRange_39247.cls ≠ "java/lang/invoke/VarHandle" ∧ (parseMethodDescriptor yJ7_copyOfRange_39247.desc).map (fun d => d.parameters.length) = some 3) := ⟨by decide +kernel, by decide +kernel, by decide +kernel⟩
theorem hy_J7_copyOfRange_39247 : yJ7_copyOfRange_39247.cls = RJ7 ∧ (yJ7_copyOfRange_39247.cls ≠ "java/lang/invoke/MethodHandle" ∧ yJ7_copyOfRange_39247.cls ≠ "java/lang/invoke/VarHandle" ∧ (parseMethodDescriptor yJ7_copyOfRange_39247.desc).map (fun d => d.parameters.length) = some 3) := ⟨rfl, hz_J7_copyOfRange_39247⟩
theorem hz_J0_init_db425 : (yJ0_init_db425.cls ≠ "java/lang/invoke/MethodHandle" ∧ yJ0_init_db425.cls ≠ "java/lang/invoke/VarHandle" ∧ (parseMethodDescriptor yJ0_init_db425.desc).map (fun d => d.parameters.length) = some 2) := ⟨by decide +kernel, by decide +kernel, by decide +kernel⟩
theorem hy_J0_init_db425 : yJ0_init_db425.cls = RJ0 ∧ (yJ0_init_db425.cls ≠ "java/lang/invoke/MethodHandle" ∧ yJ0_init_db425.cls ≠ "java/lang/invoke/VarHandle" ∧ (parseMethodDescriptor yJ0_init_db425.desc).map (fun d => d.parameters.length) = some 2) := ⟨rfl, hz_J0_init_db425⟩
theorem hz_J0_init_81219 : (yJ0_init_81219.cls ≠ "java/lang/invoke/MethodHandle" ∧ yJ0_init_81219.cls ≠ "java/lang/invoke/VarHandle" ∧ (parseMethodDescriptor yJ0_init_81219.desc).map (fun d => d.parameters.length) = some 1) := ⟨by decide +kernel, by decide +kernel, by decide +kernel⟩
theorem hy_J0_init_81219 : yJ0_init_81219.cls = RJ0 ∧ (yJ0_init_81219.cls ≠ "java/lang/invoke/MethodHandle" ∧ yJ0_init_81219.cls ≠ "java/lang/invoke/VarHandle" ∧ (parseMethodDescriptor yJ0_init_81219.desc).map (fun d => d.parameters.length) = some 1) := ⟨rfl, hz_J0_init_81219⟩
theorem zFs {f : Nat → Value} {fs : List Value} {N : Nat} (h : (List.range N).map f = (List.range N).map (vp_V fs)) : ∀ j, j < N → f j = vp_V fs j := fun j hj => by
  have h2 := congrArg (fun z => z[j]?) h
  simp only [List.getElem?_map, List.getElem?_range hj, Option.map_some] at h2
  exact Option.some.inj h2
section ZO
variable {p : Program} {l : Launch} {e : Env} {R : Room} {s : State} {m : MethodId} {args : Array Value} {below : List Frame} {meth : Method} {c : Code} {g : GE} {own : String} {cc : ByteArray} {nL cells slots mc ms : Nat} {Q : State → Prop} {pc : Nat} {lv lv' : List (Nat × Value)} {st st0 rest As : List Value} {ws : va_W} {a : Nat}
variable {y x : MethodName} {bytes : ByteArray} {mL index n : Nat} {ret : Option FieldType} {rm : Room} {Qc : Array Value → State → Outcome → State → Prop} {C0 owner : String} {Pc : Array Value → State → Prop} {free : Nat → Prop} {H : Heap} {locs : List Loc} {ls : Array Slot} {b : Nat}
theorem zMem6 {a b c d f g : Cond} (ha : a ∈ TB) (hb : b ∈ TB) (hc : c ∈ TB) (hd : d ∈ TB) (hf : f ∈ TB) (hg : g ∈ TB) : ∀ w ∈ [a, b, c, d, f, g], w ∈ TB := fun w h => by
  rcases List.mem_cons.mp h with h | h
  · rw [h]; exact ha
  · exact zMem5 hb hc hd hf hg w h
theorem zk_O (hx : p.tables.exec = Jvm.exec) (hb : c.code = cc) (hml : c.maxLocals = nL) (hown : s.vm.findClass own = some m.cls) (ht : ∀ w ∈ TB, w.before args s = true) (hM : Met l y (Cond.code y bytes mL ret :: TB) rm Pc Qc mc ms free) (w1 : Cond.methodLink own index x ∈ TB) (w0 : Cond.sameMethod x.cls owner x.name x.desc ∈ TB) (wi : Cond.instanceMethod ⟨owner, x.name, x.desc⟩ ∈ TB) (w3 : Cond.selects C0 x y ∈ TB) (w2 : Cond.instanceMethod y ∈ TB) (w4 : Cond.initialized y.cls ∈ TB) (w5 : Cond.code y bytes mL ret ∈ TB) {b0 : ByteArray} {m0 : Nat} {r0 : Option FieldType} (w6 : Cond.code ⟨owner, x.name, x.desc⟩ b0 m0 r0 ∈ TB) (hy : owner ≠ "java/lang/invoke/MethodHandle" ∧ owner ≠ "java/lang/invoke/VarHandle" ∧ (parseMethodDescriptor x.desc).map (fun d => d.parameters.length) = some n) (hrc : rm.cells = mc) (hrs : rm.slots = ms) (hR : rm.frames + 1 ≤ R.frames ∧ 8 + (mL + 11) + rm.locals ≤ R.locals) (hf : cells + mc ≤ R.cells ∧ slots + ms ≤ R.slots) (hpre : PreV s H C0 b Pc As) (hn : As.length = n) (hls : ls.size = nL) (hst : st0 = As.reverse ++ .ref b :: rest) (hroom : (rest.map fun v => v.category).sum ≤ 8) (d : decode cc pc = .ok (.invokevirtual index, 3)) : va_Run p l e R s m args below meth c H locs cells slots mc ms (F0 m pc ls st0) rest (Qc (.ref b :: As).toArray) free := va_runU ⟨hx, hb, hml, hown, ht⟩ hM (va_cwO n ht (zGoodA (zMem6 w1 w0 wi w3 w2 w4) (zGood1 w5)) rfl hrc hrs w6 hy hR) hpre rfl hn hls hst (lv_room hroom) d hf
end ZO
theorem zpr (m : Nat) : nI (m + 1) + Int32.ofInt (-1) = nI m := by rw [nI_succ, Int32.add_assoc, show (1 : Int32) + Int32.ofInt (-1) = 0 by decide, Int32.add_zero]
theorem zcap : ∀ k, k < 17 → nI k - 16 ≤ 0 := by decide +kernel
theorem zLit_b : ∀ q, q < 7 → (zLitB.getD q []).length ≤ 15 ∧ ∀ i, i < 15 → fits .byte (.int ((zLitB.getD q []).getD i 0)) = true := by decide +kernel
theorem zLit_fit {q : Nat} (hq : q < 7) (i : Nat) : fits .byte (.int ((zLitB.getD q []).getD i 0)) = true := by
  rcases Nat.lt_or_ge i 15 with h | h
  · exact (zLit_b q hq).2 i h
  · rw [List.getD_eq_getElem?_getD, List.getElem?_eq_none (Nat.le_trans (zLit_b q hq).1 h)]
    rfl
theorem zOnes_ok : ∀ r, r < 100 → vp_nar .byte (zOnes.getD r 0) = zOnes.getD r 0 ∧ fits .byte (.int (zOnes.getD r 0)) = true ∧ (r < 10 → zOnes.getD r 0 = nI (48 + r)) := by decide +kernel
theorem zTens_ok : ∀ r, r < 100 → vp_nar .byte (zTens.getD r 0) = zTens.getD r 0 ∧ fits .byte (.int (zTens.getD r 0)) = true := by decide +kernel
theorem zsetset {ws w1 w2 : va_W} {j : Nat} {x y : Nat × va_E} (h1 : w1 = ws.set j x) (h2 : w2 = w1.set j y) : w2 = ws.set j y := by rw [h2, h1, List.set_set]
/-- a StringBuilder's cell, with n letters -/
abbrev zSB (pb n : Nat) : va_E := .inr (10, [.ref pb, .int 0, .int 0, .int (nI n)])
abbrev zBY (g : GE) (N : Nat) (f : Nat → Int32) : va_E := .inl (g.2.1 5, N, .inl f)
abbrev zSTR (pb : Nat) : va_E := .inr (11, [.ref pb, .int 0, .int 0, .int 0])
abbrev rmJ_J5_length_8abf5 : Room := { frames := 0, cells := 0, slots := 0, locals := 0 }
set_option maxHeartbeats 4000000 in
set_option maxRecDepth 100000 in
theorem cJ_J5_length_8abf5 (l : Launch) (g : GE) {ws : va_W} {i sb pb n : Nat} (hi : ws[i]? = some (sb, .inr (10, [.ref pb, .int 0, .int 0, .int (nI n)]))) : Met l yJ5_length_8abf5 (.code yJ5_length_8abf5 cJ5_length_8abf5 1 (Option.some Jvm.ClassFile.FieldType.int) :: TB) rmJ_J5_length_8abf5 (zJc g ws [.ref sb]) (jQi g (fun r w => r = nI n ∧ w = ws)) 0 0 (zA g) := by
  refine zJet (own := RJ5) [(0, .ref sb)] (by decide +kernel) rfl (Nat.le_of_ble_eq_true rfl) rfl (fun p e s m args below meth c C hr hnm => ?_)
  refine zj_aload_n C dJ5_length_8abf5_0 rfl 0 rfl ?_
  refine zj_get (v := .int (nI n)) C iJ4 i hi rfl 3 (by decide) wd_1139 rfl rfl dJ5_length_8abf5_1 ?_
  exact zj_zret C hr (by rfl) dJ5_length_8abf5_4 ⟨rfl, rfl⟩
abbrev rmJ_J4_length_8abf5 : Room := { frames := 1, cells := 0, slots := 0, locals := 20 }
set_option maxHeartbeats 4000000 in
set_option maxRecDepth 100000 in
theorem cJ_J4_length_8abf5 (l : Launch) (g : GE) {ws : va_W} {i sb pb n : Nat} (hi : ws[i]? = some (sb, .inr (10, [.ref pb, .int 0, .int 0, .int (nI n)]))) : Met l yJ4_length_8abf5 (.code yJ4_length_8abf5 cJ4_length_8abf5 1 (Option.some Jvm.ClassFile.FieldType.int) :: TB) rmJ_J4_length_8abf5 (zJc g ws [.ref sb]) (jQi g (fun r w => r = nI n ∧ w = ws)) 0 0 (zA g) := by
  refine zJet (own := RJ4) [(0, .ref sb)] (by decide +kernel) rfl (Nat.le_of_ble_eq_true rfl) rfl (fun p e s m args below meth c C hr hnm => ?_)
  refine zj_aload_n C dJ4_length_8abf5_0 rfl 0 rfl ?_
  refine zj_ci (fun H locs ls hl hp hd hs => zk_SU (As := []) (rest := []) C.hx C.hb C.hml C.hown C.ht (cJ_J5_length_8abf5 l g hi) ⟨_, (C.hK.1 10 _ rfl).2⟩ wd_1313 wd_1309 wd_1148 wd_1308 wd_32 wd_1314 ⟨by decide +kernel, hz_J5_length_8abf5.2.2⟩ rfl rfl ⟨by decide, by decide⟩ ⟨by decide, by decide⟩ (zPreJV C hp hd hs hi rfl rfl []) rfl hl.1 rfl (Nat.le_of_ble_eq_true rfl) dJ4_length_8abf5_1) (fun r w0 hq0 => ?_)
  rw [hq0.1, hq0.2]
  exact zj_zret C hr (by rfl) dJ4_length_8abf5_4 ⟨rfl, rfl⟩
abbrev rmJ_J5_getValue_6d5f1 : Room := { frames := 0, cells := 0, slots := 0, locals := 0 }
set_option maxHeartbeats 4000000 in
set_option maxRecDepth 100000 in
theorem cJ_J5_getValue_6d5f1 (l : Launch) (g : GE) {ws : va_W} {i sb pb n : Nat} (hi : ws[i]? = some (sb, .inr (10, [.ref pb, .int 0, .int 0, .int (nI n)]))) : Met l yJ5_getValue_6d5f1 (.code yJ5_getValue_6d5f1 cJ5_getValue_6d5f1 1 (Option.some (Jvm.ClassFile.FieldType.array Jvm.ClassFile.FieldType.byte)) :: TB) rmJ_J5_getValue_6d5f1 (zJc g ws [.ref sb]) (jQr g (fun ra w => ra = pb ∧ w = ws)) 0 0 (zA g) := by
  refine zJet (own := RJ5) [(0, .ref sb)] (by decide +kernel) rfl (Nat.le_of_ble_eq_true rfl) rfl (fun p e s m args below meth c C hr hnm => ?_)
  refine zj_aload_n C dJ5_getValue_6d5f1_0 rfl 0 rfl ?_
  refine zj_get (v := .ref pb) C iJ4 i hi rfl 0 (by decide) wd_1136 rfl rfl dJ5_getValue_6d5f1_1 ?_
  exact zj_aret C hr (Or.inr ⟨_, rfl⟩) dJ5_getValue_6d5f1_4 ⟨rfl, rfl⟩
abbrev rmJ_J5_isLatin1_aae02 : Room := { frames := 0, cells := 0, slots := 0, locals := 0 }
set_option maxHeartbeats 4000000 in
set_option maxRecDepth 100000 in
theorem cJ_J5_isLatin1_aae02 (l : Launch) (g : GE) {ws : va_W} {i sb pb n : Nat} (hi : ws[i]? = some (sb, .inr (10, [.ref pb, .int 0, .int 0, .int (nI n)]))) : Met l yJ5_isLatin1_aae02 (.code yJ5_isLatin1_aae02 cJ5_isLatin1_aae02 1 (Option.some Jvm.ClassFile.FieldType.boolean) :: TB) rmJ_J5_isLatin1_aae02 (zJc g ws [.ref sb]) (jQi g (fun r w => r = 1 ∧ w = ws)) 0 0 (zA g) := by
  refine zJet (own := RJ5) [(0, .ref sb)] (by decide +kernel) rfl (Nat.le_of_ble_eq_true rfl) rfl (fun p e s m args below meth c C hr hnm => ?_)
  refine zj_gets C C.hjdk.1 wd_1127 dJ5_isLatin1_aae02_0 ?_
  refine zj_if_eq (tgt := 17) C dJ5_isLatin1_aae02_3 (by decide) (fun h => absurd h (by decide)) (fun _ => ?_)
  refine zj_aload_n C dJ5_isLatin1_aae02_6 rfl 0 rfl ?_
  refine zj_get (v := .int 0) C iJ4 i hi rfl 1 (by decide) wd_1137 rfl rfl dJ5_isLatin1_aae02_7 ?_
  refine zj_if_ne (tgt := 17) C dJ5_isLatin1_aae02_10 (by decide) (fun h => absurd h (by decide)) (fun _ => ?_)
  refine zj_iconst (v := 1) C dJ5_isLatin1_aae02_13 (by decide +kernel) ?_
  refine zj_goto (tgt := 18) C dJ5_isLatin1_aae02_14 (by decide) ?_
  exact zj_zret C hr (by decide +kernel) dJ5_isLatin1_aae02_18 ⟨rfl, rfl⟩
abbrev rmJ_J5_ensureCapacityInternal_d00df : Room := { frames := 0, cells := 0, slots := 0, locals := 0 }
set_option maxHeartbeats 4000000 in
set_option maxRecDepth 100000 in
theorem cJ_J5_ensureCapacityInternal_d00df (l : Launch) (g : GE) {ws : va_W} {i j sb pb n : Nat} {f : Nat → Int32} {k : Nat} (hi : ws[i]? = some (sb, .inr (10, [.ref pb, .int 0, .int 0, .int (nI n)]))) (hj : ws[j]? = some (pb, .inl (g.2.1 5, 16, .inl f))) (hk : k ≤ 16) : Met l yJ5_ensureCapacityInternal_d00df (.code yJ5_ensureCapacityInternal_d00df cJ5_ensureCapacityInternal_d00df 3 (Option.none : Option Jvm.ClassFile.FieldType) :: TB) rmJ_J5_ensureCapacityInternal_d00df (zJc g ws [.ref sb, .int (nI k)]) (jQv g (fun w => w = ws)) 0 0 (zA g) := by
  refine zJet (own := RJ5) [(0, .ref sb), (1, .int (nI k))] (by decide +kernel) rfl (Nat.le_of_ble_eq_true rfl) rfl (fun p e s m args below meth c C hr hnm => ?_)
  refine zj_aload_n C dJ5_ensureCapacityInternal_d00df_0 rfl 0 rfl ?_
  refine zj_get (v := .ref pb) C iJ4 i hi rfl 0 (by decide) wd_1136 rfl rfl dJ5_ensureCapacityInternal_d00df_1 ?_
  refine zj_alen C j hj (v := 16) rfl dJ5_ensureCapacityInternal_d00df_4 ?_
  refine zj_aload_n C dJ5_ensureCapacityInternal_d00df_5 rfl 0 rfl ?_
  refine zj_get (v := .int 0) C iJ4 i hi rfl 1 (by decide) wd_1137 rfl rfl dJ5_ensureCapacityInternal_d00df_6 ?_
  refine zj_ishr C dJ5_ensureCapacityInternal_d00df_9 ?_
  refine zj_nmI (y := 16) (by decide) ?_
  refine zj_istore_n (lv' := [(2, .int (16)), (0, .ref sb), (1, .int (nI k))]) C dJ5_ensureCapacityInternal_d00df_10 rfl (by decide) rfl ?_
  refine zj_iload_n C dJ5_ensureCapacityInternal_d00df_11 rfl 2 rfl ?_
  refine zj_iload_n C dJ5_ensureCapacityInternal_d00df_12 rfl 0 rfl ?_
  refine zj_isub C dJ5_ensureCapacityInternal_d00df_13 ?_
  refine zj_if_le (tgt := 38) C dJ5_ensureCapacityInternal_d00df_14 (by decide) (fun _ => ?_) (fun h => absurd (zcap k (by omega)) h)
  exact zj_vret C hr dJ5_ensureCapacityInternal_d00df_38 rfl
abbrev rmJ_J5_inflateIfNeededFor_a7421 : Room := { frames := 1, cells := 0, slots := 0, locals := 20 }
set_option maxHeartbeats 4000000 in
set_option maxRecDepth 100000 in
theorem cJ_J5_inflateIfNeededFor_a7421 (l : Launch) (g : GE) {ws : va_W} {i j sb pb n : Nat} {f : Nat → Int32} {q : Nat} (hi : ws[i]? = some (sb, .inr (10, [.ref pb, .int 0, .int 0, .int (nI n)]))) (hj : ws[j]? = some (pb, .inl (g.2.1 5, 16, .inl f))) (hq : q < 7) : Met l yJ5_inflateIfNeededFor_a7421 (.code yJ5_inflateIfNeededFor_a7421 cJ5_inflateIfNeededFor_a7421 2 (Option.none : Option Jvm.ClassFile.FieldType) :: TB) rmJ_J5_inflateIfNeededFor_a7421 (zJc g ws [.ref sb, .ref (g.2.2.2.2.2.2.1 q)]) (jQv g (fun w => w = ws)) 0 0 (zA g) := by
  refine zJet (own := RJ5) [(0, .ref sb), (1, .ref (g.2.2.2.2.2.2.1 q))] (by decide +kernel) rfl (Nat.le_of_ble_eq_true rfl) rfl (fun p e s m args below meth c C hr hnm => ?_)
  refine zj_gets C C.hjdk.1 wd_1127 dJ5_inflateIfNeededFor_a7421_0 ?_
  refine zj_if_eq (tgt := 21) C dJ5_inflateIfNeededFor_a7421_3 (by decide) (fun h => absurd h (by decide)) (fun _ => ?_)
  refine zj_aload_n C dJ5_inflateIfNeededFor_a7421_6 rfl 0 rfl ?_
  refine zj_get (v := .int 0) C iJ4 i hi rfl 1 (by decide) wd_1137 rfl rfl dJ5_inflateIfNeededFor_a7421_7 ?_
  refine zj_aload_n C dJ5_inflateIfNeededFor_a7421_10 rfl 1 rfl ?_
  refine zj_ciR (fun H locs ls hl hp hd hs => zk_V (As := []) (rest := [.int 0]) C.hx C.hb C.hml C.hown C.ht (cJ_J0_coder_7d493 l g (a := g.2.2.2.2.2.2.1 q) (pb := g.2.2.2.2.2.2.2 q) (bs := zLitB.getD q [])) wd_1238 wd_1226 wd_1227 wd_25 wd_1228 hy_J0_coder_7d493 rfl rfl ⟨by decide, by decide⟩ ⟨by decide, by decide⟩ (zPreRV C.hjdk hs (C.henv.1 q hq) zBm_str (zBstr (C.henv.1 q hq) hs)) rfl hl.1 rfl (Nat.le_of_ble_eq_true rfl) dJ5_inflateIfNeededFor_a7421_11) (fun r hq => ?_)
  subst hq
  refine zj_icmp_eq (tgt := 21) C dJ5_inflateIfNeededFor_a7421_14 (by decide) (fun _ => ?_) (fun h => absurd (rfl) h)
  exact zj_vret C hr dJ5_inflateIfNeededFor_a7421_21 rfl
abbrev rmJ_J0_getBytes_840e7 : Room := { frames := 1, cells := 0, slots := 0, locals := 69 }
set_option maxHeartbeats 4000000 in
set_option maxRecDepth 100000 in
theorem cJ_J0_getBytes_840e7 (l : Launch) (g : GE) {ws : va_W} {i j sb pb n : Nat} {f : Nat → Int32} {q : Nat} (hi : ws[i]? = some (sb, .inr (10, [.ref pb, .int 0, .int 0, .int (nI n)]))) (hj : ws[j]? = some (pb, .inl (g.2.1 5, 16, .inl f))) (hij : i ≠ j) (hq : q < 7) (hn : n + (zLitB.getD q []).length ≤ 16) : Met l yJ0_getBytes_840e7 (.code yJ0_getBytes_840e7 cJ0_getBytes_840e7 4 (Option.none : Option Jvm.ClassFile.FieldType) :: TB) rmJ_J0_getBytes_840e7 (zJc g ws [.ref (g.2.2.2.2.2.2.1 q), .ref pb, .int (nI n), .int 0]) (jQv g (fun w => w = ws.set j (pb, zBY g 16 (va_cpy (fun z => (zLitB.getD q []).getD z 0) f 0 n (zLitB.getD q []).length)))) 0 0 (zA g) := by
  refine zJet (own := RJ0) [(0, .ref (g.2.2.2.2.2.2.1 q)), (1, .ref pb), (2, .int (nI n)), (3, .int 0)] (by decide +kernel) rfl (Nat.le_of_ble_eq_true rfl) rfl (fun p e s m args below meth c C hr hnm => ?_)
  refine zj_aload_n C dJ0_getBytes_840e7_0 rfl 0 rfl ?_
  refine zj_ciR (fun H locs ls hl hp hd hs => zk_V (As := []) (rest := []) C.hx C.hb C.hml C.hown C.ht (cJ_J0_coder_7d493 l g (a := g.2.2.2.2.2.2.1 q) (pb := g.2.2.2.2.2.2.2 q) (bs := zLitB.getD q [])) wd_1225 wd_1226 wd_1227 wd_25 wd_1228 hy_J0_coder_7d493 rfl rfl ⟨by decide, by decide⟩ ⟨by decide, by decide⟩ (zPreRV C.hjdk hs (C.henv.1 q hq) zBm_str (zBstr (C.henv.1 q hq) hs)) rfl hl.1 rfl (Nat.le_of_ble_eq_true rfl) dJ0_getBytes_840e7_1) (fun r hq => ?_)
  subst hq
  refine zj_iload_n C dJ0_getBytes_840e7_4 rfl 3 rfl ?_
  refine zj_icmp_ne (tgt := 28) C dJ0_getBytes_840e7_5 (by decide) (fun h => absurd h (fun h => h rfl)) (fun _ => ?_)
  refine zj_aload_n C dJ0_getBytes_840e7_8 rfl 0 rfl ?_
  refine zj_tget C (C.henv.1 q hq).2.2.1 wd_1346 dJ0_getBytes_840e7_9 ?_
  refine zj_iconst (v := 0) C dJ0_getBytes_840e7_12 (by decide +kernel) ?_
  refine zj_aload_n C dJ0_getBytes_840e7_13 rfl 1 rfl ?_
  refine zj_iload_n C dJ0_getBytes_840e7_14 rfl 2 rfl ?_
  refine zj_iload_n C dJ0_getBytes_840e7_15 rfl 3 rfl ?_
  refine zj_ishl C dJ0_getBytes_840e7_16 ?_
  refine zj_nmI (y := nI n) (zsl0 _) ?_
  refine zj_aload_n C dJ0_getBytes_840e7_17 rfl 0 rfl ?_
  refine zj_tget C (C.henv.1 q hq).2.2.1 wd_1346 dJ0_getBytes_840e7_18 ?_
  refine zj_tlen C (C.henv.1 q hq).2.2.2 (v := nI (zLitB.getD q []).length) rfl dJ0_getBytes_840e7_21 ?_
  refine zj_copyt C wd_1262 wd_326 wd_325 wd_16 (C.henv.1 q hq).2.2.2 j hj (by decide) (nI_pos (by omega)) (nI_pos (by omega)) (by rw [nI_clamp (n := (zLitB.getD q []).length) (by omega)]; exact Nat.le_of_eq (Nat.zero_add _)) (by rw [nI_clamp (n := n) (by omega), nI_clamp (n := (zLitB.getD q []).length) (by omega)]; exact hn) (fun i _ => zLit_fit hq _) (by decide) (by decide) dJ0_getBytes_840e7_22 (fun w1 hw1 => ?_)
  rw [nI_clamp (n := n) (by omega), nI_clamp (n := (zLitB.getD q []).length) (by omega), show (0 : Int32).toNatClampNeg = 0 from rfl] at hw1
  have t2 := zl_ne (Ne.symm hij) hi hw1
  have t3 := zl_same hj hw1
  refine zj_goto (tgt := 43) C dJ0_getBytes_840e7_25 (by decide) ?_
  exact zj_vret C hr dJ0_getBytes_840e7_43 hw1
abbrev rmJ_J5_putStringAt_47b60 : Room := { frames := 2, cells := 0, slots := 0, locals := 92 }
set_option maxHeartbeats 4000000 in
set_option maxRecDepth 100000 in
theorem cJ_J5_putStringAt_47b60 (l : Launch) (g : GE) {ws : va_W} {i j sb pb n : Nat} {f : Nat → Int32} {q : Nat} (hi : ws[i]? = some (sb, .inr (10, [.ref pb, .int 0, .int 0, .int (nI n)]))) (hj : ws[j]? = some (pb, .inl (g.2.1 5, 16, .inl f))) (hij : i ≠ j) (hq : q < 7) (hn : n + (zLitB.getD q []).length ≤ 16) : Met l yJ5_putStringAt_47b60 (.code yJ5_putStringAt_47b60 cJ5_putStringAt_47b60 3 (Option.none : Option Jvm.ClassFile.FieldType) :: TB) rmJ_J5_putStringAt_47b60 (zJc g ws [.ref sb, .int (nI n), .ref (g.2.2.2.2.2.2.1 q)]) (jQv g (fun w => w = ws.set j (pb, zBY g 16 (va_cpy (fun z => (zLitB.getD q []).getD z 0) f 0 n (zLitB.getD q []).length)))) 0 0 (zA g) := by
  refine zJet (own := RJ5) [(0, .ref sb), (1, .int (nI n)), (2, .ref (g.2.2.2.2.2.2.1 q))] (by decide +kernel) rfl (Nat.le_of_ble_eq_true rfl) rfl (fun p e s m args below meth c C hr hnm => ?_)
  refine zj_aload_n C dJ5_putStringAt_47b60_0 rfl 0 rfl ?_
  refine zj_aload_n C dJ5_putStringAt_47b60_1 rfl 2 rfl ?_
  refine zj_cv (fun H locs ls hl hp hd hs => zk_U (As := [.ref (g.2.2.2.2.2.2.1 q)]) (rest := []) C.hx C.hb C.hml C.hown C.ht (cJ_J5_inflateIfNeededFor_a7421 l g hi hj hq) wd_1234 wd_1422 wx_2 wd_1236 wd_32 wd_1237 rfl ⟨by decide +kernel, by decide +kernel, hz_J5_inflateIfNeededFor_a7421.2.2⟩ rfl rfl ⟨by decide, by decide⟩ ⟨by decide, by decide⟩ (zPreJV C hp hd hs hi rfl rfl [.ref (g.2.2.2.2.2.2.1 q)]) rfl hl.1 rfl (Nat.le_of_ble_eq_true rfl) dJ5_putStringAt_47b60_2) (fun w0 hq0 => ?_)
  rw [hq0]
  refine zj_aload_n C dJ5_putStringAt_47b60_5 rfl 2 rfl ?_
  refine zj_aload_n C dJ5_putStringAt_47b60_6 rfl 0 rfl ?_
  refine zj_get (v := .ref pb) C iJ4 i hi rfl 0 (by decide) wd_1136 rfl rfl dJ5_putStringAt_47b60_7 ?_
  refine zj_iload_n C dJ5_putStringAt_47b60_10 rfl 1 rfl ?_
  refine zj_aload_n C dJ5_putStringAt_47b60_11 rfl 0 rfl ?_
  refine zj_get (v := .int 0) C iJ4 i hi rfl 1 (by decide) wd_1137 rfl rfl dJ5_putStringAt_47b60_12 ?_
  refine zj_cv (fun H locs ls hl hp hd hs => zk_V (As := [.ref pb, .int (nI n), .int 0]) (rest := []) C.hx C.hb C.hml C.hown C.ht (cJ_J0_getBytes_840e7 l g hi hj hij hq hn) wd_1258 wd_1259 wd_1260 wd_25 wd_1261 hy_J0_getBytes_840e7 rfl rfl ⟨by decide, by decide⟩ ⟨by decide, by decide⟩ ⟨zJc_blind, zRcv s ((C.henv.1 q hq).kept hs.2.1), (zPreJ C hp hd hs (.ref (g.2.2.2.2.2.2.1 q) :: [.ref pb, .int (nI n), .int 0])).2⟩ rfl hl.1 rfl (Nat.le_of_ble_eq_true rfl) dJ5_putStringAt_47b60_15) (fun w0 hq0 => ?_)
  obtain ⟨w1, hw1⟩ : ∃ z, z = w0 := ⟨_, rfl⟩
  rw [← hw1]
  rw [← hw1] at hq0
  have hw1 := hq0
  have t2 := zl_ne (Ne.symm hij) hi hw1
  have t3 := zl_same hj hw1
  exact zj_vret C hr dJ5_putStringAt_47b60_18 hw1
abbrev rmJ_J5_append_cf1ce : Room := { frames := 3, cells := 0, slots := 0, locals := 114 }
set_option maxHeartbeats 4000000 in
set_option maxRecDepth 100000 in
theorem cJ_J5_append_cf1ce (l : Launch) (g : GE) {ws : va_W} {i j sb pb n : Nat} {f : Nat → Int32} {q : Nat} (hi : ws[i]? = some (sb, .inr (10, [.ref pb, .int 0, .int 0, .int (nI n)]))) (hj : ws[j]? = some (pb, .inl (g.2.1 5, 16, .inl f))) (hij : i ≠ j) (hq : q < 7) (hn : n + (zLitB.getD q []).length ≤ 16) : Met l yJ5_append_cf1ce (.code yJ5_append_cf1ce cJ5_append_cf1ce 3 (Option.some (Jvm.ClassFile.FieldType.object "java/lang/AbstractStringBuilder")) :: TB) rmJ_J5_append_cf1ce (zJc g ws [.ref sb, .ref (g.2.2.2.2.2.2.1 q)]) (jQr g (fun ra w => ra = sb ∧ w = (ws.set j (pb, zBY g 16 (va_cpy (fun z => (zLitB.getD q []).getD z 0) f 0 n (zLitB.getD q []).length))).set i (sb, zSB pb (n + (zLitB.getD q []).length)))) 0 0 (zA g) := by
  refine zJet (own := RJ5) [(0, .ref sb), (1, .ref (g.2.2.2.2.2.2.1 q))] (by decide +kernel) rfl (Nat.le_of_ble_eq_true rfl) rfl (fun p e s m args below meth c C hr hnm => ?_)
  refine zj_aload_n C dJ5_append_cf1ce_0 rfl 1 rfl ?_
  refine zj_ifnonnull (tgt := 9) C dJ5_append_cf1ce_1 (by decide) ?_
  refine zj_aload_n C dJ5_append_cf1ce_9 rfl 1 rfl ?_
  refine zj_ciR (fun H locs ls hl hp hd hs => zk_V (As := []) (rest := []) C.hx C.hb C.hml C.hown C.ht (cJ_J0_length_8abf5 l g (a := g.2.2.2.2.2.2.1 q) (pb := g.2.2.2.2.2.2.2 q) (bs := zLitB.getD q [])) wd_1221 wd_1222 wd_1223 wd_25 wd_1224 hy_J0_length_8abf5 rfl rfl ⟨by decide, by decide⟩ ⟨by decide, by decide⟩ (zPreRV C.hjdk hs (C.henv.1 q hq) zBm_str (zBstr (C.henv.1 q hq) hs)) rfl hl.1 rfl (Nat.le_of_ble_eq_true rfl) dJ5_append_cf1ce_10) (fun r hq => ?_)
  subst hq
  refine zj_istore_n (lv' := [(2, .int (nI (zLitB.getD q []).length)), (0, .ref sb), (1, .ref (g.2.2.2.2.2.2.1 q))]) C dJ5_append_cf1ce_13 rfl (by decide) rfl ?_
  refine zj_aload_n C dJ5_append_cf1ce_14 rfl 1 rfl ?_
  refine zj_aload_n C dJ5_append_cf1ce_15 rfl 1 rfl ?_
  refine zj_get (v := .int (nI n)) C iJ4 i hi rfl 3 (by decide) wd_1139 rfl rfl dJ5_append_cf1ce_16 ?_
  refine zj_iload_n C dJ5_append_cf1ce_19 rfl 0 rfl ?_
  refine zj_iadd C dJ5_append_cf1ce_20 ?_
  refine zj_nmI (y := nI (n + (zLitB.getD q []).length)) (nI_add _ _) ?_
  refine zj_cv (fun H locs ls hl hp hd hs => zk_U (As := [.int (nI (n + (zLitB.getD q []).length))]) (rest := []) C.hx C.hb C.hml C.hown C.ht (cJ_J5_ensureCapacityInternal_d00df l g (k := n + (zLitB.getD q []).length) hi hj hn) wd_1161 wd_1419 wx_0 wd_1163 wd_32 wd_1164 rfl ⟨by decide +kernel, by decide +kernel, hz_J5_ensureCapacityInternal_d00df.2.2⟩ rfl rfl ⟨by decide, by decide⟩ ⟨by decide, by decide⟩ (zPreJV C hp hd hs hi rfl rfl [.int (nI (n + (zLitB.getD q []).length))]) rfl hl.1 rfl (Nat.le_of_ble_eq_true rfl) dJ5_append_cf1ce_21) (fun w0 hq0 => ?_)
  rw [hq0]
  refine zj_aload_n C dJ5_append_cf1ce_24 rfl 1 rfl ?_
  refine zj_aload_n C dJ5_append_cf1ce_25 rfl 1 rfl ?_
  refine zj_get (v := .int (nI n)) C iJ4 i hi rfl 3 (by decide) wd_1139 rfl rfl dJ5_append_cf1ce_26 ?_
  refine zj_aload_n C dJ5_append_cf1ce_29 rfl 2 rfl ?_
  refine zj_cv (fun H locs ls hl hp hd hs => zk_U (As := [.int (nI n), .ref (g.2.2.2.2.2.2.1 q)]) (rest := []) C.hx C.hb C.hml C.hown C.ht (cJ_J5_putStringAt_47b60 l g hi hj hij hq hn) wd_1230 wd_1421 wx_1 wd_1232 wd_32 wd_1233 rfl ⟨by decide +kernel, by decide +kernel, hz_J5_putStringAt_47b60.2.2⟩ rfl rfl ⟨by decide, by decide⟩ ⟨by decide, by decide⟩ (zPreJV C hp hd hs hi rfl rfl [.int (nI n), .ref (g.2.2.2.2.2.2.1 q)]) rfl hl.1 rfl (Nat.le_of_ble_eq_true rfl) dJ5_append_cf1ce_30) (fun w0 hq0 => ?_)
  obtain ⟨w1, hw1⟩ : ∃ z, z = w0 := ⟨_, rfl⟩
  rw [← hw1]
  rw [← hw1] at hq0
  have hw1 := hq0
  have t2 := zl_ne (Ne.symm hij) hi hw1
  have t3 := zl_same hj hw1
  refine zj_aload_n C dJ5_append_cf1ce_33 rfl 1 rfl ?_
  refine zj_dup C dJ5_append_cf1ce_34 rfl ?_
  refine zj_get (v := .int (nI n)) C iJ4 i t2 rfl 3 (by decide) wd_1139 rfl rfl dJ5_append_cf1ce_35 ?_
  refine zj_iload_n C dJ5_append_cf1ce_38 rfl 0 rfl ?_
  refine zj_iadd C dJ5_append_cf1ce_39 ?_
  refine zj_nmI (y := nI (n + (zLitB.getD q []).length)) (nI_add _ _) ?_
  refine zj_put C iJ4 tyJ4 tyJ4_ok nmJ4 i t2 rfl 3 (by decide) wd_1139 rfl rfl (ty := tyJ4 3) (by decide +kernel) rfl rfl (Nat.le_of_ble_eq_true rfl) dJ5_append_cf1ce_40 (fs1 := [.ref pb, .int 0, .int 0, .int (nI (n + (zLitB.getD q []).length))]) rfl (fun w4 hw4 => ?_)
  have t5 := zl_same t2 hw4
  have t6 := zl_ne hij t3 hw4
  refine zj_aload_n C dJ5_append_cf1ce_43 rfl 1 rfl ?_
  exact zj_aret C hr (Or.inl ⟨_, rfl⟩) dJ5_append_cf1ce_44 ⟨rfl, by rw [hw4, hw1]⟩
abbrev rmJ_J4_append_15ec4 : Room := { frames := 4, cells := 0, slots := 0, locals := 136 }
set_option maxHeartbeats 4000000 in
set_option maxRecDepth 100000 in
theorem cJ_J4_append_15ec4 (l : Launch) (g : GE) {ws : va_W} {i j sb pb n : Nat} {f : Nat → Int32} {q : Nat} (hi : ws[i]? = some (sb, .inr (10, [.ref pb, .int 0, .int 0, .int (nI n)]))) (hj : ws[j]? = some (pb, .inl (g.2.1 5, 16, .inl f))) (hij : i ≠ j) (hq : q < 7) (hn : n + (zLitB.getD q []).length ≤ 16) : Met l yJ4_append_15ec4 (.code yJ4_append_15ec4 cJ4_append_15ec4 2 (Option.some (Jvm.ClassFile.FieldType.object "java/lang/StringBuilder")) :: TB) rmJ_J4_append_15ec4 (zJc g ws [.ref sb, .ref (g.2.2.2.2.2.2.1 q)]) (jQr g (fun ra w => ra = sb ∧ w = (ws.set j (pb, zBY g 16 (va_cpy (fun z => (zLitB.getD q []).getD z 0) f 0 n (zLitB.getD q []).length))).set i (sb, zSB pb (n + (zLitB.getD q []).length)))) 0 0 (zA g) := by
  refine zJet (own := RJ4) [(0, .ref sb), (1, .ref (g.2.2.2.2.2.2.1 q))] (by decide +kernel) rfl (Nat.le_of_ble_eq_true rfl) rfl (fun p e s m args below meth c C hr hnm => ?_)
  refine zj_aload_n C dJ4_append_15ec4_0 rfl 0 rfl ?_
  refine zj_aload_n C dJ4_append_15ec4_1 rfl 1 rfl ?_
  refine zj_cr (fun H locs ls hl hp hd hs => zk_SU (As := [.ref (g.2.2.2.2.2.2.1 q)]) (rest := []) C.hx C.hb C.hml C.hown C.ht (cJ_J5_append_cf1ce l g hi hj hij hq hn) ⟨_, (C.hK.1 10 _ rfl).2⟩ wd_1154 wd_1417 wd_1148 wd_1155 wd_32 wd_1156 ⟨by decide +kernel, hz_J5_append_cf1ce.2.2⟩ rfl rfl ⟨by decide, by decide⟩ ⟨by decide, by decide⟩ (zPreJV C hp hd hs hi rfl rfl [.ref (g.2.2.2.2.2.2.1 q)]) rfl hl.1 rfl (Nat.le_of_ble_eq_true rfl) dJ4_append_15ec4_2) (fun ra w0 hq0 => ?_)
  refine zj_pop C dJ4_append_15ec4_5 rfl ?_
  refine zj_aload_n C dJ4_append_15ec4_6 rfl 0 rfl ?_
  exact zj_aret C hr (Or.inl ⟨_, rfl⟩) dJ4_append_15ec4_7 ⟨rfl, hq0.2⟩
abbrev rmJ_J6_getChars_ba4f3 : Room := { frames := 0, cells := 0, slots := 0, locals := 0 }
set_option maxHeartbeats 4000000 in
set_option maxRecDepth 100000 in
theorem cJ_J6_getChars_ba4f3 (l : Launch) (g : GE) {ws : va_W} {j pb n v : Nat} {f : Nat → Int32} (hj : ws[j]? = some (pb, .inl (g.2.1 5, 16, .inl f))) (hv : v < 10000) (hn : n + zDg v ≤ 16) : Met l yJ6_getChars_ba4f3 (.code yJ6_getChars_ba4f3 cJ6_getChars_ba4f3 7 (Option.some Jvm.ClassFile.FieldType.int) :: TB) rmJ_J6_getChars_ba4f3 (zJc g ws [.int (nI v), .int (nI (n + zDg v)), .ref pb]) (jQi g (fun r w => ∃ f' : Nat → Int32, w = ws.set j (pb, zBY g 16 f') ∧ (∀ z, z < n → f' z = f z) ∧ (v < 10 → f' n = nI (48 + v)) ∧ (sb_Fit f → sb_Fit f'))) 0 0 (zA g) := by
  refine zJet (own := RJ6) [(0, .int (nI v)), (1, .int (nI (n + zDg v))), (2, .ref pb)] (by decide +kernel) rfl (Nat.le_of_ble_eq_true rfl) rfl (fun p e s m args below meth c C hr hnm => ?_)
  obtain ⟨t1, hz1, hT1⟩ := C.hjdk.2.2.1
  obtain ⟨t2, hz2, hT2⟩ := C.hjdk.2.2.2
  rcases (show v < 10 ∨ (10 ≤ v ∧ v < 100) ∨ (100 ≤ v ∧ v < 1000) ∨ 1000 ≤ v by omega) with h1 | ⟨h1, h2⟩ | ⟨h1, h2⟩ | h1
  · have hdg : zDg v = 1 := by unfold zDg; rw [if_pos h1]
    rw [hdg] at hn ⊢
    refine zj_iload_n C dJ6_getChars_ba4f3_0 rfl 1 rfl ?_
    refine zj_istore (lv' := [(5, .int (nI (n + 1))), (0, .int (nI v)), (1, .int (nI (n + 1))), (2, .ref pb)]) C dJ6_getChars_ba4f3_1 (by decide) rfl ?_
    refine zj_iload_n C dJ6_getChars_ba4f3_3 rfl 1 rfl ?_
    refine zj_if_ge (tgt := 11) C dJ6_getChars_ba4f3_4 (by decide) (fun _ => ?_) (fun h => absurd (nI_pos' (by omega)) h)
    refine zj_iconst (v := 0) C dJ6_getChars_ba4f3_11 (by decide +kernel) ?_
    refine zj_istore (lv' := [(6, .int 0), (5, .int (nI (n + 1))), (0, .int (nI v)), (1, .int (nI (n + 1))), (2, .ref pb)]) C dJ6_getChars_ba4f3_12 (by decide) rfl ?_
    refine zj_iload C dJ6_getChars_ba4f3_14 0 rfl ?_
    refine zj_if_ne (tgt := 22) C dJ6_getChars_ba4f3_16 (by decide) (fun h => absurd h (fun h => h rfl)) (fun _ => ?_)
    refine zj_iload_n C dJ6_getChars_ba4f3_19 rfl 2 rfl ?_
    refine zj_ineg C dJ6_getChars_ba4f3_20 ?_
    refine zj_istore_n (lv' := [(0, .int (-(nI v))), (6, .int 0), (5, .int (nI (n + 1))), (1, .int (nI (n + 1))), (2, .ref pb)]) C dJ6_getChars_ba4f3_21 rfl (by decide) rfl ?_
    refine zj_iload_n C dJ6_getChars_ba4f3_22 rfl 0 rfl ?_
    refine zj_bipush (v := -100) C dJ6_getChars_ba4f3_23 (by decide +kernel) ?_
    refine zj_icmp_gt (tgt := 72) C dJ6_getChars_ba4f3_25 (by decide) (fun _ => ?_) (fun h => absurd ((show (-100 : Int32) < -nI v from (sb_nlt (a := 100) (b := v) (by omega) (by omega)).mpr (by omega))) h)
    refine zj_aload_n C dJ6_getChars_ba4f3_72 rfl 4 rfl ?_
    refine zj_iinc (v := nI (n + 0)) (lv' := [(5, .int (nI (n + 0))), (0, .int (-(nI v))), (6, .int 0), (1, .int (nI (n + 1))), (2, .ref pb)]) C dJ6_getChars_ba4f3_73 2 rfl (zpr (n + 0)) (by decide) rfl ?_
    refine zj_iload C dJ6_getChars_ba4f3_76 0 rfl ?_
    refine zj_gets C hz1 wd_1277 dJ6_getChars_ba4f3_78 ?_
    refine zj_iload_n C dJ6_getChars_ba4f3_81 rfl 1 rfl ?_
    refine zj_ineg C dJ6_getChars_ba4f3_82 ?_
    refine zj_nmI (y := nI (v)) Int32.neg_neg ?_
    refine zj_tb C hT1 (vp_in_nI (by omega) (by decide)) (v := .int (zOnes.getD (v) 0)) (by rw [nI_clamp (by omega)]) dJ6_getChars_ba4f3_83 ?_
    refine zj_bast C j hj (vp_in_nI (by omega) (by decide)) dJ6_getChars_ba4f3_84 (fun w1 hw1 => ?_)
    have t2 := zl_same hj hw1
    refine zj_iload_n C dJ6_getChars_ba4f3_85 rfl 1 rfl ?_
    refine zj_bipush (v := -9) C dJ6_getChars_ba4f3_86 (by decide +kernel) ?_
    refine zj_icmp_ge (tgt := 104) C dJ6_getChars_ba4f3_88 (by decide) (fun _ => ?_) (fun h => absurd ((show (-9 : Int32) ≤ -nI (v) from (sb_nle (a := 9) (b := v) (by omega) (by omega)).mpr (by omega))) h)
    refine zj_iload C dJ6_getChars_ba4f3_104 2 rfl ?_
    refine zj_if_eq (tgt := 118) C dJ6_getChars_ba4f3_106 (by decide) (fun _ => ?_) (fun h => absurd (rfl) h)
    refine zj_iload C dJ6_getChars_ba4f3_118 0 rfl ?_
    refine zj_zret C hr (by rfl) dJ6_getChars_ba4f3_120 ⟨_, hw1, fun z hz => ?_, fun hv10 => ?_, fun hf => ?_⟩
    · rw [pk_un (by rw [nI_clamp (by omega)]; omega)]
    · rw [nI_clamp (n := n + 0) (by omega), Nat.add_zero, pk_us, (zOnes_ok v (by omega)).1]
      exact (zOnes_ok v (by omega)).2.2 h1
    · refine sb_fitU ?_ (by rw [(zOnes_ok v (by omega)).1]; exact (zOnes_ok v (by omega)).2.1)
      exact hf
  · have hdg : zDg v = 2 := by unfold zDg; rw [if_neg (by omega), if_pos h2]
    rw [hdg] at hn ⊢
    refine zj_iload_n C dJ6_getChars_ba4f3_0 rfl 1 rfl ?_
    refine zj_istore (lv' := [(5, .int (nI (n + 2))), (0, .int (nI v)), (1, .int (nI (n + 2))), (2, .ref pb)]) C dJ6_getChars_ba4f3_1 (by decide) rfl ?_
    refine zj_iload_n C dJ6_getChars_ba4f3_3 rfl 1 rfl ?_
    refine zj_if_ge (tgt := 11) C dJ6_getChars_ba4f3_4 (by decide) (fun _ => ?_) (fun h => absurd (nI_pos' (by omega)) h)
    refine zj_iconst (v := 0) C dJ6_getChars_ba4f3_11 (by decide +kernel) ?_
    refine zj_istore (lv' := [(6, .int 0), (5, .int (nI (n + 2))), (0, .int (nI v)), (1, .int (nI (n + 2))), (2, .ref pb)]) C dJ6_getChars_ba4f3_12 (by decide) rfl ?_
    refine zj_iload C dJ6_getChars_ba4f3_14 0 rfl ?_
    refine zj_if_ne (tgt := 22) C dJ6_getChars_ba4f3_16 (by decide) (fun h => absurd h (fun h => h rfl)) (fun _ => ?_)
    refine zj_iload_n C dJ6_getChars_ba4f3_19 rfl 2 rfl ?_
    refine zj_ineg C dJ6_getChars_ba4f3_20 ?_
    refine zj_istore_n (lv' := [(0, .int (-(nI v))), (6, .int 0), (5, .int (nI (n + 2))), (1, .int (nI (n + 2))), (2, .ref pb)]) C dJ6_getChars_ba4f3_21 rfl (by decide) rfl ?_
    refine zj_iload_n C dJ6_getChars_ba4f3_22 rfl 0 rfl ?_
    refine zj_bipush (v := -100) C dJ6_getChars_ba4f3_23 (by decide +kernel) ?_
    refine zj_icmp_gt (tgt := 72) C dJ6_getChars_ba4f3_25 (by decide) (fun _ => ?_) (fun h => absurd ((show (-100 : Int32) < -nI v from (sb_nlt (a := 100) (b := v) (by omega) (by omega)).mpr (by omega))) h)
    refine zj_aload_n C dJ6_getChars_ba4f3_72 rfl 4 rfl ?_
    refine zj_iinc (v := nI (n + 1)) (lv' := [(5, .int (nI (n + 1))), (0, .int (-(nI v))), (6, .int 0), (1, .int (nI (n + 2))), (2, .ref pb)]) C dJ6_getChars_ba4f3_73 2 rfl (zpr (n + 1)) (by decide) rfl ?_
    refine zj_iload C dJ6_getChars_ba4f3_76 0 rfl ?_
    refine zj_gets C hz1 wd_1277 dJ6_getChars_ba4f3_78 ?_
    refine zj_iload_n C dJ6_getChars_ba4f3_81 rfl 1 rfl ?_
    refine zj_ineg C dJ6_getChars_ba4f3_82 ?_
    refine zj_nmI (y := nI (v)) Int32.neg_neg ?_
    refine zj_tb C hT1 (vp_in_nI (by omega) (by decide)) (v := .int (zOnes.getD (v) 0)) (by rw [nI_clamp (by omega)]) dJ6_getChars_ba4f3_83 ?_
    refine zj_bast C j hj (vp_in_nI (by omega) (by decide)) dJ6_getChars_ba4f3_84 (fun w1 hw1 => ?_)
    have t2 := zl_same hj hw1
    refine zj_iload_n C dJ6_getChars_ba4f3_85 rfl 1 rfl ?_
    refine zj_bipush (v := -9) C dJ6_getChars_ba4f3_86 (by decide +kernel) ?_
    refine zj_icmp_ge (tgt := 104) C dJ6_getChars_ba4f3_88 (by decide) (fun h => absurd h ((fun z => by have := (sb_nle (a := 9) (b := v) (by omega) (by omega)).mp z; omega))) (fun _ => ?_)
    refine zj_aload_n C dJ6_getChars_ba4f3_91 rfl 4 rfl ?_
    refine zj_iinc (v := nI (n + 0)) (lv' := [(5, .int (nI (n + 0))), (0, .int (-(nI v))), (6, .int 0), (1, .int (nI (n + 2))), (2, .ref pb)]) C dJ6_getChars_ba4f3_92 0 rfl (zpr (n + 0)) (by decide) rfl ?_
    refine zj_iload C dJ6_getChars_ba4f3_95 0 rfl ?_
    refine zj_gets C hz2 wd_1279 dJ6_getChars_ba4f3_97 ?_
    refine zj_iload_n C dJ6_getChars_ba4f3_100 rfl 1 rfl ?_
    refine zj_ineg C dJ6_getChars_ba4f3_101 ?_
    refine zj_nmI (y := nI (v)) Int32.neg_neg ?_
    refine zj_tb C hT2 (vp_in_nI (by omega) (by decide)) (v := .int (zTens.getD (v) 0)) (by rw [nI_clamp (by omega)]) dJ6_getChars_ba4f3_102 ?_
    refine zj_bast C j t2 (vp_in_nI (by omega) (by decide)) dJ6_getChars_ba4f3_103 (fun w3 hw3 => ?_)
    have t4 := zl_same t2 hw3
    refine zj_iload C dJ6_getChars_ba4f3_104 2 rfl ?_
    refine zj_if_eq (tgt := 118) C dJ6_getChars_ba4f3_106 (by decide) (fun _ => ?_) (fun h => absurd (rfl) h)
    refine zj_iload C dJ6_getChars_ba4f3_118 0 rfl ?_
    have zw3 := zsetset hw1 hw3
    refine zj_zret C hr (by rfl) dJ6_getChars_ba4f3_120 ⟨_, zw3, fun z hz => ?_, fun hv10 => ?_, fun hf => ?_⟩
    · rw [pk_un (by rw [nI_clamp (by omega)]; omega), pk_un (by rw [nI_clamp (by omega)]; omega)]
    · omega
    · refine sb_fitU ?_ (by rw [(zTens_ok v (by omega)).1]; exact (zTens_ok v (by omega)).2)
      refine sb_fitU ?_ (by rw [(zOnes_ok v (by omega)).1]; exact (zOnes_ok v (by omega)).2.1)
      exact hf
  · have hdg : zDg v = 3 := by unfold zDg; rw [if_neg (by omega), if_neg (by omega), if_pos h2]
    rw [hdg] at hn ⊢
    refine zj_iload_n C dJ6_getChars_ba4f3_0 rfl 1 rfl ?_
    refine zj_istore (lv' := [(5, .int (nI (n + 3))), (0, .int (nI v)), (1, .int (nI (n + 3))), (2, .ref pb)]) C dJ6_getChars_ba4f3_1 (by decide) rfl ?_
    refine zj_iload_n C dJ6_getChars_ba4f3_3 rfl 1 rfl ?_
    refine zj_if_ge (tgt := 11) C dJ6_getChars_ba4f3_4 (by decide) (fun _ => ?_) (fun h => absurd (nI_pos' (by omega)) h)
    refine zj_iconst (v := 0) C dJ6_getChars_ba4f3_11 (by decide +kernel) ?_
    refine zj_istore (lv' := [(6, .int 0), (5, .int (nI (n + 3))), (0, .int (nI v)), (1, .int (nI (n + 3))), (2, .ref pb)]) C dJ6_getChars_ba4f3_12 (by decide) rfl ?_
    refine zj_iload C dJ6_getChars_ba4f3_14 0 rfl ?_
    refine zj_if_ne (tgt := 22) C dJ6_getChars_ba4f3_16 (by decide) (fun h => absurd h (fun h => h rfl)) (fun _ => ?_)
    refine zj_iload_n C dJ6_getChars_ba4f3_19 rfl 2 rfl ?_
    refine zj_ineg C dJ6_getChars_ba4f3_20 ?_
    refine zj_istore_n (lv' := [(0, .int (-(nI v))), (6, .int 0), (5, .int (nI (n + 3))), (1, .int (nI (n + 3))), (2, .ref pb)]) C dJ6_getChars_ba4f3_21 rfl (by decide) rfl ?_
    refine zj_iload_n C dJ6_getChars_ba4f3_22 rfl 0 rfl ?_
    refine zj_bipush (v := -100) C dJ6_getChars_ba4f3_23 (by decide +kernel) ?_
    refine zj_icmp_gt (tgt := 72) C dJ6_getChars_ba4f3_25 (by decide) (fun h => absurd h ((fun z => by have := (sb_nlt (a := 100) (b := v) (by omega) (by omega)).mp z; omega))) (fun _ => ?_)
    refine zj_iload_n C dJ6_getChars_ba4f3_28 rfl 0 rfl ?_
    refine zj_bipush (v := 100) C dJ6_getChars_ba4f3_29 (by decide +kernel) ?_
    refine zj_idiv C dJ6_getChars_ba4f3_31 (by decide) ?_
    refine zj_nmI (y := -nI (v / 100)) (sb_ndiv (by omega)) ?_
    refine zj_istore_n (lv' := [(3, .int (-nI (v / 100))), (0, .int (-(nI v))), (6, .int 0), (5, .int (nI (n + 3))), (1, .int (nI (n + 3))), (2, .ref pb)]) C dJ6_getChars_ba4f3_32 rfl (by decide) rfl ?_
    refine zj_iload_n C dJ6_getChars_ba4f3_33 rfl 0 rfl ?_
    refine zj_bipush (v := 100) C dJ6_getChars_ba4f3_34 (by decide +kernel) ?_
    refine zj_imul C dJ6_getChars_ba4f3_36 ?_
    refine zj_iload_n C dJ6_getChars_ba4f3_37 rfl 1 rfl ?_
    refine zj_isub C dJ6_getChars_ba4f3_38 ?_
    refine zj_nmI (y := nI (v % 100)) (sb_nrem (by omega)) ?_
    refine zj_istore (lv' := [(4, .int (nI (v % 100))), (3, .int (-nI (v / 100))), (0, .int (-(nI v))), (6, .int 0), (5, .int (nI (n + 3))), (1, .int (nI (n + 3))), (2, .ref pb)]) C dJ6_getChars_ba4f3_39 (by decide) rfl ?_
    refine zj_iload_n C dJ6_getChars_ba4f3_41 rfl 1 rfl ?_
    refine zj_istore_n (lv' := [(0, .int (-nI (v / 100))), (4, .int (nI (v % 100))), (3, .int (-nI (v / 100))), (6, .int 0), (5, .int (nI (n + 3))), (1, .int (nI (n + 3))), (2, .ref pb)]) C dJ6_getChars_ba4f3_42 rfl (by decide) rfl ?_
    refine zj_aload_n C dJ6_getChars_ba4f3_43 rfl 6 rfl ?_
    refine zj_iinc (v := nI (n + 2)) (lv' := [(5, .int (nI (n + 2))), (0, .int (-nI (v / 100))), (4, .int (nI (v % 100))), (3, .int (-nI (v / 100))), (6, .int 0), (1, .int (nI (n + 3))), (2, .ref pb)]) C dJ6_getChars_ba4f3_44 4 rfl (zpr (n + 2)) (by decide) rfl ?_
    refine zj_iload C dJ6_getChars_ba4f3_47 0 rfl ?_
    refine zj_gets C hz1 wd_1277 dJ6_getChars_ba4f3_49 ?_
    refine zj_iload C dJ6_getChars_ba4f3_52 2 rfl ?_
    refine zj_tb C hT1 (vp_in_nI (by omega) (by decide)) (v := .int (zOnes.getD (v % 100) 0)) (by rw [nI_clamp (by omega)]) dJ6_getChars_ba4f3_54 ?_
    refine zj_bast C j hj (vp_in_nI (by omega) (by decide)) dJ6_getChars_ba4f3_55 (fun w1 hw1 => ?_)
    have t2 := zl_same hj hw1
    refine zj_aload_n C dJ6_getChars_ba4f3_56 rfl 6 rfl ?_
    refine zj_iinc (v := nI (n + 1)) (lv' := [(5, .int (nI (n + 1))), (0, .int (-nI (v / 100))), (4, .int (nI (v % 100))), (3, .int (-nI (v / 100))), (6, .int 0), (1, .int (nI (n + 3))), (2, .ref pb)]) C dJ6_getChars_ba4f3_57 0 rfl (zpr (n + 1)) (by decide) rfl ?_
    refine zj_iload C dJ6_getChars_ba4f3_60 0 rfl ?_
    refine zj_gets C hz2 wd_1279 dJ6_getChars_ba4f3_62 ?_
    refine zj_iload C dJ6_getChars_ba4f3_65 2 rfl ?_
    refine zj_tb C hT2 (vp_in_nI (by omega) (by decide)) (v := .int (zTens.getD (v % 100) 0)) (by rw [nI_clamp (by omega)]) dJ6_getChars_ba4f3_67 ?_
    refine zj_bast C j t2 (vp_in_nI (by omega) (by decide)) dJ6_getChars_ba4f3_68 (fun w3 hw3 => ?_)
    have t4 := zl_same t2 hw3
    refine zj_goto (tgt := 22) C dJ6_getChars_ba4f3_69 (by decide) ?_
    refine zj_iload_n C dJ6_getChars_ba4f3_22 rfl 1 rfl ?_
    refine zj_bipush (v := -100) C dJ6_getChars_ba4f3_23 (by decide +kernel) ?_
    refine zj_icmp_gt (tgt := 72) C dJ6_getChars_ba4f3_25 (by decide) (fun _ => ?_) (fun h => absurd ((show (-100 : Int32) < -nI (v / 100) from (sb_nlt (a := 100) (b := v / 100) (by omega) (by omega)).mpr (by omega))) h)
    refine zj_aload_n C dJ6_getChars_ba4f3_72 rfl 6 rfl ?_
    refine zj_iinc (v := nI (n + 0)) (lv' := [(5, .int (nI (n + 0))), (0, .int (-nI (v / 100))), (4, .int (nI (v % 100))), (3, .int (-nI (v / 100))), (6, .int 0), (1, .int (nI (n + 3))), (2, .ref pb)]) C dJ6_getChars_ba4f3_73 0 rfl (zpr (n + 0)) (by decide) rfl ?_
    refine zj_iload C dJ6_getChars_ba4f3_76 0 rfl ?_
    refine zj_gets C hz1 wd_1277 dJ6_getChars_ba4f3_78 ?_
    refine zj_iload_n C dJ6_getChars_ba4f3_81 rfl 1 rfl ?_
    refine zj_ineg C dJ6_getChars_ba4f3_82 ?_
    refine zj_nmI (y := nI (v / 100)) Int32.neg_neg ?_
    refine zj_tb C hT1 (vp_in_nI (by omega) (by decide)) (v := .int (zOnes.getD (v / 100) 0)) (by rw [nI_clamp (by omega)]) dJ6_getChars_ba4f3_83 ?_
    refine zj_bast C j t4 (vp_in_nI (by omega) (by decide)) dJ6_getChars_ba4f3_84 (fun w5 hw5 => ?_)
    have t6 := zl_same t4 hw5
    refine zj_iload_n C dJ6_getChars_ba4f3_85 rfl 1 rfl ?_
    refine zj_bipush (v := -9) C dJ6_getChars_ba4f3_86 (by decide +kernel) ?_
    refine zj_icmp_ge (tgt := 104) C dJ6_getChars_ba4f3_88 (by decide) (fun _ => ?_) (fun h => absurd ((show (-9 : Int32) ≤ -nI (v / 100) from (sb_nle (a := 9) (b := v / 100) (by omega) (by omega)).mpr (by omega))) h)
    refine zj_iload C dJ6_getChars_ba4f3_104 4 rfl ?_
    refine zj_if_eq (tgt := 118) C dJ6_getChars_ba4f3_106 (by decide) (fun _ => ?_) (fun h => absurd (rfl) h)
    refine zj_iload C dJ6_getChars_ba4f3_118 0 rfl ?_
    have zw3 := zsetset hw1 hw3
    have zw5 := zsetset zw3 hw5
    refine zj_zret C hr (by rfl) dJ6_getChars_ba4f3_120 ⟨_, zw5, fun z hz => ?_, fun hv10 => ?_, fun hf => ?_⟩
    · rw [pk_un (by rw [nI_clamp (by omega)]; omega), pk_un (by rw [nI_clamp (by omega)]; omega), pk_un (by rw [nI_clamp (by omega)]; omega)]
    · omega
    · refine sb_fitU ?_ (by rw [(zOnes_ok (v / 100) (by omega)).1]; exact (zOnes_ok (v / 100) (by omega)).2.1)
      refine sb_fitU ?_ (by rw [(zTens_ok (v % 100) (by omega)).1]; exact (zTens_ok (v % 100) (by omega)).2)
      refine sb_fitU ?_ (by rw [(zOnes_ok (v % 100) (by omega)).1]; exact (zOnes_ok (v % 100) (by omega)).2.1)
      exact hf
  · have hdg : zDg v = 4 := by unfold zDg; rw [if_neg (by omega), if_neg (by omega), if_neg (by omega)]
    rw [hdg] at hn ⊢
    refine zj_iload_n C dJ6_getChars_ba4f3_0 rfl 1 rfl ?_
    refine zj_istore (lv' := [(5, .int (nI (n + 4))), (0, .int (nI v)), (1, .int (nI (n + 4))), (2, .ref pb)]) C dJ6_getChars_ba4f3_1 (by decide) rfl ?_
    refine zj_iload_n C dJ6_getChars_ba4f3_3 rfl 1 rfl ?_
    refine zj_if_ge (tgt := 11) C dJ6_getChars_ba4f3_4 (by decide) (fun _ => ?_) (fun h => absurd (nI_pos' (by omega)) h)
    refine zj_iconst (v := 0) C dJ6_getChars_ba4f3_11 (by decide +kernel) ?_
    refine zj_istore (lv' := [(6, .int 0), (5, .int (nI (n + 4))), (0, .int (nI v)), (1, .int (nI (n + 4))), (2, .ref pb)]) C dJ6_getChars_ba4f3_12 (by decide) rfl ?_
    refine zj_iload C dJ6_getChars_ba4f3_14 0 rfl ?_
    refine zj_if_ne (tgt := 22) C dJ6_getChars_ba4f3_16 (by decide) (fun h => absurd h (fun h => h rfl)) (fun _ => ?_)
    refine zj_iload_n C dJ6_getChars_ba4f3_19 rfl 2 rfl ?_
    refine zj_ineg C dJ6_getChars_ba4f3_20 ?_
    refine zj_istore_n (lv' := [(0, .int (-(nI v))), (6, .int 0), (5, .int (nI (n + 4))), (1, .int (nI (n + 4))), (2, .ref pb)]) C dJ6_getChars_ba4f3_21 rfl (by decide) rfl ?_
    refine zj_iload_n C dJ6_getChars_ba4f3_22 rfl 0 rfl ?_
    refine zj_bipush (v := -100) C dJ6_getChars_ba4f3_23 (by decide +kernel) ?_
    refine zj_icmp_gt (tgt := 72) C dJ6_getChars_ba4f3_25 (by decide) (fun h => absurd h ((fun z => by have := (sb_nlt (a := 100) (b := v) (by omega) (by omega)).mp z; omega))) (fun _ => ?_)
    refine zj_iload_n C dJ6_getChars_ba4f3_28 rfl 0 rfl ?_
    refine zj_bipush (v := 100) C dJ6_getChars_ba4f3_29 (by decide +kernel) ?_
    refine zj_idiv C dJ6_getChars_ba4f3_31 (by decide) ?_
    refine zj_nmI (y := -nI (v / 100)) (sb_ndiv (by omega)) ?_
    refine zj_istore_n (lv' := [(3, .int (-nI (v / 100))), (0, .int (-(nI v))), (6, .int 0), (5, .int (nI (n + 4))), (1, .int (nI (n + 4))), (2, .ref pb)]) C dJ6_getChars_ba4f3_32 rfl (by decide) rfl ?_
    refine zj_iload_n C dJ6_getChars_ba4f3_33 rfl 0 rfl ?_
    refine zj_bipush (v := 100) C dJ6_getChars_ba4f3_34 (by decide +kernel) ?_
    refine zj_imul C dJ6_getChars_ba4f3_36 ?_
    refine zj_iload_n C dJ6_getChars_ba4f3_37 rfl 1 rfl ?_
    refine zj_isub C dJ6_getChars_ba4f3_38 ?_
    refine zj_nmI (y := nI (v % 100)) (sb_nrem (by omega)) ?_
    refine zj_istore (lv' := [(4, .int (nI (v % 100))), (3, .int (-nI (v / 100))), (0, .int (-(nI v))), (6, .int 0), (5, .int (nI (n + 4))), (1, .int (nI (n + 4))), (2, .ref pb)]) C dJ6_getChars_ba4f3_39 (by decide) rfl ?_
    refine zj_iload_n C dJ6_getChars_ba4f3_41 rfl 1 rfl ?_
    refine zj_istore_n (lv' := [(0, .int (-nI (v / 100))), (4, .int (nI (v % 100))), (3, .int (-nI (v / 100))), (6, .int 0), (5, .int (nI (n + 4))), (1, .int (nI (n + 4))), (2, .ref pb)]) C dJ6_getChars_ba4f3_42 rfl (by decide) rfl ?_
    refine zj_aload_n C dJ6_getChars_ba4f3_43 rfl 6 rfl ?_
    refine zj_iinc (v := nI (n + 3)) (lv' := [(5, .int (nI (n + 3))), (0, .int (-nI (v / 100))), (4, .int (nI (v % 100))), (3, .int (-nI (v / 100))), (6, .int 0), (1, .int (nI (n + 4))), (2, .ref pb)]) C dJ6_getChars_ba4f3_44 4 rfl (zpr (n + 3)) (by decide) rfl ?_
    refine zj_iload C dJ6_getChars_ba4f3_47 0 rfl ?_
    refine zj_gets C hz1 wd_1277 dJ6_getChars_ba4f3_49 ?_
    refine zj_iload C dJ6_getChars_ba4f3_52 2 rfl ?_
    refine zj_tb C hT1 (vp_in_nI (by omega) (by decide)) (v := .int (zOnes.getD (v % 100) 0)) (by rw [nI_clamp (by omega)]) dJ6_getChars_ba4f3_54 ?_
    refine zj_bast C j hj (vp_in_nI (by omega) (by decide)) dJ6_getChars_ba4f3_55 (fun w1 hw1 => ?_)
    have t2 := zl_same hj hw1
    refine zj_aload_n C dJ6_getChars_ba4f3_56 rfl 6 rfl ?_
    refine zj_iinc (v := nI (n + 2)) (lv' := [(5, .int (nI (n + 2))), (0, .int (-nI (v / 100))), (4, .int (nI (v % 100))), (3, .int (-nI (v / 100))), (6, .int 0), (1, .int (nI (n + 4))), (2, .ref pb)]) C dJ6_getChars_ba4f3_57 0 rfl (zpr (n + 2)) (by decide) rfl ?_
    refine zj_iload C dJ6_getChars_ba4f3_60 0 rfl ?_
    refine zj_gets C hz2 wd_1279 dJ6_getChars_ba4f3_62 ?_
    refine zj_iload C dJ6_getChars_ba4f3_65 2 rfl ?_
    refine zj_tb C hT2 (vp_in_nI (by omega) (by decide)) (v := .int (zTens.getD (v % 100) 0)) (by rw [nI_clamp (by omega)]) dJ6_getChars_ba4f3_67 ?_
    refine zj_bast C j t2 (vp_in_nI (by omega) (by decide)) dJ6_getChars_ba4f3_68 (fun w3 hw3 => ?_)
    have t4 := zl_same t2 hw3
    refine zj_goto (tgt := 22) C dJ6_getChars_ba4f3_69 (by decide) ?_
    refine zj_iload_n C dJ6_getChars_ba4f3_22 rfl 1 rfl ?_
    refine zj_bipush (v := -100) C dJ6_getChars_ba4f3_23 (by decide +kernel) ?_
    refine zj_icmp_gt (tgt := 72) C dJ6_getChars_ba4f3_25 (by decide) (fun _ => ?_) (fun h => absurd ((show (-100 : Int32) < -nI (v / 100) from (sb_nlt (a := 100) (b := v / 100) (by omega) (by omega)).mpr (by omega))) h)
    refine zj_aload_n C dJ6_getChars_ba4f3_72 rfl 6 rfl ?_
    refine zj_iinc (v := nI (n + 1)) (lv' := [(5, .int (nI (n + 1))), (0, .int (-nI (v / 100))), (4, .int (nI (v % 100))), (3, .int (-nI (v / 100))), (6, .int 0), (1, .int (nI (n + 4))), (2, .ref pb)]) C dJ6_getChars_ba4f3_73 0 rfl (zpr (n + 1)) (by decide) rfl ?_
    refine zj_iload C dJ6_getChars_ba4f3_76 0 rfl ?_
    refine zj_gets C hz1 wd_1277 dJ6_getChars_ba4f3_78 ?_
    refine zj_iload_n C dJ6_getChars_ba4f3_81 rfl 1 rfl ?_
    refine zj_ineg C dJ6_getChars_ba4f3_82 ?_
    refine zj_nmI (y := nI (v / 100)) Int32.neg_neg ?_
    refine zj_tb C hT1 (vp_in_nI (by omega) (by decide)) (v := .int (zOnes.getD (v / 100) 0)) (by rw [nI_clamp (by omega)]) dJ6_getChars_ba4f3_83 ?_
    refine zj_bast C j t4 (vp_in_nI (by omega) (by decide)) dJ6_getChars_ba4f3_84 (fun w5 hw5 => ?_)
    have t6 := zl_same t4 hw5
    refine zj_iload_n C dJ6_getChars_ba4f3_85 rfl 1 rfl ?_
    refine zj_bipush (v := -9) C dJ6_getChars_ba4f3_86 (by decide +kernel) ?_
    refine zj_icmp_ge (tgt := 104) C dJ6_getChars_ba4f3_88 (by decide) (fun h => absurd h ((fun z => by have := (sb_nle (a := 9) (b := v / 100) (by omega) (by omega)).mp z; omega))) (fun _ => ?_)
    refine zj_aload_n C dJ6_getChars_ba4f3_91 rfl 6 rfl ?_
    refine zj_iinc (v := nI (n + 0)) (lv' := [(5, .int (nI (n + 0))), (0, .int (-nI (v / 100))), (4, .int (nI (v % 100))), (3, .int (-nI (v / 100))), (6, .int 0), (1, .int (nI (n + 4))), (2, .ref pb)]) C dJ6_getChars_ba4f3_92 0 rfl (zpr (n + 0)) (by decide) rfl ?_
    refine zj_iload C dJ6_getChars_ba4f3_95 0 rfl ?_
    refine zj_gets C hz2 wd_1279 dJ6_getChars_ba4f3_97 ?_
    refine zj_iload_n C dJ6_getChars_ba4f3_100 rfl 1 rfl ?_
    refine zj_ineg C dJ6_getChars_ba4f3_101 ?_
    refine zj_nmI (y := nI (v / 100)) Int32.neg_neg ?_
    refine zj_tb C hT2 (vp_in_nI (by omega) (by decide)) (v := .int (zTens.getD (v / 100) 0)) (by rw [nI_clamp (by omega)]) dJ6_getChars_ba4f3_102 ?_
    refine zj_bast C j t6 (vp_in_nI (by omega) (by decide)) dJ6_getChars_ba4f3_103 (fun w7 hw7 => ?_)
    have t8 := zl_same t6 hw7
    refine zj_iload C dJ6_getChars_ba4f3_104 4 rfl ?_
    refine zj_if_eq (tgt := 118) C dJ6_getChars_ba4f3_106 (by decide) (fun _ => ?_) (fun h => absurd (rfl) h)
    refine zj_iload C dJ6_getChars_ba4f3_118 0 rfl ?_
    have zw3 := zsetset hw1 hw3
    have zw5 := zsetset zw3 hw5
    have zw7 := zsetset zw5 hw7
    refine zj_zret C hr (by rfl) dJ6_getChars_ba4f3_120 ⟨_, zw7, fun z hz => ?_, fun hv10 => ?_, fun hf => ?_⟩
    · rw [pk_un (by rw [nI_clamp (by omega)]; omega), pk_un (by rw [nI_clamp (by omega)]; omega), pk_un (by rw [nI_clamp (by omega)]; omega), pk_un (by rw [nI_clamp (by omega)]; omega)]
    · omega
    · refine sb_fitU ?_ (by rw [(zTens_ok (v / 100) (by omega)).1]; exact (zTens_ok (v / 100) (by omega)).2)
      refine sb_fitU ?_ (by rw [(zOnes_ok (v / 100) (by omega)).1]; exact (zOnes_ok (v / 100) (by omega)).2.1)
      refine sb_fitU ?_ (by rw [(zTens_ok (v % 100) (by omega)).1]; exact (zTens_ok (v % 100) (by omega)).2)
      refine sb_fitU ?_ (by rw [(zOnes_ok (v % 100) (by omega)).1]; exact (zOnes_ok (v % 100) (by omega)).2.1)
      exact hf
abbrev rmJ_J5_append_c97b9 : Room := { frames := 1, cells := 0, slots := 0, locals := 26 }
set_option maxHeartbeats 4000000 in
set_option maxRecDepth 100000 in
theorem cJ_J5_append_c97b9 (l : Launch) (g : GE) {ws : va_W} {i j sb pb n : Nat} {f : Nat → Int32} {v : Nat} (hi : ws[i]? = some (sb, .inr (10, [.ref pb, .int 0, .int 0, .int (nI n)]))) (hj : ws[j]? = some (pb, .inl (g.2.1 5, 16, .inl f))) (hij : i ≠ j) (hv : v < 10000) (hn : n + zDg v ≤ 16) : Met l yJ5_append_c97b9 (.code yJ5_append_c97b9 cJ5_append_c97b9 4 (Option.some (Jvm.ClassFile.FieldType.object "java/lang/AbstractStringBuilder")) :: TB) rmJ_J5_append_c97b9 (zJc g ws [.ref sb, .int (nI v)]) (jQr g (fun ra w => ra = sb ∧ ∃ f' : Nat → Int32, w = (ws.set j (pb, zBY g 16 f')).set i (sb, zSB pb (n + zDg v)) ∧ (∀ z, z < n → f' z = f z) ∧ (v < 10 → f' n = nI (48 + v)) ∧ (sb_Fit f → sb_Fit f'))) 0 0 (zA g) := by
  refine zJet (own := RJ5) [(0, .ref sb), (1, .int (nI v))] (by decide +kernel) rfl (Nat.le_of_ble_eq_true rfl) rfl (fun p e s m args below meth c C hr hnm => ?_)
  refine zj_aload_n C dJ5_append_c97b9_0 rfl 0 rfl ?_
  refine zj_get (v := .int (nI n)) C iJ4 i hi rfl 3 (by decide) wd_1139 rfl rfl dJ5_append_c97b9_1 ?_
  refine zj_istore_n (lv' := [(2, .int (nI n)), (0, .ref sb), (1, .int (nI v))]) C dJ5_append_c97b9_4 rfl (by decide) rfl ?_
  refine zj_iload_n C dJ5_append_c97b9_5 rfl 0 rfl ?_
  refine zj_iload_n C dJ5_append_c97b9_6 rfl 2 rfl ?_
  refine zj_ciR (fun H locs ls hl hp hd hs => zk_Sx (As := [.int (nI v)]) (rest := [.int (nI n)]) C.hx C.hb C.hml C.hown C.ht (cJ_J6_stringSize_0f7a4 l g hv) wd_1271 wd_1272 wd_20 wd_1273 hz_J6_stringSize_0f7a4 rfl rfl ⟨by decide, by decide⟩ ⟨by decide, by decide⟩ (zPreR C.hjdk hs zBm_t (fun _ _ _ => trivial)) rfl hl.1 rfl (Nat.le_of_ble_eq_true rfl) dJ5_append_c97b9_7) (fun r hq => ?_)
  subst hq
  refine zj_iadd C dJ5_append_c97b9_10 ?_
  refine zj_nmI (y := nI (n + zDg v)) (nI_add _ _) ?_
  refine zj_istore_n (lv' := [(3, .int (nI (n + zDg v))), (2, .int (nI n)), (0, .ref sb), (1, .int (nI v))]) C dJ5_append_c97b9_11 rfl (by decide) rfl ?_
  refine zj_aload_n C dJ5_append_c97b9_12 rfl 2 rfl ?_
  refine zj_iload_n C dJ5_append_c97b9_13 rfl 0 rfl ?_
  refine zj_cv (fun H locs ls hl hp hd hs => zk_U (As := [.int (nI (n + zDg v))]) (rest := []) C.hx C.hb C.hml C.hown C.ht (cJ_J5_ensureCapacityInternal_d00df l g (k := n + zDg v) hi hj hn) wd_1161 wd_1419 wx_0 wd_1163 wd_32 wd_1164 rfl ⟨by decide +kernel, by decide +kernel, hz_J5_ensureCapacityInternal_d00df.2.2⟩ rfl rfl ⟨by decide, by decide⟩ ⟨by decide, by decide⟩ (zPreJV C hp hd hs hi rfl rfl [.int (nI (n + zDg v))]) rfl hl.1 rfl (Nat.le_of_ble_eq_true rfl) dJ5_append_c97b9_14) (fun w0 hq0 => ?_)
  rw [hq0]
  refine zj_aload_n C dJ5_append_c97b9_17 rfl 2 rfl ?_
  refine zj_ci (fun H locs ls hl hp hd hs => zk_U (As := []) (rest := []) C.hx C.hb C.hml C.hown C.ht (cJ_J5_isLatin1_aae02 l g hi) wd_1190 wd_1192 wd_1193 wd_1191 wd_32 wd_1194 rfl ⟨by decide +kernel, by decide +kernel, hz_J5_isLatin1_aae02.2.2⟩ rfl rfl ⟨by decide, by decide⟩ ⟨by decide, by decide⟩ (zPreJV C hp hd hs hi rfl rfl []) rfl hl.1 rfl (Nat.le_of_ble_eq_true rfl) dJ5_append_c97b9_18) (fun r w0 hq0 => ?_)
  rw [hq0.1, hq0.2]
  refine zj_if_eq (tgt := 37) C dJ5_append_c97b9_21 (by decide) (fun h => absurd h (by decide)) (fun _ => ?_)
  refine zj_iload_n C dJ5_append_c97b9_24 rfl 3 rfl ?_
  refine zj_iload_n C dJ5_append_c97b9_25 rfl 0 rfl ?_
  refine zj_aload_n C dJ5_append_c97b9_26 rfl 2 rfl ?_
  refine zj_get (v := .ref pb) C iJ4 i hi rfl 0 (by decide) wd_1136 rfl rfl dJ5_append_c97b9_27 ?_
  refine zj_ci (fun H locs ls hl hp hd hs => zk_Sx (As := [.int (nI v), .int (nI (n + zDg v)), .ref pb]) (rest := []) C.hx C.hb C.hml C.hown C.ht (cJ_J6_getChars_ba4f3 l g hj hv hn) wd_1274 wd_1275 wd_20 wd_1276 hz_J6_getChars_ba4f3 rfl rfl ⟨by decide, by decide⟩ ⟨by decide, by decide⟩ (zPreJ C hp hd hs [.int (nI v), .int (nI (n + zDg v)), .ref pb]) rfl hl.1 rfl (Nat.le_of_ble_eq_true rfl) dJ5_append_c97b9_30) (fun r w0 hq0 => ?_)
  obtain ⟨f', e0, e1, e2, e3⟩ := hq0
  obtain ⟨w1, hw1⟩ : ∃ z, z = w0 := ⟨_, rfl⟩
  rw [← hw1]
  rw [← hw1] at e0
  have hw1 := e0
  have t2 := zl_ne (Ne.symm hij) hi hw1
  have t3 := zl_same hj hw1
  refine zj_pop C dJ5_append_c97b9_33 rfl ?_
  refine zj_goto (tgt := 48) C dJ5_append_c97b9_34 (by decide) ?_
  refine zj_aload_n C dJ5_append_c97b9_48 rfl 2 rfl ?_
  refine zj_iload_n C dJ5_append_c97b9_49 rfl 0 rfl ?_
  refine zj_put C iJ4 tyJ4 tyJ4_ok nmJ4 i t2 rfl 3 (by decide) wd_1139 rfl rfl (ty := tyJ4 3) (by decide +kernel) rfl rfl (Nat.le_of_ble_eq_true rfl) dJ5_append_c97b9_50 (fs1 := [.ref pb, .int 0, .int 0, .int (nI (n + zDg v))]) rfl (fun w4 hw4 => ?_)
  have t5 := zl_same t2 hw4
  have t6 := zl_ne hij t3 hw4
  refine zj_aload_n C dJ5_append_c97b9_53 rfl 2 rfl ?_
  exact zj_aret C hr (Or.inl ⟨_, rfl⟩) dJ5_append_c97b9_54 ⟨rfl, f', by rw [hw4, hw1], e1, e2, e3⟩
abbrev rmJ_J4_append_bf812 : Room := { frames := 2, cells := 0, slots := 0, locals := 49 }
set_option maxHeartbeats 4000000 in
set_option maxRecDepth 100000 in
theorem cJ_J4_append_bf812 (l : Launch) (g : GE) {ws : va_W} {i j sb pb n : Nat} {f : Nat → Int32} {v : Nat} (hi : ws[i]? = some (sb, .inr (10, [.ref pb, .int 0, .int 0, .int (nI n)]))) (hj : ws[j]? = some (pb, .inl (g.2.1 5, 16, .inl f))) (hij : i ≠ j) (hv : v < 10000) (hn : n + zDg v ≤ 16) : Met l yJ4_append_bf812 (.code yJ4_append_bf812 cJ4_append_bf812 2 (Option.some (Jvm.ClassFile.FieldType.object "java/lang/StringBuilder")) :: TB) rmJ_J4_append_bf812 (zJc g ws [.ref sb, .int (nI v)]) (jQr g (fun ra w => ra = sb ∧ ∃ f' : Nat → Int32, w = (ws.set j (pb, zBY g 16 f')).set i (sb, zSB pb (n + zDg v)) ∧ (∀ z, z < n → f' z = f z) ∧ (v < 10 → f' n = nI (48 + v)) ∧ (sb_Fit f → sb_Fit f'))) 0 0 (zA g) := by
  refine zJet (own := RJ4) [(0, .ref sb), (1, .int (nI v))] (by decide +kernel) rfl (Nat.le_of_ble_eq_true rfl) rfl (fun p e s m args below meth c C hr hnm => ?_)
  refine zj_aload_n C dJ4_append_bf812_0 rfl 0 rfl ?_
  refine zj_iload_n C dJ4_append_bf812_1 rfl 1 rfl ?_
  refine zj_cr (fun H locs ls hl hp hd hs => zk_SU (As := [.int (nI v)]) (rest := []) C.hx C.hb C.hml C.hown C.ht (cJ_J5_append_c97b9 l g hi hj hij hv hn) ⟨_, (C.hK.1 10 _ rfl).2⟩ wd_1268 wd_1424 wd_1148 wd_1269 wd_32 wd_1270 ⟨by decide +kernel, hz_J5_append_c97b9.2.2⟩ rfl rfl ⟨by decide, by decide⟩ ⟨by decide, by decide⟩ (zPreJV C hp hd hs hi rfl rfl [.int (nI v)]) rfl hl.1 rfl (Nat.le_of_ble_eq_true rfl) dJ4_append_bf812_2) (fun ra w0 hq0 => ?_)
  refine zj_pop C dJ4_append_bf812_5 rfl ?_
  refine zj_aload_n C dJ4_append_bf812_6 rfl 0 rfl ?_
  exact zj_aret C hr (Or.inl ⟨_, rfl⟩) dJ4_append_bf812_7 ⟨rfl, hq0.2⟩
abbrev rmJ_J5_init_d00df : Room := { frames := 1, cells := 1, slots := 16, locals := 20 }
set_option maxHeartbeats 4000000 in
set_option maxRecDepth 100000 in
theorem cJ_J5_init_d00df (l : Launch) (g : GE) {ws : va_W} {i sb : Nat} (hi : ws[i]? = some (sb, .inr (10, [.null, .int 0, .int 0, .int 0]))) : Met l yJ5_init_d00df (.code yJ5_init_d00df cJ5_init_d00df 2 (Option.none : Option Jvm.ClassFile.FieldType) :: TB) rmJ_J5_init_d00df (zJc g ws [.ref sb, .int 16]) (jQv g (fun w => ∃ pb, w = ws.set i (sb, zSB pb 0) ++ [(pb, zBY g 16 (fun _ => 0))])) 1 16 (zA g) := by
  refine zJet (own := RJ5) [(0, .ref sb), (1, .int 16)] (by decide +kernel) rfl (Nat.le_of_ble_eq_true rfl) rfl (fun p e s m args below meth c C hr hnm => ?_)
  refine zj_aload_n C dJ5_init_d00df_0 rfl 0 rfl ?_
  refine zj_objInit C wd_1126 wd_42 wd_43 dJ5_init_d00df_1 (by decide) (by decide) (Nat.le_of_ble_eq_true rfl) ?_
  refine zj_gets C C.hjdk.1 wd_1127 dJ5_init_d00df_4 ?_
  refine zj_if_eq (tgt := 25) C dJ5_init_d00df_7 (by decide) (fun h => absurd h (by decide)) (fun _ => ?_)
  refine zj_aload_n C dJ5_init_d00df_10 rfl 0 rfl ?_
  refine zj_iload_n C dJ5_init_d00df_11 rfl 1 rfl ?_
  refine zj_newb C wd_438 (N := 16) (by decide) (by decide +kernel) (by decide) (by decide) (by decide) dJ5_init_d00df_12 (fun pb w1 hw1 => ?_)
  have t2 := zl_app hi hw1
  have t3 : w1[ws.length]? = some (pb, zBY g 16 (fun _ => 0)) := by rw [hw1, List.getElem?_append_right (Nat.le_refl _), Nat.sub_self]; rfl
  refine zj_put C iJ4 tyJ4 tyJ4_ok nmJ4 i t2 rfl 0 (by decide) wd_1136 rfl rfl (ty := tyJ4 0) (by decide +kernel) rfl rfl (Nat.le_of_ble_eq_true rfl) dJ5_init_d00df_14 (fs1 := [.ref pb, .int 0, .int 0, .int 0]) rfl (fun w4 hw4 => ?_)
  have t5 := zl_same t2 hw4
  have t6 := zl_ne (Nat.ne_of_lt (List.getElem?_eq_some_iff.mp hi).1) t3 hw4
  refine zj_aload_n C dJ5_init_d00df_17 rfl 0 rfl ?_
  refine zj_iconst (v := 0) C dJ5_init_d00df_18 (by decide +kernel) ?_
  refine zj_put C iJ4 tyJ4 tyJ4_ok nmJ4 i t5 rfl 1 (by decide) wd_1137 rfl rfl (ty := tyJ4 1) (by decide +kernel) rfl rfl (Nat.le_of_ble_eq_true rfl) dJ5_init_d00df_19 (fs1 := [.ref pb, .int 0, .int 0, .int 0]) rfl (fun w7 hw7 => ?_)
  have t8 := zl_same t5 hw7
  have t9 := zl_ne (Nat.ne_of_lt (List.getElem?_eq_some_iff.mp hi).1) t6 hw7
  refine zj_goto (tgt := 38) C dJ5_init_d00df_22 (by decide) ?_
  refine zj_vret C hr dJ5_init_d00df_38 ⟨pb, ?_⟩
  rw [hw7, hw4, hw1, List.set_set, List.set_append_left _ _ (List.getElem?_eq_some_iff.mp hi).1]
  rfl
abbrev rmJ_J4_init_da8c8 : Room := { frames := 2, cells := 1, slots := 16, locals := 41 }
set_option maxHeartbeats 4000000 in
set_option maxRecDepth 100000 in
theorem cJ_J4_init_da8c8 (l : Launch) (g : GE) {ws : va_W} {i sb : Nat} (hi : ws[i]? = some (sb, .inr (10, [.null, .int 0, .int 0, .int 0]))) : Met l yJ4_init_da8c8 (.code yJ4_init_da8c8 cJ4_init_da8c8 1 (Option.none : Option Jvm.ClassFile.FieldType) :: TB) rmJ_J4_init_da8c8 (zJc g ws [.ref sb]) (jQv g (fun w => ∃ pb, w = ws.set i (sb, zSB pb 0) ++ [(pb, zBY g 16 (fun _ => 0))])) 1 16 (zA g) := by
  refine zJet (own := RJ4) [(0, .ref sb)] (by decide +kernel) rfl (Nat.le_of_ble_eq_true rfl) rfl (fun p e s m args below meth c C hr hnm => ?_)
  refine zj_aload_n C dJ4_init_da8c8_0 rfl 0 rfl ?_
  refine zj_bipush (v := 16) C dJ4_init_da8c8_1 (by decide +kernel) ?_
  refine zj_cv (fun H locs ls hl hp hd hs => zk_I (As := [.int 16]) (rest := []) C.hx C.hb C.hml C.hown C.ht (cJ_J5_init_d00df l g hi) wd_1123 wd_1124 wd_32 wd_1125 rfl rfl hz_J5_init_d00df rfl rfl ⟨by decide, by decide⟩ ⟨by decide, by decide⟩ (zPreJ C hp hd hs (.ref sb :: [.int 16])) rfl hl.1 rfl (Nat.le_of_ble_eq_true rfl) dJ4_init_da8c8_3) (fun w0 hq0 => ?_)
  exact zj_vret C hr dJ4_init_da8c8_6 hq0
section ZM
variable {p : Program} {l : Launch} {e : Env} {R : Room} {s : State} {m : MethodId} {args : Array Value} {below : List Frame} {meth : Method} {c : Code} {g : GE} {own : String} {cc : ByteArray} {nL cells slots mc ms : Nat} {Q : State → Prop} {pc : Nat} {lv lv' : List (Nat × Value)} {st st0 rest As : List Value} {ws : va_W} {a : Nat}
theorem zj_mmin (C : zJx p l s m args meth c g own cc nL) {index : Nat} {x y : Int32} (hw1 : Cond.methodLink own index Lib.Math.min.name ∈ TB) (hw2 : Cond.static Lib.Math.min.name ∈ TB) (hw3 : Cond.initialized "java/lang/Math" ∈ TB) (hw4 : Cond.code Lib.Math.min.name Lib.Math.min.code 2 (some .int) ∈ TB) (hframes : 1 ≤ R.frames) (hlocals : (st.map fun v => v.category).sum + 13 ≤ R.locals) (hc : cells ≤ R.cells) (hs0 : slots ≤ R.slots) (d : decode cc pc = .ok (.invokestatic index, 3)) (k : JW p l e R s m args below meth c g nL cells slots Q (pc + 3) lv (.int (if y < x then y else x) :: st) ws) : JW p l e R s m args below meth c g nL cells slots Q pc lv (.int y :: .int x :: st) ws := fun H locs ls hl hp hd hs => va_mmin C.hx C.hb (by rw [C.hml]; exact hl.1.symm) C.hown (C.ht _ hw1) (C.ht _ hw2) (C.ht _ hw3) (C.ht _ hw4) hframes hlocals hc hs0 d (k H locs ls hl hp hd hs)
end ZM
theorem zmin16 {n : Nat} (h : n < 16) : (if nI n < 16 then nI n else 16) = nI n := if_pos (nI_lt (b := 16) h (by decide))
theorem zset_last (ws : va_W) (x y : Nat × va_E) : (ws ++ [x]).set ws.length y = ws ++ [y] := by rw [List.set_append_right _ _ (Nat.le_refl _), Nat.sub_self]; rfl
abbrev rmJ_J7_copyOfRangeByte_39247 : Room := { frames := 1, cells := 1, slots := 16, locals := 69 }
set_option maxHeartbeats 4000000 in
set_option maxRecDepth 100000 in
theorem cJ_J7_copyOfRangeByte_39247 (l : Launch) (g : GE) {ws : va_W} {j pb n : Nat} {f : Nat → Int32} (hj : ws[j]? = some (pb, .inl (g.2.1 5, 16, .inl f))) (hn16 : n < 16) (hfit : sb_Fit f) : Met l yJ7_copyOfRangeByte_39247 (.code yJ7_copyOfRangeByte_39247 cJ7_copyOfRangeByte_39247 5 (Option.some (Jvm.ClassFile.FieldType.array Jvm.ClassFile.FieldType.byte)) :: TB) rmJ_J7_copyOfRangeByte_39247 (zJc g ws [.ref pb, .int 0, .int (nI n)]) (jQr g (fun ra w => w = ws ++ [(ra, zBY g n (va_cpy f (fun _ => 0) 0 0 n))])) 1 16 (zA g) := by
  refine zJet (own := RJ7) [(0, .ref pb), (1, .int 0), (2, .int (nI n))] (by decide +kernel) rfl (Nat.le_of_ble_eq_true rfl) rfl (fun p e s m args below meth c C hr hnm => ?_)
  refine zj_iload_n C dJ7_copyOfRangeByte_39247_0 rfl 1 rfl ?_
  refine zj_iload_n C dJ7_copyOfRangeByte_39247_1 rfl 2 rfl ?_
  refine zj_cvR (fun H locs ls hl hp hd hs => zk_S (As := [.int 0, .int (nI n)]) (rest := []) C.hx C.hb C.hml C.hown C.ht (cJ_J7_checkLength_df160 l g (n := n) (by omega)) wd_1322 wd_1323 wd_35 wd_1324 hy_J7_checkLength_df160 rfl rfl ⟨by decide, by decide⟩ ⟨by decide, by decide⟩ (zPreR C.hjdk hs zBm_t (fun _ _ _ => trivial)) rfl hl.1 rfl (Nat.le_of_ble_eq_true rfl) dJ7_copyOfRangeByte_39247_2) ?_
  refine zj_iload_n C dJ7_copyOfRangeByte_39247_5 rfl 2 rfl ?_
  refine zj_iload_n C dJ7_copyOfRangeByte_39247_6 rfl 1 rfl ?_
  refine zj_isub C dJ7_copyOfRangeByte_39247_7 ?_
  refine zj_nmI (y := nI n) (pk_sub (a := n) (b := 0) (by omega)) ?_
  refine zj_istore_n (lv' := [(3, .int (nI n)), (0, .ref pb), (1, .int 0), (2, .int (nI n))]) C dJ7_copyOfRangeByte_39247_8 rfl (by decide) rfl ?_
  refine zj_iload_n C dJ7_copyOfRangeByte_39247_9 rfl 0 rfl ?_
  refine zj_newb C wd_438 (N := n) (nI_pos (by omega)) (nI_clamp (by omega)) (by show n * 1 ≤ 536870912; omega) (by decide) (by show _ ≤ 16; omega) dJ7_copyOfRangeByte_39247_10 (fun ra w1 hw1 => ?_)
  refine zj_widen (k1 := 1) (n1 := 16) (by decide) (by omega) ?_
  have t2 := zl_app hj hw1
  have t3 : w1[ws.length]? = some (ra, zBY g n (fun _ => 0)) := by rw [hw1, List.getElem?_append_right (Nat.le_refl _), Nat.sub_self]; rfl
  refine zj_astore (lv' := [(4, .ref ra), (3, .int (nI n)), (0, .ref pb), (1, .int 0), (2, .int (nI n))]) C dJ7_copyOfRangeByte_39247_12 (by decide) rfl ?_
  refine zj_aload_n C dJ7_copyOfRangeByte_39247_14 rfl 2 rfl ?_
  refine zj_iload_n C dJ7_copyOfRangeByte_39247_15 rfl 3 rfl ?_
  refine zj_aload C dJ7_copyOfRangeByte_39247_16 0 rfl ?_
  refine zj_iconst (v := 0) C dJ7_copyOfRangeByte_39247_18 (by decide +kernel) ?_
  refine zj_aload_n C dJ7_copyOfRangeByte_39247_19 rfl 2 rfl ?_
  refine zj_alen C j t2 (v := 16) rfl dJ7_copyOfRangeByte_39247_20 ?_
  refine zj_iload_n C dJ7_copyOfRangeByte_39247_21 rfl 3 rfl ?_
  refine zj_isub C dJ7_copyOfRangeByte_39247_22 ?_
  refine zj_nmI (y := 16) (by decide) ?_
  refine zj_iload_n C dJ7_copyOfRangeByte_39247_23 rfl 1 rfl ?_
  refine zj_mmin C wd_1188 wd_322 wd_15 wd_323 (by decide) (Nat.le_of_ble_eq_true rfl) (by decide) (by decide) dJ7_copyOfRangeByte_39247_24 ?_
  refine zj_nmI (y := nI n) (zmin16 hn16) ?_
  refine zj_copyi C wd_1189 wd_326 wd_325 wd_16 j ws.length t2 t3 (by decide) (by decide) (nI_pos (by omega)) (by rw [nI_clamp (n := n) (by omega)]; exact (by omega : 0 + n ≤ 16)) (by rw [nI_clamp (n := n) (by omega)]; exact Nat.le_of_eq (Nat.zero_add _)) (fun i _ => hfit _) (by decide) (by decide) dJ7_copyOfRangeByte_39247_27 (fun w4 hw4 => ?_)
  rw [nI_clamp (n := n) (by omega), show (0 : Int32).toNatClampNeg = 0 from rfl] at hw4
  refine zj_aload C dJ7_copyOfRangeByte_39247_30 0 rfl ?_
  exact zj_aret C hr (Or.inr ⟨_, rfl⟩) dJ7_copyOfRangeByte_39247_32 (by rw [hw4, hw1, zset_last])
abbrev rmJ_J7_copyOfRange_39247 : Room := { frames := 2, cells := 1, slots := 16, locals := 93 }
set_option maxHeartbeats 4000000 in
set_option maxRecDepth 100000 in
theorem cJ_J7_copyOfRange_39247 (l : Launch) (g : GE) {ws : va_W} {j pb n : Nat} {f : Nat → Int32} (hj : ws[j]? = some (pb, .inl (g.2.1 5, 16, .inl f))) (hn16 : n < 16) (hfit : sb_Fit f) : Met l yJ7_copyOfRange_39247 (.code yJ7_copyOfRange_39247 cJ7_copyOfRange_39247 3 (Option.some (Jvm.ClassFile.FieldType.array Jvm.ClassFile.FieldType.byte)) :: TB) rmJ_J7_copyOfRange_39247 (zJc g ws [.ref pb, .int 0, .int (nI n)]) (jQr g (fun ra w => w = ws ++ [(ra, zBY g n (va_cpy f (fun _ => 0) 0 0 n))])) 1 16 (zA g) := by
  refine zJet (own := RJ7) [(0, .ref pb), (1, .int 0), (2, .int (nI n))] (by decide +kernel) rfl (Nat.le_of_ble_eq_true rfl) rfl (fun p e s m args below meth c C hr hnm => ?_)
  refine zj_iload_n C dJ7_copyOfRange_39247_0 rfl 1 rfl ?_
  refine zj_if_ne (tgt := 10) C dJ7_copyOfRange_39247_1 (by decide) (fun h => absurd h (fun h => h rfl)) (fun _ => ?_)
  refine zj_iload_n C dJ7_copyOfRange_39247_4 rfl 2 rfl ?_
  refine zj_aload_n C dJ7_copyOfRange_39247_5 rfl 0 rfl ?_
  refine zj_alen C j hj (v := 16) rfl dJ7_copyOfRange_39247_6 ?_
  refine zj_icmp_eq (tgt := 17) C dJ7_copyOfRange_39247_7 (by decide) (fun h => absurd h ((fun z => by have := (nI_eq (a := n) (b := 16) (by omega) (by decide)).mp z; omega))) (fun _ => ?_)
  refine zj_aload_n C dJ7_copyOfRange_39247_10 rfl 0 rfl ?_
  refine zj_iload_n C dJ7_copyOfRange_39247_11 rfl 1 rfl ?_
  refine zj_iload_n C dJ7_copyOfRange_39247_12 rfl 2 rfl ?_
  refine zj_cr (fun H locs ls hl hp hd hs => zk_S (As := [.ref pb, .int 0, .int (nI n)]) (rest := []) C.hx C.hb C.hml C.hown C.ht (cJ_J7_copyOfRangeByte_39247 l g hj hn16 hfit) wd_1319 wd_1320 wd_35 wd_1321 hy_J7_copyOfRangeByte_39247 rfl rfl ⟨by decide, by decide⟩ ⟨by decide, by decide⟩ (zPreJ C hp hd hs [.ref pb, .int 0, .int (nI n)]) rfl hl.1 rfl (Nat.le_of_ble_eq_true rfl) dJ7_copyOfRange_39247_13) (fun ra w0 hq0 => ?_)
  exact zj_aret C hr (Or.inr ⟨_, rfl⟩) dJ7_copyOfRange_39247_16 hq0
abbrev rmJ_J0_init_db425 : Room := { frames := 3, cells := 1, slots := 16, locals := 115 }
set_option maxHeartbeats 4000000 in
set_option maxRecDepth 100000 in
theorem cJ_J0_init_db425 (l : Launch) (g : GE) {ws : va_W} {i j t sb pb a n : Nat} {f : Nat → Int32} (hi : ws[i]? = some (sb, .inr (10, [.ref pb, .int 0, .int 0, .int (nI n)]))) (hj : ws[j]? = some (pb, .inl (g.2.1 5, 16, .inl f))) (hm : ws[t]? = some (a, .inr (11, [.null, .int 0, .int 0, .int 0]))) (hij : i ≠ j) (hti : t ≠ i) (htj : t ≠ j) (hn16 : n < 16) (hfit : sb_Fit f) : Met l yJ0_init_db425 (.code yJ0_init_db425 cJ0_init_db425 5 (Option.none : Option Jvm.ClassFile.FieldType) :: TB) rmJ_J0_init_db425 (zJc g ws [.ref a, .ref sb, .null]) (jQv g (fun w => ∃ pc, w = ws.set t (a, zSTR pc) ++ [(pc, zBY g n (va_cpy f (fun _ => 0) 0 0 n))])) 1 16 (zA g) := by
  refine zJet (own := RJ0) [(0, .ref a), (1, .ref sb), (2, .null)] (by decide +kernel) rfl (Nat.le_of_ble_eq_true rfl) rfl (fun p e s m args below meth c C hr hnm => ?_)
  refine zj_aload_n C dJ0_init_db425_0 rfl 0 rfl ?_
  refine zj_objInit C wd_1301 wd_42 wd_43 dJ0_init_db425_1 (by decide) (by decide) (Nat.le_of_ble_eq_true rfl) ?_
  refine zj_aload_n C dJ0_init_db425_4 rfl 1 rfl ?_
  refine zj_cr (fun H locs ls hl hp hd hs => zk_U (As := []) (rest := []) C.hx C.hb C.hml C.hown C.ht (cJ_J5_getValue_6d5f1 l g hi) wd_1302 wd_1304 wd_1305 wd_1303 wd_32 wd_1306 rfl ⟨by decide +kernel, by decide +kernel, hz_J5_getValue_6d5f1.2.2⟩ rfl rfl ⟨by decide, by decide⟩ ⟨by decide, by decide⟩ (zPreJV C hp hd hs hi rfl rfl []) rfl hl.1 rfl (Nat.le_of_ble_eq_true rfl) dJ0_init_db425_5) (fun ra w0 hq0 => ?_)
  rw [hq0.1, hq0.2]
  refine zj_astore_n (lv' := [(3, .ref pb), (0, .ref a), (1, .ref sb), (2, .null)]) C dJ0_init_db425_8 rfl (by decide) rfl ?_
  refine zj_aload_n C dJ0_init_db425_9 rfl 2 rfl ?_
  refine zj_ci (fun H locs ls hl hp hd hs => zk_O (As := []) (rest := []) C.hx C.hb C.hml C.hown C.ht (cJ_J4_length_8abf5 l g hi) wd_1307 wd_1309 wd_1308 wd_1310 wd_1311 wd_33 wd_1312 wd_1314 ⟨by decide +kernel, by decide +kernel, hz_J4_length_8abf5.2.2⟩ rfl rfl ⟨by decide, by decide⟩ ⟨by decide, by decide⟩ (zPreJV C hp hd hs hi rfl rfl []) rfl hl.1 rfl (Nat.le_of_ble_eq_true rfl) dJ0_init_db425_10) (fun r w0 hq0 => ?_)
  rw [hq0.1, hq0.2]
  refine zj_istore (lv' := [(4, .int (nI n)), (3, .ref pb), (0, .ref a), (1, .ref sb), (2, .null)]) C dJ0_init_db425_13 (by decide) rfl ?_
  refine zj_aload_n C dJ0_init_db425_15 rfl 3 rfl ?_
  refine zj_ci (fun H locs ls hl hp hd hs => zk_U (As := []) (rest := []) C.hx C.hb C.hml C.hown C.ht (cJ_J5_isLatin1_aae02 l g hi) wd_1315 wd_1192 wd_1193 wd_1191 wd_32 wd_1194 rfl ⟨by decide +kernel, by decide +kernel, hz_J5_isLatin1_aae02.2.2⟩ rfl rfl ⟨by decide, by decide⟩ ⟨by decide, by decide⟩ (zPreJV C hp hd hs hi rfl rfl []) rfl hl.1 rfl (Nat.le_of_ble_eq_true rfl) dJ0_init_db425_16) (fun r w0 hq0 => ?_)
  rw [hq0.1, hq0.2]
  refine zj_if_eq (tgt := 41) C dJ0_init_db425_19 (by decide) (fun h => absurd h (by decide)) (fun _ => ?_)
  refine zj_aload_n C dJ0_init_db425_22 rfl 2 rfl ?_
  refine zj_iconst (v := 0) C dJ0_init_db425_23 (by decide +kernel) ?_
  refine zj_putF C iJ0 tyJ0 tyJ0_ok nmJ0 t hm rfl 1 (by decide) wd_1347 rfl rfl (hnm.trans rfl) rfl (ty := tyJ0 1) (by decide +kernel) rfl rfl (Nat.le_of_ble_eq_true rfl) dJ0_init_db425_24 (fs1 := [.null, .int 0, .int 0, .int 0]) rfl (fun w1 hw1 => ?_)
  have t2 := zl_ne hti hi hw1
  have t3 := zl_ne htj hj hw1
  have t4 := zl_same hm hw1
  refine zj_aload_n C dJ0_init_db425_27 rfl 2 rfl ?_
  refine zj_aload_n C dJ0_init_db425_28 rfl 1 rfl ?_
  refine zj_iconst (v := 0) C dJ0_init_db425_29 (by decide +kernel) ?_
  refine zj_iload C dJ0_init_db425_30 0 rfl ?_
  refine zj_cr (fun H locs ls hl hp hd hs => zk_Sx (As := [.ref pb, .int 0, .int (nI n)]) (rest := [.ref a]) C.hx C.hb C.hml C.hown C.ht (cJ_J7_copyOfRange_39247 l g t3 hn16 hfit) wd_1316 wd_1317 wd_35 wd_1318 hz_J7_copyOfRange_39247 rfl rfl ⟨by decide, by decide⟩ ⟨by decide, by decide⟩ (zPreJ C hp hd hs [.ref pb, .int 0, .int (nI n)]) rfl hl.1 rfl (Nat.le_of_ble_eq_true rfl) dJ0_init_db425_32) (fun ra w0 hq0 => ?_)
  obtain ⟨w5, hw5⟩ : ∃ z, z = w0 := ⟨_, rfl⟩
  rw [← hw5]
  rw [← hw5] at hq0
  have t6 := zl_app t2 hq0
  have t7 := zl_app t3 hq0
  have t8 := zl_app t4 hq0
  refine zj_putF C iJ0 tyJ0 tyJ0_ok nmJ0 t t8 rfl 0 (by decide) wd_1346 rfl rfl (hnm.trans rfl) rfl (ty := tyJ0 0) (by decide +kernel) rfl rfl (Nat.le_of_ble_eq_true rfl) dJ0_init_db425_35 (fs1 := [.ref ra, .int 0, .int 0, .int 0]) rfl (fun w9 hw9 => ?_)
  have t10 := zl_ne hti t6 hw9
  have t11 := zl_ne htj t7 hw9
  have t12 := zl_same t8 hw9
  refine zj_goto (tgt := 97) C dJ0_init_db425_38 (by decide) ?_
  refine zj_vret C hr dJ0_init_db425_97 ⟨ra, ?_⟩
  rw [hw9, hq0, hw1, List.set_append_left _ _ (by rw [List.length_set]; exact (List.getElem?_eq_some_iff.mp hm).1), List.set_set]
abbrev rmJ_J0_init_81219 : Room := { frames := 4, cells := 1, slots := 16, locals := 139 }
set_option maxHeartbeats 4000000 in
set_option maxRecDepth 100000 in
theorem cJ_J0_init_81219 (l : Launch) (g : GE) {ws : va_W} {i j t sb pb a n : Nat} {f : Nat → Int32} (hi : ws[i]? = some (sb, .inr (10, [.ref pb, .int 0, .int 0, .int (nI n)]))) (hj : ws[j]? = some (pb, .inl (g.2.1 5, 16, .inl f))) (hm : ws[t]? = some (a, .inr (11, [.null, .int 0, .int 0, .int 0]))) (hij : i ≠ j) (hti : t ≠ i) (htj : t ≠ j) (hn16 : n < 16) (hfit : sb_Fit f) : Met l yJ0_init_81219 (.code yJ0_init_81219 cJ0_init_81219 2 (Option.none : Option Jvm.ClassFile.FieldType) :: TB) rmJ_J0_init_81219 (zJc g ws [.ref a, .ref sb]) (jQv g (fun w => ∃ pc, w = ws.set t (a, zSTR pc) ++ [(pc, zBY g n (va_cpy f (fun _ => 0) 0 0 n))])) 1 16 (zA g) := by
  refine zJet (own := RJ0) [(0, .ref a), (1, .ref sb)] (by decide +kernel) rfl (Nat.le_of_ble_eq_true rfl) rfl (fun p e s m args below meth c C hr hnm => ?_)
  refine zj_aload_n C dJ0_init_81219_0 rfl 0 rfl ?_
  refine zj_aload_n C dJ0_init_81219_1 rfl 1 rfl ?_
  refine zj_null C dJ0_init_81219_2 ?_
  refine zj_cv (fun H locs ls hl hp hd hs => zk_I (As := [.ref sb, .null]) (rest := []) C.hx C.hb C.hml C.hown C.ht (cJ_J0_init_db425 l g hi hj hm hij hti htj hn16 hfit) wd_1298 wd_1299 wd_25 wd_1300 rfl rfl hz_J0_init_db425 rfl rfl ⟨by decide, by decide⟩ ⟨by decide, by decide⟩ (zPreJ C hp hd hs (.ref a :: [.ref sb, .null])) rfl hl.1 rfl (Nat.le_of_ble_eq_true rfl) dJ0_init_81219_3) (fun w0 hq0 => ?_)
  exact zj_vret C hr dJ0_init_81219_6 hq0
abbrev rmJ_J4_toString_0e30d : Room := { frames := 5, cells := 2, slots := 20, locals := 160 }
set_option maxHeartbeats 4000000 in
set_option maxRecDepth 100000 in
theorem cJ_J4_toString_0e30d (l : Launch) (g : GE) {ws : va_W} {i j sb pb n : Nat} {f : Nat → Int32} (hi : ws[i]? = some (sb, .inr (10, [.ref pb, .int 0, .int 0, .int (nI n)]))) (hj : ws[j]? = some (pb, .inl (g.2.1 5, 16, .inl f))) (hij : i ≠ j) (hn16 : n < 16) (hfit : sb_Fit f) : Met l yJ4_toString_0e30d (.code yJ4_toString_0e30d cJ4_toString_0e30d 1 (Option.some (Jvm.ClassFile.FieldType.object "java/lang/String")) :: TB) rmJ_J4_toString_0e30d (zJc g ws [.ref sb]) (jQr g (fun ra w => ∃ pc, w = ws ++ [(ra, zSTR pc), (pc, zBY g n (va_cpy f (fun _ => 0) 0 0 n))])) 2 20 (zA g) := by
  refine zJet (own := RJ4) [(0, .ref sb)] (by decide +kernel) rfl (Nat.le_of_ble_eq_true rfl) rfl (fun p e s m args below meth c C hr hnm => ?_)
  refine zj_new (ci := 11) (fs := [.null, .int 0, .int 0, .int 0]) C iJ0 tyJ0 tyJ0_ok wd_1294 wd_537 wd_25 rfl (zFs (by rfl)) (by decide) (by decide) dJ4_toString_0e30d_0 (fun a w1 hw1 => ?_)
  have t2 := zl_app hi hw1
  have t3 := zl_app hj hw1
  have t4 : w1[ws.length]? = some (a, .inr (11, [.null, .int 0, .int 0, .int 0])) := by rw [hw1, List.getElem?_append_right (Nat.le_refl _), Nat.sub_self]; rfl
  refine zj_dup C dJ4_toString_0e30d_3 rfl ?_
  refine zj_aload_n C dJ4_toString_0e30d_4 rfl 0 rfl ?_
  refine zj_cv (fun H locs ls hl hp hd hs => zk_I (As := [.ref sb]) (rest := [.ref a]) C.hx C.hb C.hml C.hown C.ht (cJ_J0_init_81219 l g t2 t3 t4 hij (Ne.symm (Nat.ne_of_lt (List.getElem?_eq_some_iff.mp hi).1)) (Ne.symm (Nat.ne_of_lt (List.getElem?_eq_some_iff.mp hj).1)) hn16 hfit) wd_1295 wd_1296 wd_25 wd_1297 rfl rfl hz_J0_init_81219 rfl rfl ⟨by decide, by decide⟩ ⟨by decide, by decide⟩ (zPreJ C hp hd hs (.ref a :: [.ref sb])) rfl hl.1 rfl (Nat.le_of_ble_eq_true rfl) dJ4_toString_0e30d_5) (fun w0 hq0 => ?_)
  obtain ⟨pc9, e9⟩ := hq0
  exact zj_aret C hr (Or.inl ⟨_, rfl⟩) dJ4_toString_0e30d_8 ⟨pc9, by rw [e9, hw1, zset_last, List.append_assoc]; rfl⟩
