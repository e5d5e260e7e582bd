theorem wd_25 : (Jvm.Cond.initialized "java/lang/String") ∈ TB := zTB 25 (by decide +kernel) (by decide +kernel)
theorem wd_29 : (Jvm.Cond.initialized "java/lang/StringLatin1") ∈ TB := zTB 29 (by decide +kernel) (by decide +kernel)
theorem wd_30 : (Jvm.Cond.initialized "jdk/internal/util/Preconditions") ∈ TB := zTB 30 (by decide +kernel) (by decide +kernel)
theorem wd_1207 : (Jvm.Cond.fieldLink "java/lang/String" (1053 : Nat) "jdk/internal/util/Preconditions" "SIOOBE_FORMATTER" "Ljava/util/function/BiFunction;") ∈ TB := zTB 1207 (by decide +kernel) (by decide +kernel)
theorem wd_1225 : (Jvm.Cond.methodLink "java/lang/String" (335 : Nat) ({ cls := "java/lang/String", name := "coder", desc := "()B" } : Jvm.MethodName)) ∈ TB := zTB 1225 (by decide +kernel) (by decide +kernel)
theorem wd_1226 : (Jvm.Cond.instanceMethod ({ cls := "java/lang/String", name := "coder", desc := "()B" } : Jvm.MethodName)) ∈ TB := zTB 1226 (by decide +kernel) (by decide +kernel)
theorem wd_1227 : (Jvm.Cond.selects "java/lang/String" ({ cls := "java/lang/String", name := "coder", desc := "()B" } : Jvm.MethodName) ({ cls := "java/lang/String", name := "coder", desc := "()B" } : Jvm.MethodName)) ∈ TB := zTB 1227 (by decide +kernel) (by decide +kernel)
theorem wd_1228 : (Jvm.Cond.code ({ cls := "java/lang/String", name := "coder", desc := "()B" } : Jvm.MethodName) prog_32_method_152_code (1 : Nat) (Option.some Jvm.ClassFile.FieldType.byte)) ∈ TB := zTB 1228 (by decide +kernel) (by decide +kernel)
theorem wd_1229 : (Jvm.Cond.fieldLink "java/lang/String" (38 : Nat) "java/lang/String" "COMPACT_STRINGS" "Z") ∈ TB := zTB 1229 (by decide +kernel) (by decide +kernel)
theorem wd_1346 : (Jvm.Cond.fieldLink "java/lang/String" (9 : Nat) "java/lang/String" "value" "[B") ∈ TB := zTB 1346 (by decide +kernel) (by decide +kernel)
theorem wd_1347 : (Jvm.Cond.fieldLink "java/lang/String" (15 : Nat) "java/lang/String" "coder" "B") ∈ TB := zTB 1347 (by decide +kernel) (by decide +kernel)
theorem wd_1363 : (Jvm.Cond.methodLink "java/lang/String" (492 : Nat) ({ cls := "java/lang/String", name := "isLatin1", desc := "()Z" } : Jvm.MethodName)) ∈ TB := zTB 1363 (by decide +kernel) (by decide +kernel)
theorem wd_1364 : (Jvm.Cond.instanceMethod ({ cls := "java/lang/String", name := "isLatin1", desc := "()Z" } : Jvm.MethodName)) ∈ TB := zTB 1364 (by decide +kernel) (by decide +kernel)
theorem wd_1365 : (Jvm.Cond.selects "java/lang/String" ({ cls := "java/lang/String", name := "isLatin1", desc := "()Z" } : Jvm.MethodName) ({ cls := "java/lang/String", name := "isLatin1", desc := "()Z" } : Jvm.MethodName)) ∈ TB := zTB 1365 (by decide +kernel) (by decide +kernel)
theorem wd_1366 : (Jvm.Cond.code ({ cls := "java/lang/String", name := "isLatin1", desc := "()Z" } : Jvm.MethodName) prog_32_method_154_code (1 : Nat) (Option.some Jvm.ClassFile.FieldType.boolean)) ∈ TB := zTB 1366 (by decide +kernel) (by decide +kernel)
theorem wd_1367 : (Jvm.Cond.methodLink "java/lang/String" (495 : Nat) ({ cls := "java/lang/StringLatin1", name := "charAt", desc := "([BI)C" } : Jvm.MethodName)) ∈ TB := zTB 1367 (by decide +kernel) (by decide +kernel)
theorem wd_1368 : (Jvm.Cond.static ({ cls := "java/lang/StringLatin1", name := "charAt", desc := "([BI)C" } : Jvm.MethodName)) ∈ TB := zTB 1368 (by decide +kernel) (by decide +kernel)
theorem wd_1369 : (Jvm.Cond.code ({ cls := "java/lang/StringLatin1", name := "charAt", desc := "([BI)C" } : Jvm.MethodName) prog_34_method_2_code (2 : Nat) (Option.some Jvm.ClassFile.FieldType.char)) ∈ TB := zTB 1369 (by decide +kernel) (by decide +kernel)
theorem wd_1370 : (Jvm.Cond.methodLink "java/lang/StringLatin1" (9 : Nat) ({ cls := "java/lang/String", name := "checkIndex", desc := "(II)V" } : Jvm.MethodName)) ∈ TB := zTB 1370 (by decide +kernel) (by decide +kernel)
theorem wd_1371 : (Jvm.Cond.static ({ cls := "java/lang/String", name := "checkIndex", desc := "(II)V" } : Jvm.MethodName)) ∈ TB := zTB 1371 (by decide +kernel) (by decide +kernel)
theorem wd_1372 : (Jvm.Cond.code ({ cls := "java/lang/String", name := "checkIndex", desc := "(II)V" } : Jvm.MethodName) prog_32_method_155_code (2 : Nat) (Option.none : Option Jvm.ClassFile.FieldType)) ∈ TB := zTB 1372 (by decide +kernel) (by decide +kernel)
theorem wd_1373 : (Jvm.Cond.methodLink "java/lang/String" (1059 : Nat) ({ cls := "jdk/internal/util/Preconditions", name := "checkIndex", desc := "(IILjava/util/function/BiFunction;)I" } : Jvm.MethodName)) ∈ TB := zTB 1373 (by decide +kernel) (by decide +kernel)
theorem wd_1374 : (Jvm.Cond.static ({ cls := "jdk/internal/util/Preconditions", name := "checkIndex", desc := "(IILjava/util/function/BiFunction;)I" } : Jvm.MethodName)) ∈ TB := zTB 1374 (by decide +kernel) (by decide +kernel)
theorem wd_1375 : (Jvm.Cond.code ({ cls := "jdk/internal/util/Preconditions", name := "checkIndex", desc := "(IILjava/util/function/BiFunction;)I" } : Jvm.MethodName) prog_44_method_11_code (3 : Nat) (Option.some Jvm.ClassFile.FieldType.int)) ∈ TB := zTB 1375 (by decide +kernel) (by decide +kernel)
theorem hz_J0_coder_7d493 : (yJ0_coder_7d493.cls ≠ "java/lang/invoke/MethodHandle" ∧ yJ0_coder_7d493.cls ≠ "java/lang/invoke/VarHandle" ∧ (parseMethodDescriptor yJ0_coder_7d493.desc).map (fun d => d.parameters.length) = some 0) := ⟨by decide +kernel, by decide +kernel, by decide +kernel⟩
theorem hy_J0_coder_7d493 : yJ0_coder_7d493.cls = RJ0 ∧ (yJ0_coder_7d493.cls ≠ "java/lang/invoke/MethodHandle" ∧ yJ0_coder_7d493.cls ≠ "java/lang/invoke/VarHandle" ∧ (parseMethodDescriptor yJ0_coder_7d493.desc).map (fun d => d.parameters.length) = some 0) := ⟨rfl, hz_J0_coder_7d493⟩
theorem hz_J3_checkIndex_8e157 : (yJ3_checkIndex_8e157.cls ≠ "java/lang/invoke/MethodHandle" ∧ yJ3_checkIndex_8e157.cls ≠ "java/lang/invoke/VarHandle" ∧ (parseMethodDescriptor yJ3_checkIndex_8e157.desc).map (fun d => d.parameters.length) = some 3) := ⟨by decide +kernel, by decide +kernel, by decide +kernel⟩
theorem hy_J3_checkIndex_8e157 : yJ3_checkIndex_8e157.cls = RJ3 ∧ (yJ3_checkIndex_8e157.cls ≠ "java/lang/invoke/MethodHandle" ∧ yJ3_checkIndex_8e157.cls ≠ "java/lang/invoke/VarHandle" ∧ (parseMethodDescriptor yJ3_checkIndex_8e157.desc).map (fun d => d.parameters.length) = some 3) := ⟨rfl, hz_J3_checkIndex_8e157⟩
theorem hz_J0_checkIndex_df160 : (yJ0_checkIndex_df160.cls ≠ "java/lang/invoke/MethodHandle" ∧ yJ0_checkIndex_df160.cls ≠ "java/lang/invoke/VarHandle" ∧ (parseMethodDescriptor yJ0_checkIndex_df160.desc).map (fun d => d.parameters.length) = some 2) := ⟨by decide +kernel, by decide +kernel, by decide +kernel⟩
theorem hy_J0_checkIndex_df160 : yJ0_checkIndex_df160.cls = RJ0 ∧ (yJ0_checkIndex_df160.cls ≠ "java/lang/invoke/MethodHandle" ∧ yJ0_checkIndex_df160.cls ≠ "java/lang/invoke/VarHandle" ∧ (parseMethodDescriptor yJ0_checkIndex_df160.desc).map (fun d => d.parameters.length) = some 2) := ⟨rfl, hz_J0_checkIndex_df160⟩
theorem hz_J0_isLatin1_aae02 : (yJ0_isLatin1_aae02.cls ≠ "java/lang/invoke/MethodHandle" ∧ yJ0_isLatin1_aae02.cls ≠ "java/lang/invoke/VarHandle" ∧ (parseMethodDescriptor yJ0_isLatin1_aae02.desc).map (fun d => d.parameters.length) = some 0) := ⟨by decide +kernel, by decide +kernel, by decide +kernel⟩
theorem hy_J0_isLatin1_aae02 : yJ0_isLatin1_aae02.cls = RJ0 ∧ (yJ0_isLatin1_aae02.cls ≠ "java/lang/invoke/MethodHandle" ∧ yJ0_isLatin1_aae02.cls ≠ "java/lang/invoke/VarHandle" ∧ (parseMethodDescriptor yJ0_isLatin1_aae02.desc).map (fun d => d.parameters.length) = some 0) := ⟨rfl, hz_J0_isLatin1_aae02⟩
theorem hz_J1_charAt_3b067 : (yJ1_charAt_3b067.cls ≠ "java/lang/invoke/MethodHandle" ∧ yJ1_charAt_3b067.cls ≠ "java/lang/invoke/VarHandle" ∧ (parseMethodDescriptor yJ1_charAt_3b067.desc).map (fun d => d.parameters.length) = some 2) := ⟨by decide +kernel, by decide +kernel, by decide +kernel⟩
theorem hy_J1_charAt_3b067 : yJ1_charAt_3b067.cls = RJ1 ∧ (yJ1_charAt_3b067.cls ≠ "java/lang/invoke/MethodHandle" ∧ yJ1_charAt_3b067.cls ≠ "java/lang/invoke/VarHandle" ∧ (parseMethodDescriptor yJ1_charAt_3b067.desc).map (fun d => d.parameters.length) = some 2) := ⟨rfl, hz_J1_charAt_3b067⟩
theorem zsr0 (x : Int32) : x >>> ((0 : Int32) &&& 31) = x := by
  have : ((0 : Int32) &&& 31) = 0 := by decide
  rw [this, Int32.shiftRight_zero]
theorem zsl0 (x : Int32) : x <<< ((0 : Int32) &&& 31) = x := by
  have : ((0 : Int32) &&& 31) = 0 := by decide
  rw [this, Int32.shiftLeft_zero]
/-- the character that a byte stands for -/
def zChr (x : Int32) : Int32 := ((x &&& 255).toUInt32 % 65536).toInt32
theorem zChr_n (x : Int32) : ∃ q, q < 256 ∧ zChr x = nI q := by
  obtain ⟨j, hj, e2⟩ := pk_andE x (m := 255) 8 (by decide)
  refine ⟨j, by omega, ?_⟩
  unfold zChr
  rw [e2]
  exact (sb_byte j (by omega)).2.1
theorem zChr_ok (x : Int32) : narrow .char (.int (zChr x)) = .int (zChr x) := by
  obtain ⟨q, hq, e⟩ := zChr_n x
  rw [e]
  exact (pk_charN (by omega)).1
abbrev rmJ_J0_coder_7d493 : Room := { frames := 0, cells := 0, slots := 0, locals := 0 }
set_option maxHeartbeats 4000000 in
set_option maxRecDepth 100000 in
theorem cJ_J0_coder_7d493 (l : Launch) (g : GE) {a pb : Nat} {bs : List Int32} : Met l yJ0_coder_7d493 (.code yJ0_coder_7d493 cJ0_coder_7d493 1 (Option.some Jvm.ClassFile.FieldType.byte) :: TB) rmJ_J0_coder_7d493 (zRc (fun U : State => zStrF a pb bs zNo U U.heap) [.ref a]) (rQi (fun r => r = 0)) 0 0 zNo := by
  refine zRet g (own := RJ0) [(0, .ref a)] (by decide +kernel) rfl (Nat.le_of_ble_eq_true rfl) rfl (fun p e s m args below meth c C hr hB => ?_)
  refine zs_gets C C.hjdk.1 wd_1229 dJ0_coder_7d493_0 ?_
  refine zs_if_eq (tgt := 13) C dJ0_coder_7d493_3 (by decide) (fun h => absurd h (by decide)) (fun _ => ?_)
  refine zs_aload_n C dJ0_coder_7d493_6 rfl 0 rfl ?_
  refine zs_tget C hB.2.1 wd_1347 dJ0_coder_7d493_7 ?_
  refine zs_goto (tgt := 14) C dJ0_coder_7d493_10 (by decide) ?_
  exact zs_zret C hr (by decide +kernel) dJ0_coder_7d493_14 rfl
abbrev rmJ_J0_isLatin1_aae02 : Room := { frames := 0, cells := 0, slots := 0, locals := 0 }
set_option maxHeartbeats 4000000 in
set_option maxRecDepth 100000 in
theorem cJ_J0_isLatin1_aae02 (l : Launch) (g : GE) {a pb : Nat} {bs : List Int32} : Met l yJ0_isLatin1_aae02 (.code yJ0_isLatin1_aae02 cJ0_isLatin1_aae02 1 (Option.some Jvm.ClassFile.FieldType.boolean) :: TB) rmJ_J0_isLatin1_aae02 (zRc (fun U : State => zStrF a pb bs zNo U U.heap) [.ref a]) (rQi (fun r => r = 1)) 0 0 zNo := by
  refine zRet g (own := RJ0) [(0, .ref a)] (by decide +kernel) rfl (Nat.le_of_ble_eq_true rfl) rfl (fun p e s m args below meth c C hr hB => ?_)
  refine zs_gets C C.hjdk.1 wd_1229 dJ0_isLatin1_aae02_0 ?_
  refine zs_if_eq (tgt := 17) C dJ0_isLatin1_aae02_3 (by decide) (fun h => absurd h (by decide)) (fun _ => ?_)
  refine zs_aload_n C dJ0_isLatin1_aae02_6 rfl 0 rfl ?_
  refine zs_tget C hB.2.1 wd_1347 dJ0_isLatin1_aae02_7 ?_
  refine zs_if_ne (tgt := 17) C dJ0_isLatin1_aae02_10 (by decide) (fun h => absurd h (by decide)) (fun _ => ?_)
  refine zs_iconst (v := 1) C dJ0_isLatin1_aae02_13 (by decide +kernel) ?_
  refine zs_goto (tgt := 18) C dJ0_isLatin1_aae02_14 (by decide) ?_
  exact zs_zret C hr (by decide +kernel) dJ0_isLatin1_aae02_18 rfl
abbrev rmJ_J0_length_8abf5 : Room := { frames := 1, cells := 0, slots := 0, locals := 20 }
set_option maxHeartbeats 4000000 in
set_option maxRecDepth 100000 in
theorem cJ_J0_length_8abf5 (l : Launch) (g : GE) {a pb : Nat} {bs : List Int32} : Met l yJ0_length_8abf5 (.code yJ0_length_8abf5 cJ0_length_8abf5 1 (Option.some Jvm.ClassFile.FieldType.int) :: TB) rmJ_J0_length_8abf5 (zRc (fun U : State => zStrF a pb bs zNo U U.heap) [.ref a]) (rQi (fun r => r = nI bs.length)) 0 0 zNo := by
  refine zRet g (own := RJ0) [(0, .ref a)] (by decide +kernel) rfl (Nat.le_of_ble_eq_true rfl) rfl (fun p e s m args below meth c C hr hB => ?_)
  refine zs_aload_n C dJ0_length_8abf5_0 rfl 0 rfl ?_
  refine zs_tget C hB.2.2.1 wd_1346 dJ0_length_8abf5_1 ?_
  refine zs_tlen C hB.2.2.2 (v := nI bs.length) rfl dJ0_length_8abf5_4 ?_
  refine zs_aload_n C dJ0_length_8abf5_5 rfl 0 rfl ?_
  refine zs_ci (fun H locs ls hl hs => zk_V (As := []) (rest := [.int (nI bs.length)]) C.hx C.hb C.hml C.hown C.ht (cJ_J0_coder_7d493 l g (a := a) (pb := pb) (bs := bs)) wd_1225 wd_1226 wd_1227 wd_25 wd_1228 hy_J0_coder_7d493 rfl rfl ⟨by decide, by decide⟩ ⟨by decide, by decide⟩ (zPreRV C.hjdk hs hB zBm_str (zBstr hB hs)) rfl hl.1 rfl (Nat.le_of_ble_eq_true rfl) dJ0_length_8abf5_6) (fun r hq => ?_)
  subst hq
  refine zs_ishr C dJ0_length_8abf5_9 ?_
  refine zs_nmI (y := nI bs.length) (zsr0 _) ?_
  exact zs_zret C hr (by rfl) dJ0_length_8abf5_10 rfl
abbrev rmJ_J3_checkIndexR : Room := { frames := 0, cells := 0, slots := 0, locals := 0 }
set_option maxHeartbeats 4000000 in
set_option maxRecDepth 100000 in
theorem cJ_J3_checkIndexR (l : Launch) (g : GE) {q : Nat} {i n : Nat} (hi : i < n) (hn : n < 2 ^ 31) : Met l yJ3_checkIndex_8e157 (.code yJ3_checkIndex_8e157 cJ3_checkIndex_8e157 3 (Option.some Jvm.ClassFile.FieldType.int) :: TB) rmJ_J3_checkIndexR (zRc (fun _ => True) [.int (nI i), .int (nI n), .ref q]) (rQi (fun r => r = nI i)) 0 0 zNo := by
  refine zRet g (own := RJ3) [(0, .int (nI i)), (1, .int (nI n)), (2, .ref q)] (by decide +kernel) rfl (Nat.le_of_ble_eq_true rfl) rfl (fun p e s m args below meth c C hr hB => ?_)
  refine zs_iload_n C dJ3_checkIndex_8e157_0 rfl 0 rfl ?_
  refine zs_if_lt (tgt := 9) C dJ3_checkIndex_8e157_1 (by decide) (fun h => absurd h (nI_pos (by omega))) (fun _ => ?_)
  refine zs_iload_n C dJ3_checkIndex_8e157_4 rfl 0 rfl ?_
  refine zs_iload_n C dJ3_checkIndex_8e157_5 rfl 1 rfl ?_
  refine zs_icmp_lt (tgt := 16) C dJ3_checkIndex_8e157_6 (by decide) (fun _ => ?_) (fun h => absurd (nI_lt hi hn) h)
  refine zs_iload_n C dJ3_checkIndex_8e157_16 rfl 0 rfl ?_
  exact zs_zret C hr (by rfl) dJ3_checkIndex_8e157_17 rfl
abbrev rmJ_J3_checkIndexN : Room := { frames := 0, cells := 0, slots := 0, locals := 0 }
set_option maxHeartbeats 4000000 in
set_option maxRecDepth 100000 in
theorem cJ_J3_checkIndexN (l : Launch) (g : GE) {i n : Nat} (hi : i < n) (hn : n < 2 ^ 31) : Met l yJ3_checkIndex_8e157 (.code yJ3_checkIndex_8e157 cJ3_checkIndex_8e157 3 (Option.some Jvm.ClassFile.FieldType.int) :: TB) rmJ_J3_checkIndexN (zRc (fun _ => True) [.int (nI i), .int (nI n), .null]) (rQi (fun r => r = nI i)) 0 0 zNo := by
  refine zRet g (own := RJ3) [(0, .int (nI i)), (1, .int (nI n)), (2, .null)] (by decide +kernel) rfl (Nat.le_of_ble_eq_true rfl) rfl (fun p e s m args below meth c C hr hB => ?_)
  refine zs_iload_n C dJ3_checkIndex_8e157_0 rfl 0 rfl ?_
  refine zs_if_lt (tgt := 9) C dJ3_checkIndex_8e157_1 (by decide) (fun h => absurd h (nI_pos (by omega))) (fun _ => ?_)
  refine zs_iload_n C dJ3_checkIndex_8e157_4 rfl 0 rfl ?_
  refine zs_iload_n C dJ3_checkIndex_8e157_5 rfl 1 rfl ?_
  refine zs_icmp_lt (tgt := 16) C dJ3_checkIndex_8e157_6 (by decide) (fun _ => ?_) (fun h => absurd (nI_lt hi hn) h)
  refine zs_iload_n C dJ3_checkIndex_8e157_16 rfl 0 rfl ?_
  exact zs_zret C hr (by rfl) dJ3_checkIndex_8e157_17 rfl
abbrev rmJ_J0_checkIndex_df160 : Room := { frames := 1, cells := 0, slots := 0, locals := 22 }
set_option maxHeartbeats 4000000 in
set_option maxRecDepth 100000 in
theorem cJ_J0_checkIndex_df160 (l : Launch) (g : GE) {i n : Nat} (hi : i < n) (hn : n < 2 ^ 31) : Met l yJ0_checkIndex_df160 (.code yJ0_checkIndex_df160 cJ0_checkIndex_df160 2 (Option.none : Option Jvm.ClassFile.FieldType) :: TB) rmJ_J0_checkIndex_df160 (zRc (fun _ => True) [.int (nI i), .int (nI n)]) rQv 0 0 zNo := by
  refine zRet g (own := RJ0) [(0, .int (nI i)), (1, .int (nI n))] (by decide +kernel) rfl (Nat.le_of_ble_eq_true rfl) rfl (fun p e s m args below meth c C hr hB => ?_)
  rcases C.hjdk.2.1 with hz | ⟨q, hz⟩
  · refine zs_iload_n C dJ0_checkIndex_df160_0 rfl 0 rfl ?_
    refine zs_iload_n C dJ0_checkIndex_df160_1 rfl 1 rfl ?_
    refine zs_gets C hz wd_1207 dJ0_checkIndex_df160_2 ?_
    refine zs_ci (fun H locs ls hl hs => zk_Sx (As := [.int (nI i), .int (nI n), .null]) (rest := []) C.hx C.hb C.hml C.hown C.ht (cJ_J3_checkIndexN l g hi hn) wd_1373 wd_1374 wd_30 wd_1375 hz_J3_checkIndex_8e157 rfl rfl ⟨by decide, by decide⟩ ⟨by decide, by decide⟩ (zPreR C.hjdk hs zBm_t (fun _ _ _ => trivial)) rfl hl.1 rfl (Nat.le_of_ble_eq_true rfl) dJ0_checkIndex_df160_5) (fun r hq => ?_)
    refine zs_pop C dJ0_checkIndex_df160_8 rfl ?_
    exact zs_vret C hr dJ0_checkIndex_df160_9
  · refine zs_iload_n C dJ0_checkIndex_df160_0 rfl 0 rfl ?_
    refine zs_iload_n C dJ0_checkIndex_df160_1 rfl 1 rfl ?_
    refine zs_gets C hz wd_1207 dJ0_checkIndex_df160_2 ?_
    refine zs_ci (fun H locs ls hl hs => zk_Sx (As := [.int (nI i), .int (nI n), .ref q]) (rest := []) C.hx C.hb C.hml C.hown C.ht (cJ_J3_checkIndexR l g (q := q) hi hn) wd_1373 wd_1374 wd_30 wd_1375 hz_J3_checkIndex_8e157 rfl rfl ⟨by decide, by decide⟩ ⟨by decide, by decide⟩ (zPreR C.hjdk hs zBm_t (fun _ _ _ => trivial)) rfl hl.1 rfl (Nat.le_of_ble_eq_true rfl) dJ0_checkIndex_df160_5) (fun r hq => ?_)
    refine zs_pop C dJ0_checkIndex_df160_8 rfl ?_
    exact zs_vret C hr dJ0_checkIndex_df160_9
abbrev rmJ_J1_charAt_3b067 : Room := { frames := 2, cells := 0, slots := 0, locals := 43 }
set_option maxHeartbeats 4000000 in
set_option maxRecDepth 100000 in
theorem cJ_J1_charAt_3b067 (l : Launch) (g : GE) {pb i : Nat} {bs : List Int32} (hi : i < bs.length) (hn : bs.length < 2 ^ 31) : Met l yJ1_charAt_3b067 (.code yJ1_charAt_3b067 cJ1_charAt_3b067 2 (Option.some Jvm.ClassFile.FieldType.char) :: TB) rmJ_J1_charAt_3b067 (zRc (fun U : State => va_T .byte pb bs.length (fun j => .int (bs.getD j 0)) zNo U U.heap) [.ref pb, .int (nI i)]) (rQi (fun r => r = zChr (bs.getD i 0))) 0 0 zNo := by
  refine zRet g (own := RJ1) [(0, .ref pb), (1, .int (nI i))] (by decide +kernel) rfl (Nat.le_of_ble_eq_true rfl) rfl (fun p e s m args below meth c C hr hB => ?_)
  refine zs_iload_n C dJ1_charAt_3b067_0 rfl 1 rfl ?_
  refine zs_aload_n C dJ1_charAt_3b067_1 rfl 0 rfl ?_
  refine zs_tlen C hB (v := nI bs.length) rfl dJ1_charAt_3b067_2 ?_
  refine zs_cv (fun H locs ls hl hs => zk_Sx (As := [.int (nI i), .int (nI bs.length)]) (rest := []) C.hx C.hb C.hml C.hown C.ht (cJ_J0_checkIndex_df160 l g hi hn) wd_1370 wd_1371 wd_25 wd_1372 hz_J0_checkIndex_df160 rfl rfl ⟨by decide, by decide⟩ ⟨by decide, by decide⟩ (zPreR C.hjdk hs zBm_t (fun _ _ _ => trivial)) rfl hl.1 rfl (Nat.le_of_ble_eq_true rfl) dJ1_charAt_3b067_3) ?_
  refine zs_aload_n C dJ1_charAt_3b067_6 rfl 0 rfl ?_
  refine zs_iload_n C dJ1_charAt_3b067_7 rfl 1 rfl ?_
  refine zs_tb C hB (vp_in_nI hi hn) (v := .int (bs.getD i 0)) (by rw [nI_clamp (Nat.lt_trans hi hn)]) dJ1_charAt_3b067_8 ?_
  refine zs_sipush (v := 255) C dJ1_charAt_3b067_9 (by decide +kernel) ?_
  refine zs_iand C dJ1_charAt_3b067_12 ?_
  refine zs_i2c C dJ1_charAt_3b067_13 ?_
  exact zs_zret C hr (zChr_ok _) dJ1_charAt_3b067_14 rfl
abbrev rmJ_J0_charAt_5068e : Room := { frames := 3, cells := 0, slots := 0, locals := 64 }
set_option maxHeartbeats 4000000 in
set_option maxRecDepth 100000 in
theorem cJ_J0_charAt_5068e (l : Launch) (g : GE) {a pb i : Nat} {bs : List Int32} (hi : i < bs.length) (hn : bs.length < 2 ^ 31) : Met l yJ0_charAt_5068e (.code yJ0_charAt_5068e cJ0_charAt_5068e 2 (Option.some Jvm.ClassFile.FieldType.char) :: TB) rmJ_J0_charAt_5068e (zRc (fun U : State => zStrF a pb bs zNo U U.heap) [.ref a, .int (nI i)]) (rQi (fun r => r = zChr (bs.getD i 0))) 0 0 zNo := by
  refine zRet g (own := RJ0) [(0, .ref a), (1, .int (nI i))] (by decide +kernel) rfl (Nat.le_of_ble_eq_true rfl) rfl (fun p e s m args below meth c C hr hB => ?_)
  refine zs_aload_n C dJ0_charAt_5068e_0 rfl 0 rfl ?_
  refine zs_ci (fun H locs ls hl hs => zk_V (As := []) (rest := []) C.hx C.hb C.hml C.hown C.ht (cJ_J0_isLatin1_aae02 l g (a := a) (pb := pb) (bs := bs)) wd_1363 wd_1364 wd_1365 wd_25 wd_1366 hy_J0_isLatin1_aae02 rfl rfl ⟨by decide, by decide⟩ ⟨by decide, by decide⟩ (zPreRV C.hjdk hs hB zBm_str (zBstr hB hs)) rfl hl.1 rfl (Nat.le_of_ble_eq_true rfl) dJ0_charAt_5068e_1) (fun r hq => ?_)
  subst hq
  refine zs_if_eq (tgt := 16) C dJ0_charAt_5068e_4 (by decide) (fun h => absurd h (by decide)) (fun _ => ?_)
  refine zs_aload_n C dJ0_charAt_5068e_7 rfl 0 rfl ?_
  refine zs_tget C hB.2.2.1 wd_1346 dJ0_charAt_5068e_8 ?_
  refine zs_iload_n C dJ0_charAt_5068e_11 rfl 1 rfl ?_
  refine zs_ci (fun H locs ls hl hs => zk_Sx (As := [.ref pb, .int (nI i)]) (rest := []) C.hx C.hb C.hml C.hown C.ht (cJ_J1_charAt_3b067 l g (pb := pb) (i := i) (bs := bs) hi hn) wd_1367 wd_1368 wd_29 wd_1369 hz_J1_charAt_3b067 rfl rfl ⟨by decide, by decide⟩ ⟨by decide, by decide⟩ (zPreR C.hjdk hs zBm_T (zBT hB.2.2.2 hs)) rfl hl.1 rfl (Nat.le_of_ble_eq_true rfl) dJ0_charAt_5068e_12) (fun r hq => ?_)
  subst hq
  exact zs_zret C hr (zChr_ok _) dJ0_charAt_5068e_15 rfl
/-- how many digits: of numbers below 10000 -/
def zDg (v : Nat) : Nat := if v < 10 then 1 else if v < 100 then 2 else if v < 1000 then 3 else 4
theorem zsz_n {v c : Nat} (h : v < c) (hc : c < 2 ^ 31) : ¬ -nI v ≤ -nI c := fun z => by
  have := (sb_nle (a := v) (b := c) (by omega) hc).mp z
  omega
theorem zsz_y {v c : Nat} (h : c ≤ v) (hv : v < 2 ^ 31) : -nI v ≤ -nI c := (sb_nle hv (by omega)).mpr h
abbrev rmJ_J6_stringSize_0f7a4 : Room := { frames := 0, cells := 0, slots := 0, locals := 0 }
set_option maxHeartbeats 4000000 in
set_option maxRecDepth 100000 in
theorem cJ_J6_stringSize_0f7a4 (l : Launch) (g : GE) {v : Nat} (hv : v < 10000) : Met l yJ6_stringSize_0f7a4 (.code yJ6_stringSize_0f7a4 cJ6_stringSize_0f7a4 4 (Option.some Jvm.ClassFile.FieldType.int) :: TB) rmJ_J6_stringSize_0f7a4 (zRc (fun _ => True) [.int (nI v)]) (rQi (fun r => r = nI (zDg v))) 0 0 zNo := by
  refine zRet g (own := RJ6) [(0, .int (nI v))] (by decide +kernel) rfl (Nat.le_of_ble_eq_true rfl) rfl (fun p e s m args below meth c C hr hB => ?_)
  rcases (show v < 10 ∨ (10 ≤ v ∧ v < 100) ∨ (100 ≤ v ∧ v < 1000) ∨ 1000 ≤ v by omega) with h1 | ⟨h1, h2⟩ | ⟨h1, h2⟩ | h1
  · refine zs_iconst (v := 1) C dJ6_stringSize_0f7a4_0 (by decide +kernel) ?_
    refine zs_istore_n (lv' := [(1, .int 1), (0, .int (nI v))]) C dJ6_stringSize_0f7a4_1 rfl (by decide) rfl ?_
    refine zs_iload_n C dJ6_stringSize_0f7a4_2 rfl 1 rfl ?_
    refine zs_if_lt (tgt := 11) C dJ6_stringSize_0f7a4_3 (by decide) (fun h => absurd h (nI_pos (by omega))) (fun _ => ?_)
    refine zs_iconst (v := 0) C dJ6_stringSize_0f7a4_6 (by decide +kernel) ?_
    refine zs_istore_n (lv' := [(1, .int 0), (0, .int (nI v))]) C dJ6_stringSize_0f7a4_7 rfl (by decide) rfl ?_
    refine zs_iload_n C dJ6_stringSize_0f7a4_8 rfl 1 rfl ?_
    refine zs_ineg C dJ6_stringSize_0f7a4_9 ?_
    refine zs_istore_n (lv' := [(0, .int (-(nI v))), (1, .int 0)]) C dJ6_stringSize_0f7a4_10 rfl (by decide) rfl ?_
    refine zs_bipush (v := -10) C dJ6_stringSize_0f7a4_11 (by decide +kernel) ?_
    refine zs_istore_n (lv' := [(2, .int (-10)), (0, .int (-(nI v))), (1, .int 0)]) C dJ6_stringSize_0f7a4_13 rfl (by decide) rfl ?_
    refine zs_iconst (v := 1) C dJ6_stringSize_0f7a4_14 (by decide +kernel) ?_
    refine zs_istore_n (lv' := [(3, .int 1), (2, .int (-10)), (0, .int (-(nI v))), (1, .int 0)]) C dJ6_stringSize_0f7a4_15 rfl (by decide) rfl ?_
    refine zs_iload_n C dJ6_stringSize_0f7a4_16 rfl 0 rfl ?_
    refine zs_bipush (v := 10) C dJ6_stringSize_0f7a4_17 (by decide +kernel) ?_
    refine zs_icmp_ge (tgt := 42) C dJ6_stringSize_0f7a4_19 (by decide) (fun h => absurd h (by decide)) (fun _ => ?_)
    refine zs_iload_n C dJ6_stringSize_0f7a4_22 rfl 2 rfl ?_
    refine zs_iload_n C dJ6_stringSize_0f7a4_23 rfl 1 rfl ?_
    refine zs_icmp_le (tgt := 31) C dJ6_stringSize_0f7a4_24 (by decide) (fun h => absurd h (zsz_n (c := 10) (by omega) (by decide))) (fun _ => ?_)
    refine zs_iload_n C dJ6_stringSize_0f7a4_27 rfl 0 rfl ?_
    refine zs_iload_n C dJ6_stringSize_0f7a4_28 rfl 3 rfl ?_
    refine zs_iadd C dJ6_stringSize_0f7a4_29 ?_
    refine zs_nmI (y := 1) (by decide) ?_
    refine zs_nmI (y := nI (zDg v)) (by unfold zDg; rw [if_pos h1]; rfl) ?_
    exact zs_zret C hr (by rfl) dJ6_stringSize_0f7a4_30 rfl
  · refine zs_iconst (v := 1) C dJ6_stringSize_0f7a4_0 (by decide +kernel) ?_
    refine zs_istore_n (lv' := [(1, .int 1), (0, .int (nI v))]) C dJ6_stringSize_0f7a4_1 rfl (by decide) rfl ?_
    refine zs_iload_n C dJ6_stringSize_0f7a4_2 rfl 1 rfl ?_
    refine zs_if_lt (tgt := 11) C dJ6_stringSize_0f7a4_3 (by decide) (fun h => absurd h (nI_pos (by omega))) (fun _ => ?_)
    refine zs_iconst (v := 0) C dJ6_stringSize_0f7a4_6 (by decide +kernel) ?_
    refine zs_istore_n (lv' := [(1, .int 0), (0, .int (nI v))]) C dJ6_stringSize_0f7a4_7 rfl (by decide) rfl ?_
    refine zs_iload_n C dJ6_stringSize_0f7a4_8 rfl 1 rfl ?_
    refine zs_ineg C dJ6_stringSize_0f7a4_9 ?_
    refine zs_istore_n (lv' := [(0, .int (-(nI v))), (1, .int 0)]) C dJ6_stringSize_0f7a4_10 rfl (by decide) rfl ?_
    refine zs_bipush (v := -10) C dJ6_stringSize_0f7a4_11 (by decide +kernel) ?_
    refine zs_istore_n (lv' := [(2, .int (-10)), (0, .int (-(nI v))), (1, .int 0)]) C dJ6_stringSize_0f7a4_13 rfl (by decide) rfl ?_
    refine zs_iconst (v := 1) C dJ6_stringSize_0f7a4_14 (by decide +kernel) ?_
    refine zs_istore_n (lv' := [(3, .int 1), (2, .int (-10)), (0, .int (-(nI v))), (1, .int 0)]) C dJ6_stringSize_0f7a4_15 rfl (by decide) rfl ?_
    refine zs_iload_n C dJ6_stringSize_0f7a4_16 rfl 0 rfl ?_
    refine zs_bipush (v := 10) C dJ6_stringSize_0f7a4_17 (by decide +kernel) ?_
    refine zs_icmp_ge (tgt := 42) C dJ6_stringSize_0f7a4_19 (by decide) (fun h => absurd h (by decide)) (fun _ => ?_)
    refine zs_iload_n C dJ6_stringSize_0f7a4_22 rfl 2 rfl ?_
    refine zs_iload_n C dJ6_stringSize_0f7a4_23 rfl 1 rfl ?_
    refine zs_icmp_le (tgt := 31) C dJ6_stringSize_0f7a4_24 (by decide) (fun _ => ?_) (fun h => absurd (zsz_y (c := 10) (by omega) (by omega)) h)
    refine zs_bipush (v := 10) C dJ6_stringSize_0f7a4_31 (by decide +kernel) ?_
    refine zs_iload_n C dJ6_stringSize_0f7a4_33 rfl 1 rfl ?_
    refine zs_imul C dJ6_stringSize_0f7a4_34 ?_
    refine zs_nmI (y := -100) (by decide) ?_
    refine zs_istore_n (lv' := [(2, .int (-100)), (3, .int 1), (0, .int (-(nI v))), (1, .int 0)]) C dJ6_stringSize_0f7a4_35 rfl (by decide) rfl ?_
    refine zs_iinc (v := 2) (lv' := [(3, .int (2)), (2, .int (-100)), (0, .int (-(nI v))), (1, .int 0)]) C dJ6_stringSize_0f7a4_36 1 rfl (by decide) (by decide) rfl ?_
    refine zs_goto (tgt := 16) C dJ6_stringSize_0f7a4_39 (by decide) ?_
    refine zs_iload_n C dJ6_stringSize_0f7a4_16 rfl 0 rfl ?_
    refine zs_bipush (v := 10) C dJ6_stringSize_0f7a4_17 (by decide +kernel) ?_
    refine zs_icmp_ge (tgt := 42) C dJ6_stringSize_0f7a4_19 (by decide) (fun h => absurd h (by decide)) (fun _ => ?_)
    refine zs_iload_n C dJ6_stringSize_0f7a4_22 rfl 2 rfl ?_
    refine zs_iload_n C dJ6_stringSize_0f7a4_23 rfl 1 rfl ?_
    refine zs_icmp_le (tgt := 31) C dJ6_stringSize_0f7a4_24 (by decide) (fun h => absurd h (zsz_n (c := 100) (by omega) (by decide))) (fun _ => ?_)
    refine zs_iload_n C dJ6_stringSize_0f7a4_27 rfl 0 rfl ?_
    refine zs_iload_n C dJ6_stringSize_0f7a4_28 rfl 3 rfl ?_
    refine zs_iadd C dJ6_stringSize_0f7a4_29 ?_
    refine zs_nmI (y := 2) (by decide) ?_
    refine zs_nmI (y := nI (zDg v)) (by unfold zDg; rw [if_neg (by omega), if_pos h2]; rfl) ?_
    exact zs_zret C hr (by rfl) dJ6_stringSize_0f7a4_30 rfl
  · refine zs_iconst (v := 1) C dJ6_stringSize_0f7a4_0 (by decide +kernel) ?_
    refine zs_istore_n (lv' := [(1, .int 1), (0, .int (nI v))]) C dJ6_stringSize_0f7a4_1 rfl (by decide) rfl ?_
    refine zs_iload_n C dJ6_stringSize_0f7a4_2 rfl 1 rfl ?_
    refine zs_if_lt (tgt := 11) C dJ6_stringSize_0f7a4_3 (by decide) (fun h => absurd h (nI_pos (by omega))) (fun _ => ?_)
    refine zs_iconst (v := 0) C dJ6_stringSize_0f7a4_6 (by decide +kernel) ?_
    refine zs_istore_n (lv' := [(1, .int 0), (0, .int (nI v))]) C dJ6_stringSize_0f7a4_7 rfl (by decide) rfl ?_
    refine zs_iload_n C dJ6_stringSize_0f7a4_8 rfl 1 rfl ?_
    refine zs_ineg C dJ6_stringSize_0f7a4_9 ?_
    refine zs_istore_n (lv' := [(0, .int (-(nI v))), (1, .int 0)]) C dJ6_stringSize_0f7a4_10 rfl (by decide) rfl ?_
    refine zs_bipush (v := -10) C dJ6_stringSize_0f7a4_11 (by decide +kernel) ?_
    refine zs_istore_n (lv' := [(2, .int (-10)), (0, .int (-(nI v))), (1, .int 0)]) C dJ6_stringSize_0f7a4_13 rfl (by decide) rfl ?_
    refine zs_iconst (v := 1) C dJ6_stringSize_0f7a4_14 (by decide +kernel) ?_
    refine zs_istore_n (lv' := [(3, .int 1), (2, .int (-10)), (0, .int (-(nI v))), (1, .int 0)]) C dJ6_stringSize_0f7a4_15 rfl (by decide) rfl ?_
    refine zs_iload_n C dJ6_stringSize_0f7a4_16 rfl 0 rfl ?_
    refine zs_bipush (v := 10) C dJ6_stringSize_0f7a4_17 (by decide +kernel) ?_
    refine zs_icmp_ge (tgt := 42) C dJ6_stringSize_0f7a4_19 (by decide) (fun h => absurd h (by decide)) (fun _ => ?_)
    refine zs_iload_n C dJ6_stringSize_0f7a4_22 rfl 2 rfl ?_
    refine zs_iload_n C dJ6_stringSize_0f7a4_23 rfl 1 rfl ?_
    refine zs_icmp_le (tgt := 31) C dJ6_stringSize_0f7a4_24 (by decide) (fun _ => ?_) (fun h => absurd (zsz_y (c := 10) (by omega) (by omega)) h)
    refine zs_bipush (v := 10) C dJ6_stringSize_0f7a4_31 (by decide +kernel) ?_
    refine zs_iload_n C dJ6_stringSize_0f7a4_33 rfl 1 rfl ?_
    refine zs_imul C dJ6_stringSize_0f7a4_34 ?_
    refine zs_nmI (y := -100) (by decide) ?_
    refine zs_istore_n (lv' := [(2, .int (-100)), (3, .int 1), (0, .int (-(nI v))), (1, .int 0)]) C dJ6_stringSize_0f7a4_35 rfl (by decide) rfl ?_
    refine zs_iinc (v := 2) (lv' := [(3, .int (2)), (2, .int (-100)), (0, .int (-(nI v))), (1, .int 0)]) C dJ6_stringSize_0f7a4_36 1 rfl (by decide) (by decide) rfl ?_
    refine zs_goto (tgt := 16) C dJ6_stringSize_0f7a4_39 (by decide) ?_
    refine zs_iload_n C dJ6_stringSize_0f7a4_16 rfl 0 rfl ?_
    refine zs_bipush (v := 10) C dJ6_stringSize_0f7a4_17 (by decide +kernel) ?_
    refine zs_icmp_ge (tgt := 42) C dJ6_stringSize_0f7a4_19 (by decide) (fun h => absurd h (by decide)) (fun _ => ?_)
    refine zs_iload_n C dJ6_stringSize_0f7a4_22 rfl 2 rfl ?_
    refine zs_iload_n C dJ6_stringSize_0f7a4_23 rfl 1 rfl ?_
    refine zs_icmp_le (tgt := 31) C dJ6_stringSize_0f7a4_24 (by decide) (fun _ => ?_) (fun h => absurd (zsz_y (c := 100) (by omega) (by omega)) h)
    refine zs_bipush (v := 10) C dJ6_stringSize_0f7a4_31 (by decide +kernel) ?_
    refine zs_iload_n C dJ6_stringSize_0f7a4_33 rfl 1 rfl ?_
    refine zs_imul C dJ6_stringSize_0f7a4_34 ?_
    refine zs_nmI (y := -1000) (by decide) ?_
    refine zs_istore_n (lv' := [(2, .int (-1000)), (3, .int (2)), (0, .int (-(nI v))), (1, .int 0)]) C dJ6_stringSize_0f7a4_35 rfl (by decide) rfl ?_
    refine zs_iinc (v := 3) (lv' := [(3, .int (3)), (2, .int (-1000)), (0, .int (-(nI v))), (1, .int 0)]) C dJ6_stringSize_0f7a4_36 1 rfl (by decide) (by decide) rfl ?_
    refine zs_goto (tgt := 16) C dJ6_stringSize_0f7a4_39 (by decide) ?_
    refine zs_iload_n C dJ6_stringSize_0f7a4_16 rfl 0 rfl ?_
    refine zs_bipush (v := 10) C dJ6_stringSize_0f7a4_17 (by decide +kernel) ?_
    refine zs_icmp_ge (tgt := 42) C dJ6_stringSize_0f7a4_19 (by decide) (fun h => absurd h (by decide)) (fun _ => ?_)
    refine zs_iload_n C dJ6_stringSize_0f7a4_22 rfl 2 rfl ?_
    refine zs_iload_n C dJ6_stringSize_0f7a4_23 rfl 1 rfl ?_
    refine zs_icmp_le (tgt := 31) C dJ6_stringSize_0f7a4_24 (by decide) (fun h => absurd h (zsz_n (c := 1000) (by omega) (by decide))) (fun _ => ?_)
    refine zs_iload_n C dJ6_stringSize_0f7a4_27 rfl 0 rfl ?_
    refine zs_iload_n C dJ6_stringSize_0f7a4_28 rfl 3 rfl ?_
    refine zs_iadd C dJ6_stringSize_0f7a4_29 ?_
    refine zs_nmI (y := 3) (by decide) ?_
    refine zs_nmI (y := nI (zDg v)) (by unfold zDg; rw [if_neg (by omega), if_neg (by omega), if_pos h2]; rfl) ?_
    exact zs_zret C hr (by rfl) dJ6_stringSize_0f7a4_30 rfl
  · refine zs_iconst (v := 1) C dJ6_stringSize_0f7a4_0 (by decide +kernel) ?_
    refine zs_istore_n (lv' := [(1, .int 1), (0, .int (nI v))]) C dJ6_stringSize_0f7a4_1 rfl (by decide) rfl ?_
    refine zs_iload_n C dJ6_stringSize_0f7a4_2 rfl 1 rfl ?_
    refine zs_if_lt (tgt := 11) C dJ6_stringSize_0f7a4_3 (by decide) (fun h => absurd h (nI_pos (by omega))) (fun _ => ?_)
    refine zs_iconst (v := 0) C dJ6_stringSize_0f7a4_6 (by decide +kernel) ?_
    refine zs_istore_n (lv' := [(1, .int 0), (0, .int (nI v))]) C dJ6_stringSize_0f7a4_7 rfl (by decide) rfl ?_
    refine zs_iload_n C dJ6_stringSize_0f7a4_8 rfl 1 rfl ?_
    refine zs_ineg C dJ6_stringSize_0f7a4_9 ?_
    refine zs_istore_n (lv' := [(0, .int (-(nI v))), (1, .int 0)]) C dJ6_stringSize_0f7a4_10 rfl (by decide) rfl ?_
    refine zs_bipush (v := -10) C dJ6_stringSize_0f7a4_11 (by decide +kernel) ?_
    refine zs_istore_n (lv' := [(2, .int (-10)), (0, .int (-(nI v))), (1, .int 0)]) C dJ6_stringSize_0f7a4_13 rfl (by decide) rfl ?_
    refine zs_iconst (v := 1) C dJ6_stringSize_0f7a4_14 (by decide +kernel) ?_
    refine zs_istore_n (lv' := [(3, .int 1), (2, .int (-10)), (0, .int (-(nI v))), (1, .int 0)]) C dJ6_stringSize_0f7a4_15 rfl (by decide) rfl ?_
    refine zs_iload_n C dJ6_stringSize_0f7a4_16 rfl 0 rfl ?_
    refine zs_bipush (v := 10) C dJ6_stringSize_0f7a4_17 (by decide +kernel) ?_
    refine zs_icmp_ge (tgt := 42) C dJ6_stringSize_0f7a4_19 (by decide) (fun h => absurd h (by decide)) (fun _ => ?_)
    refine zs_iload_n C dJ6_stringSize_0f7a4_22 rfl 2 rfl ?_
    refine zs_iload_n C dJ6_stringSize_0f7a4_23 rfl 1 rfl ?_
    refine zs_icmp_le (tgt := 31) C dJ6_stringSize_0f7a4_24 (by decide) (fun _ => ?_) (fun h => absurd (zsz_y (c := 10) (by omega) (by omega)) h)
    refine zs_bipush (v := 10) C dJ6_stringSize_0f7a4_31 (by decide +kernel) ?_
    refine zs_iload_n C dJ6_stringSize_0f7a4_33 rfl 1 rfl ?_
    refine zs_imul C dJ6_stringSize_0f7a4_34 ?_
    refine zs_nmI (y := -100) (by decide) ?_
    refine zs_istore_n (lv' := [(2, .int (-100)), (3, .int 1), (0, .int (-(nI v))), (1, .int 0)]) C dJ6_stringSize_0f7a4_35 rfl (by decide) rfl ?_
    refine zs_iinc (v := 2) (lv' := [(3, .int (2)), (2, .int (-100)), (0, .int (-(nI v))), (1, .int 0)]) C dJ6_stringSize_0f7a4_36 1 rfl (by decide) (by decide) rfl ?_
    refine zs_goto (tgt := 16) C dJ6_stringSize_0f7a4_39 (by decide) ?_
    refine zs_iload_n C dJ6_stringSize_0f7a4_16 rfl 0 rfl ?_
    refine zs_bipush (v := 10) C dJ6_stringSize_0f7a4_17 (by decide +kernel) ?_
    refine zs_icmp_ge (tgt := 42) C dJ6_stringSize_0f7a4_19 (by decide) (fun h => absurd h (by decide)) (fun _ => ?_)
    refine zs_iload_n C dJ6_stringSize_0f7a4_22 rfl 2 rfl ?_
    refine zs_iload_n C dJ6_stringSize_0f7a4_23 rfl 1 rfl ?_
    refine zs_icmp_le (tgt := 31) C dJ6_stringSize_0f7a4_24 (by decide) (fun _ => ?_) (fun h => absurd (zsz_y (c := 100) (by omega) (by omega)) h)
    refine zs_bipush (v := 10) C dJ6_stringSize_0f7a4_31 (by decide +kernel) ?_
    refine zs_iload_n C dJ6_stringSize_0f7a4_33 rfl 1 rfl ?_
    refine zs_imul C dJ6_stringSize_0f7a4_34 ?_
    refine zs_nmI (y := -1000) (by decide) ?_
    refine zs_istore_n (lv' := [(2, .int (-1000)), (3, .int (2)), (0, .int (-(nI v))), (1, .int 0)]) C dJ6_stringSize_0f7a4_35 rfl (by decide) rfl ?_
    refine zs_iinc (v := 3) (lv' := [(3, .int (3)), (2, .int (-1000)), (0, .int (-(nI v))), (1, .int 0)]) C dJ6_stringSize_0f7a4_36 1 rfl (by decide) (by decide) rfl ?_
    refine zs_goto (tgt := 16) C dJ6_stringSize_0f7a4_39 (by decide) ?_
    refine zs_iload_n C dJ6_stringSize_0f7a4_16 rfl 0 rfl ?_
    refine zs_bipush (v := 10) C dJ6_stringSize_0f7a4_17 (by decide +kernel) ?_
    refine zs_icmp_ge (tgt := 42) C dJ6_stringSize_0f7a4_19 (by decide) (fun h => absurd h (by decide)) (fun _ => ?_)
    refine zs_iload_n C dJ6_stringSize_0f7a4_22 rfl 2 rfl ?_
    refine zs_iload_n C dJ6_stringSize_0f7a4_23 rfl 1 rfl ?_
    refine zs_icmp_le (tgt := 31) C dJ6_stringSize_0f7a4_24 (by decide) (fun _ => ?_) (fun h => absurd (zsz_y (c := 1000) (by omega) (by omega)) h)
    refine zs_bipush (v := 10) C dJ6_stringSize_0f7a4_31 (by decide +kernel) ?_
    refine zs_iload_n C dJ6_stringSize_0f7a4_33 rfl 1 rfl ?_
    refine zs_imul C dJ6_stringSize_0f7a4_34 ?_
    refine zs_nmI (y := -10000) (by decide) ?_
    refine zs_istore_n (lv' := [(2, .int (-10000)), (3, .int (3)), (0, .int (-(nI v))), (1, .int 0)]) C dJ6_stringSize_0f7a4_35 rfl (by decide) rfl ?_
    refine zs_iinc (v := 4) (lv' := [(3, .int (4)), (2, .int (-10000)), (0, .int (-(nI v))), (1, .int 0)]) C dJ6_stringSize_0f7a4_36 1 rfl (by decide) (by decide) rfl ?_
    refine zs_goto (tgt := 16) C dJ6_stringSize_0f7a4_39 (by decide) ?_
    refine zs_iload_n C dJ6_stringSize_0f7a4_16 rfl 0 rfl ?_
    refine zs_bipush (v := 10) C dJ6_stringSize_0f7a4_17 (by decide +kernel) ?_
    refine zs_icmp_ge (tgt := 42) C dJ6_stringSize_0f7a4_19 (by decide) (fun h => absurd h (by decide)) (fun _ => ?_)
    refine zs_iload_n C dJ6_stringSize_0f7a4_22 rfl 2 rfl ?_
    refine zs_iload_n C dJ6_stringSize_0f7a4_23 rfl 1 rfl ?_
    refine zs_icmp_le (tgt := 31) C dJ6_stringSize_0f7a4_24 (by decide) (fun h => absurd h (zsz_n (c := 10000) (by omega) (by decide))) (fun _ => ?_)
    refine zs_iload_n C dJ6_stringSize_0f7a4_27 rfl 0 rfl ?_
    refine zs_iload_n C dJ6_stringSize_0f7a4_28 rfl 3 rfl ?_
    refine zs_iadd C dJ6_stringSize_0f7a4_29 ?_
    refine zs_nmI (y := 4) (by decide) ?_
    refine zs_nmI (y := nI (zDg v)) (by unfold zDg; rw [if_neg (by omega), if_neg (by omega), if_neg (by omega)]; rfl) ?_
    exact zs_zret C hr (by rfl) dJ6_stringSize_0f7a4_30 rfl
abbrev rmJ_J7_checkLength_df160 : Room := { frames := 0, cells := 0, slots := 0, locals := 0 }
set_option maxHeartbeats 4000000 in
set_option maxRecDepth 100000 in
theorem cJ_J7_checkLength_df160 (l : Launch) (g : GE) {n : Nat} (hn : n < 2 ^ 31) : Met l yJ7_checkLength_df160 (.code yJ7_checkLength_df160 cJ7_checkLength_df160 2 (Option.none : Option Jvm.ClassFile.FieldType) :: TB) rmJ_J7_checkLength_df160 (zRc (fun _ => True) [.int 0, .int (nI n)]) rQv 0 0 zNo := by
  refine zRet g (own := RJ7) [(0, .int 0), (1, .int (nI n))] (by decide +kernel) rfl (Nat.le_of_ble_eq_true rfl) rfl (fun p e s m args below meth c C hr hB => ?_)
  refine zs_iload_n C dJ7_checkLength_df160_0 rfl 1 rfl ?_
  refine zs_iload_n C dJ7_checkLength_df160_1 rfl 0 rfl ?_
  refine zs_icmp_ge (tgt := 37) C dJ7_checkLength_df160_2 (by decide) (fun _ => ?_) (fun h => absurd ((Int32.not_lt.mp (nI_pos hn))) h)
  exact zs_vret C hr dJ7_checkLength_df160_37
