theorem wd_489 : (Jvm.Cond.methodLink "FoxBurrowsLaw" (227 : Nat) ({ cls := "FoxBurrowsLaw", name := "grow", desc := "(LFoxBurrows;II)I" } : Jvm.MethodName)) ∈ TB := zTB 489 (by decide +kernel) (by decide +kernel)
theorem wd_490 : (Jvm.Cond.static ({ cls := "FoxBurrowsLaw", name := "grow", desc := "(LFoxBurrows;II)I" } : Jvm.MethodName)) ∈ TB := zTB 490 (by decide +kernel) (by decide +kernel)
theorem wd_491 : (Jvm.Cond.codeWith ({ cls := "FoxBurrowsLaw", name := "grow", desc := "(LFoxBurrows;II)I" } : Jvm.MethodName) method_6_code (4 : Nat) (Option.some Jvm.ClassFile.FieldType.int) [((0 : Nat), (6 : Nat), (7 : Nat), (13 : Nat))]) ∈ TB := zTB 491 (by decide +kernel) (by decide +kernel)
theorem wd_1097 : (Jvm.Cond.methodLink "FoxBurrowsLaw" (229 : Nat) ({ cls := "FoxBurrowsLaw", name := "begin", desc := "(LFoxBurrows;I)I" } : Jvm.MethodName)) ∈ TB := zTB 1097 (by decide +kernel) (by decide +kernel)
theorem wd_1098 : (Jvm.Cond.static ({ cls := "FoxBurrowsLaw", name := "begin", desc := "(LFoxBurrows;I)I" } : Jvm.MethodName)) ∈ TB := zTB 1098 (by decide +kernel) (by decide +kernel)
theorem wd_1099 : (Jvm.Cond.codeWith ({ cls := "FoxBurrowsLaw", name := "begin", desc := "(LFoxBurrows;I)I" } : Jvm.MethodName) method_9_code (3 : Nat) (Option.some Jvm.ClassFile.FieldType.int) [((0 : Nat), (5 : Nat), (6 : Nat), (13 : Nat))]) ∈ TB := zTB 1099 (by decide +kernel) (by decide +kernel)
theorem wd_1104 : (Jvm.Cond.methodLink "FoxBurrowsLaw" (231 : Nat) ({ cls := "FoxBurrowsLaw", name := "play", desc := "(LFoxBurrows;I)I" } : Jvm.MethodName)) ∈ TB := zTB 1104 (by decide +kernel) (by decide +kernel)
theorem wd_1105 : (Jvm.Cond.static ({ cls := "FoxBurrowsLaw", name := "play", desc := "(LFoxBurrows;I)I" } : Jvm.MethodName)) ∈ TB := zTB 1105 (by decide +kernel) (by decide +kernel)
theorem wd_1106 : (Jvm.Cond.codeWith ({ cls := "FoxBurrowsLaw", name := "play", desc := "(LFoxBurrows;I)I" } : Jvm.MethodName) method_11_code (3 : Nat) (Option.some Jvm.ClassFile.FieldType.int) [((0 : Nat), (5 : Nat), (6 : Nat), (13 : Nat))]) ∈ TB := zTB 1106 (by decide +kernel) (by decide +kernel)
theorem wd_1111 : (Jvm.Cond.methodLink "FoxBurrowsLaw" (233 : Nat) ({ cls := "FoxBurrowsLaw", name := "back", desc := "(LFoxBurrows;)I" } : Jvm.MethodName)) ∈ TB := zTB 1111 (by decide +kernel) (by decide +kernel)
theorem wd_1112 : (Jvm.Cond.static ({ cls := "FoxBurrowsLaw", name := "back", desc := "(LFoxBurrows;)I" } : Jvm.MethodName)) ∈ TB := zTB 1112 (by decide +kernel) (by decide +kernel)
theorem wd_1113 : (Jvm.Cond.codeWith ({ cls := "FoxBurrowsLaw", name := "back", desc := "(LFoxBurrows;)I" } : Jvm.MethodName) method_12_code (2 : Nat) (Option.some Jvm.ClassFile.FieldType.int) [((0 : Nat), (4 : Nat), (5 : Nat), (13 : Nat))]) ∈ TB := zTB 1113 (by decide +kernel) (by decide +kernel)
theorem wd_1118 : (Jvm.Cond.classLink "FoxBurrowsLaw" (235 : Nat) "java/lang/StringBuilder") ∈ TB := zTB 1118 (by decide +kernel) (by decide +kernel)
theorem wd_1119 : (Jvm.Cond.instantiable "java/lang/StringBuilder" (4 : Nat)) ∈ TB := zTB 1119 (by decide +kernel) (by decide +kernel)
theorem wd_1120 : (Jvm.Cond.methodLink "FoxBurrowsLaw" (237 : Nat) ({ cls := "java/lang/StringBuilder", name := "<init>", desc := "()V" } : Jvm.MethodName)) ∈ TB := zTB 1120 (by decide +kernel) (by decide +kernel)
theorem wd_1121 : (Jvm.Cond.instanceMethod ({ cls := "java/lang/StringBuilder", name := "<init>", desc := "()V" } : Jvm.MethodName)) ∈ TB := zTB 1121 (by decide +kernel) (by decide +kernel)
theorem wd_1122 : (Jvm.Cond.code ({ cls := "java/lang/StringBuilder", name := "<init>", desc := "()V" } : Jvm.MethodName) prog_33_method_1_code (1 : Nat) (Option.none : Option Jvm.ClassFile.FieldType)) ∈ TB := zTB 1122 (by decide +kernel) (by decide +kernel)
theorem wd_1150 : (Jvm.Cond.methodLink "FoxBurrowsLaw" (240 : Nat) ({ cls := "java/lang/StringBuilder", name := "append", desc := "(Ljava/lang/String;)Ljava/lang/StringBuilder;" } : Jvm.MethodName)) ∈ TB := zTB 1150 (by decide +kernel) (by decide +kernel)
theorem wd_1151 : (Jvm.Cond.instanceMethod ({ cls := "java/lang/StringBuilder", name := "append", desc := "(Ljava/lang/String;)Ljava/lang/StringBuilder;" } : Jvm.MethodName)) ∈ TB := zTB 1151 (by decide +kernel) (by decide +kernel)
theorem wd_1152 : (Jvm.Cond.selects "java/lang/StringBuilder" ({ cls := "java/lang/StringBuilder", name := "append", desc := "(Ljava/lang/String;)Ljava/lang/StringBuilder;" } : Jvm.MethodName) ({ cls := "java/lang/StringBuilder", name := "append", desc := "(Ljava/lang/String;)Ljava/lang/StringBuilder;" } : Jvm.MethodName)) ∈ TB := zTB 1152 (by decide +kernel) (by decide +kernel)
theorem wd_1153 : (Jvm.Cond.code ({ cls := "java/lang/StringBuilder", name := "append", desc := "(Ljava/lang/String;)Ljava/lang/StringBuilder;" } : Jvm.MethodName) prog_33_method_7_code (2 : Nat) (Option.some (Jvm.ClassFile.FieldType.object "java/lang/StringBuilder"))) ∈ TB := zTB 1153 (by decide +kernel) (by decide +kernel)
theorem wd_1264 : (Jvm.Cond.methodLink "FoxBurrowsLaw" (243 : Nat) ({ cls := "java/lang/StringBuilder", name := "append", desc := "(I)Ljava/lang/StringBuilder;" } : Jvm.MethodName)) ∈ TB := zTB 1264 (by decide +kernel) (by decide +kernel)
theorem wd_1265 : (Jvm.Cond.instanceMethod ({ cls := "java/lang/StringBuilder", name := "append", desc := "(I)Ljava/lang/StringBuilder;" } : Jvm.MethodName)) ∈ TB := zTB 1265 (by decide +kernel) (by decide +kernel)
theorem wd_1266 : (Jvm.Cond.selects "java/lang/StringBuilder" ({ cls := "java/lang/StringBuilder", name := "append", desc := "(I)Ljava/lang/StringBuilder;" } : Jvm.MethodName) ({ cls := "java/lang/StringBuilder", name := "append", desc := "(I)Ljava/lang/StringBuilder;" } : Jvm.MethodName)) ∈ TB := zTB 1266 (by decide +kernel) (by decide +kernel)
theorem wd_1267 : (Jvm.Cond.code ({ cls := "java/lang/StringBuilder", name := "append", desc := "(I)Ljava/lang/StringBuilder;" } : Jvm.MethodName) prog_33_method_15_code (2 : Nat) (Option.some (Jvm.ClassFile.FieldType.object "java/lang/StringBuilder"))) ∈ TB := zTB 1267 (by decide +kernel) (by decide +kernel)
theorem wd_1290 : (Jvm.Cond.methodLink "FoxBurrowsLaw" (248 : Nat) ({ cls := "java/lang/StringBuilder", name := "toString", desc := "()Ljava/lang/String;" } : Jvm.MethodName)) ∈ TB := zTB 1290 (by decide +kernel) (by decide +kernel)
theorem wd_1291 : (Jvm.Cond.instanceMethod ({ cls := "java/lang/StringBuilder", name := "toString", desc := "()Ljava/lang/String;" } : Jvm.MethodName)) ∈ TB := zTB 1291 (by decide +kernel) (by decide +kernel)
theorem wd_1292 : (Jvm.Cond.selects "java/lang/StringBuilder" ({ cls := "java/lang/StringBuilder", name := "toString", desc := "()Ljava/lang/String;" } : Jvm.MethodName) ({ cls := "java/lang/StringBuilder", name := "toString", desc := "()Ljava/lang/String;" } : Jvm.MethodName)) ∈ TB := zTB 1292 (by decide +kernel) (by decide +kernel)
theorem wd_1293 : (Jvm.Cond.code ({ cls := "java/lang/StringBuilder", name := "toString", desc := "()Ljava/lang/String;" } : Jvm.MethodName) prog_33_method_42_code (1 : Nat) (Option.some (Jvm.ClassFile.FieldType.object "java/lang/String"))) ∈ TB := zTB 1293 (by decide +kernel) (by decide +kernel)
theorem wd_1355 : (Jvm.Cond.methodLink "FoxBurrowsLaw" (256 : Nat) ({ cls := "FoxBurrowsLaw", name := "does", desc := "(LFoxBurrows;Ljava/lang/String;)I" } : Jvm.MethodName)) ∈ TB := zTB 1355 (by decide +kernel) (by decide +kernel)
theorem wd_1356 : (Jvm.Cond.static ({ cls := "FoxBurrowsLaw", name := "does", desc := "(LFoxBurrows;Ljava/lang/String;)I" } : Jvm.MethodName)) ∈ TB := zTB 1356 (by decide +kernel) (by decide +kernel)
theorem wd_1357 : (Jvm.Cond.code ({ cls := "FoxBurrowsLaw", name := "does", desc := "(LFoxBurrows;Ljava/lang/String;)I" } : Jvm.MethodName) method_37_code (3 : Nat) (Option.some Jvm.ClassFile.FieldType.int)) ∈ TB := zTB 1357 (by decide +kernel) (by decide +kernel)
theorem wd_1383 : (Jvm.Cond.methodLink "FoxBurrowsLaw" (260 : Nat) ({ cls := "FoxBurrowsLaw", name := "move", desc := "(LFoxBurrows;II)I" } : Jvm.MethodName)) ∈ TB := zTB 1383 (by decide +kernel) (by decide +kernel)
theorem wd_1384 : (Jvm.Cond.static ({ cls := "FoxBurrowsLaw", name := "move", desc := "(LFoxBurrows;II)I" } : Jvm.MethodName)) ∈ TB := zTB 1384 (by decide +kernel) (by decide +kernel)
theorem wd_1385 : (Jvm.Cond.codeWith ({ cls := "FoxBurrowsLaw", name := "move", desc := "(LFoxBurrows;II)I" } : Jvm.MethodName) method_10_code (4 : Nat) (Option.some Jvm.ClassFile.FieldType.int) [((0 : Nat), (6 : Nat), (7 : Nat), (13 : Nat))]) ∈ TB := zTB 1385 (by decide +kernel) (by decide +kernel)
theorem hz_L_back : (yL_back.cls ≠ "java/lang/invoke/MethodHandle" ∧ yL_back.cls ≠ "java/lang/invoke/VarHandle" ∧ (parseMethodDescriptor yL_back.desc).map (fun d => d.parameters.length) = some 1) := ⟨by decide +kernel, by decide +kernel, by decide +kernel⟩
theorem hy_L_back : yL_back.cls = RL ∧ (yL_back.cls ≠ "java/lang/invoke/MethodHandle" ∧ yL_back.cls ≠ "java/lang/invoke/VarHandle" ∧ (parseMethodDescriptor yL_back.desc).map (fun d => d.parameters.length) = some 1) := ⟨rfl, hz_L_back⟩
theorem hz_L_begin : (yL_begin.cls ≠ "java/lang/invoke/MethodHandle" ∧ yL_begin.cls ≠ "java/lang/invoke/VarHandle" ∧ (parseMethodDescriptor yL_begin.desc).map (fun d => d.parameters.length) = some 2) := ⟨by decide +kernel, by decide +kernel, by decide +kernel⟩
theorem hy_L_begin : yL_begin.cls = RL ∧ (yL_begin.cls ≠ "java/lang/invoke/MethodHandle" ∧ yL_begin.cls ≠ "java/lang/invoke/VarHandle" ∧ (parseMethodDescriptor yL_begin.desc).map (fun d => d.parameters.length) = some 2) := ⟨rfl, hz_L_begin⟩
theorem hz_L_does : (yL_does.cls ≠ "java/lang/invoke/MethodHandle" ∧ yL_does.cls ≠ "java/lang/invoke/VarHandle" ∧ (parseMethodDescriptor yL_does.desc).map (fun d => d.parameters.length) = some 2) := ⟨by decide +kernel, by decide +kernel, by decide +kernel⟩
theorem hy_L_does : yL_does.cls = RL ∧ (yL_does.cls ≠ "java/lang/invoke/MethodHandle" ∧ yL_does.cls ≠ "java/lang/invoke/VarHandle" ∧ (parseMethodDescriptor yL_does.desc).map (fun d => d.parameters.length) = some 2) := ⟨rfl, hz_L_does⟩
theorem hz_L_grow : (yL_grow.cls ≠ "java/lang/invoke/MethodHandle" ∧ yL_grow.cls ≠ "java/lang/invoke/VarHandle" ∧ (parseMethodDescriptor yL_grow.desc).map (fun d => d.parameters.length) = some 3) := ⟨by decide +kernel, by decide +kernel, by decide +kernel⟩
theorem hy_L_grow : yL_grow.cls = RL ∧ (yL_grow.cls ≠ "java/lang/invoke/MethodHandle" ∧ yL_grow.cls ≠ "java/lang/invoke/VarHandle" ∧ (parseMethodDescriptor yL_grow.desc).map (fun d => d.parameters.length) = some 3) := ⟨rfl, hz_L_grow⟩
theorem hz_L_move : (yL_move.cls ≠ "java/lang/invoke/MethodHandle" ∧ yL_move.cls ≠ "java/lang/invoke/VarHandle" ∧ (parseMethodDescriptor yL_move.desc).map (fun d => d.parameters.length) = some 3) := ⟨by decide +kernel, by decide +kernel, by decide +kernel⟩
theorem hy_L_move : yL_move.cls = RL ∧ (yL_move.cls ≠ "java/lang/invoke/MethodHandle" ∧ yL_move.cls ≠ "java/lang/invoke/VarHandle" ∧ (parseMethodDescriptor yL_move.desc).map (fun d => d.parameters.length) = some 3) := ⟨rfl, hz_L_move⟩
theorem hz_L_play : (yL_play.cls ≠ "java/lang/invoke/MethodHandle" ∧ yL_play.cls ≠ "java/lang/invoke/VarHandle" ∧ (parseMethodDescriptor yL_play.desc).map (fun d => d.parameters.length) = some 2) := ⟨by decide +kernel, by decide +kernel, by decide +kernel⟩
theorem hy_L_play : yL_play.cls = RL ∧ (yL_play.cls ≠ "java/lang/invoke/MethodHandle" ∧ yL_play.cls ≠ "java/lang/invoke/VarHandle" ∧ (parseMethodDescriptor yL_play.desc).map (fun d => d.parameters.length) = some 2) := ⟨rfl, hz_L_play⟩
abbrev rm_L_changes : Room := { frames := 10, cells := 73, slots := 438, locals := 371 }
def wb_R_changes_173 (Q : Int32 → MU → Prop) (s0 : Int32) (s1 : Int32) (u : MU) : Prop := w_R_trap s1 s0 u (fun r_1 u_2 => ((r_1 < 0) → Q (0 : Int32) u_2) ∧ ((¬ r_1 < 0) → Q (1 : Int32) u_2))
set_option maxHeartbeats 4000000 in
set_option maxRecDepth 100000 in
theorem vb_R_changes_173 {p : Program} {l : Launch} {e : Env} {s : State} {m : MethodId} {args : Array Value} {below : List Frame} {meth : Method} {c : Code} {g : GE} {W : MU × ((Nat → Int64) × (Nat → UInt64))} {Q : Int32 → MU → Prop} (C : zCx p l s m args meth c g RL cL_changes 4) (hr : meth.sig.returnType = (Option.some Jvm.ClassFile.FieldType.boolean)) (hstk : l.stackTraces = false) (s0 : Int32) (s1 : Int32) (u : MU) (cz sz : Nat) (hz : cz + 1 + 0 ≤ 73) (hs : sz + 6 * (1 + 0) ≤ 438) (h : wb_R_changes_173 Q s0 s1 u) : WM p l e rm_L_changes s m args below meth c g 4 cz sz (MQ below (zQi g (zPx W Q)) args s 73 438 (zA g)) 173 [] [.int s0, .int s1, .ref (g.2.2.1 0)] (u, W) := by
  unfold wb_R_changes_173 at h
  refine zm_ci (zr_SW (As := [.ref (g.2.2.1 0), .int s1, .int s0]) (rest := []) C (c_L_trap l hstk _ u W s1 s0 h) wd_897 wd_898 wd_0 wd_899 hz_L_trap rfl rfl ⟨by decide, by decide⟩ ⟨(show cz + 1 ≤ 73 by omega), (show sz + 6 ≤ 438 by omega)⟩ rfl rfl (Nat.le_of_ble_eq_true rfl) dL_changes_173) (fun r_1 M1 hq => ?_)
  obtain ⟨u_2, rfl, h⟩ := hq
  refine zm_if_lt (tgt := 183) C dL_changes_176 (by decide) (fun hc_3 => ?_) (fun hc_3 => ?_)
  · have h := h.1 hc_3
    refine zm_iconst (v := 0) C dL_changes_183 (by decide) ?_
    refine zm_widen (k1 := 73) (n1 := 438) (by omega) (by omega) ?_
    exact zm_zret (ty := .boolean) C hr (by decide) dL_changes_184 ⟨_, rfl, h⟩
  · have h := h.2 hc_3
    refine zm_iconst (v := 1) C dL_changes_179 (by decide) ?_
    refine zm_goto (tgt := 184) C dL_changes_180 (by decide) ?_
    refine zm_widen (k1 := 73) (n1 := 438) (by omega) (by omega) ?_
    exact zm_zret (ty := .boolean) C hr (by decide) dL_changes_184 ⟨_, rfl, h⟩
def wb_R_changes_242 (Q : Int32 → MU → Prop) (x1 : Int32) (s0 : Int32) (s1 : Int32) (u : MU) : Prop := w_R_begin ((s1 + s0) + ((x1 >>> ((8 : Int32) &&& 31)) &&& (1 : Int32))) u (fun r_1 u_2 => ((r_1 < 0) → Q (0 : Int32) u_2) ∧ ((¬ r_1 < 0) → Q (1 : Int32) u_2))
set_option maxHeartbeats 4000000 in
set_option maxRecDepth 100000 in
theorem vb_R_changes_242 {p : Program} {l : Launch} {e : Env} {s : State} {m : MethodId} {args : Array Value} {below : List Frame} {meth : Method} {c : Code} {g : GE} {W : MU × ((Nat → Int64) × (Nat → UInt64))} {Q : Int32 → MU → Prop} (C : zCx p l s m args meth c g RL cL_changes 4) (hr : meth.sig.returnType = (Option.some Jvm.ClassFile.FieldType.boolean)) (hstk : l.stackTraces = false) (x1 : Int32) (s0 : Int32) (s1 : Int32) (u : MU) (cz sz : Nat) (hz : cz + 1 + 0 ≤ 73) (hs : sz + 6 * (1 + 0) ≤ 438) (h : wb_R_changes_242 Q x1 s0 s1 u) : WM p l e rm_L_changes s m args below meth c g 4 cz sz (MQ below (zQi g (zPx W Q)) args s 73 438 (zA g)) 242 [(1, .int x1)] [.int s0, .int s1, .ref (g.2.2.1 0)] (u, W) := by
  unfold wb_R_changes_242 at h
  refine zm_iadd C dL_changes_242 ?_
  refine zm_iload_n C dL_changes_243 rfl 0 rfl ?_
  refine zm_bipush (v := 8) C dL_changes_244 (by decide) ?_
  refine zm_ishr C dL_changes_246 ?_
  refine zm_iconst (v := 1) C dL_changes_247 (by decide) ?_
  refine zm_iand C dL_changes_248 ?_
  refine zm_iadd C dL_changes_249 ?_
  refine zm_ci (zr_SW (As := [.ref (g.2.2.1 0), .int ((s1 + s0) + ((x1 >>> ((8 : Int32) &&& 31)) &&& (1 : Int32)))]) (rest := []) C (c_L_begin l hstk _ u W ((s1 + s0) + ((x1 >>> ((8 : Int32) &&& 31)) &&& (1 : Int32))) h) wd_1097 wd_1098 wd_0 wd_1099 hz_L_begin rfl rfl ⟨by decide, by decide⟩ ⟨(show cz + 1 ≤ 73 by omega), (show sz + 6 ≤ 438 by omega)⟩ rfl rfl (Nat.le_of_ble_eq_true rfl) dL_changes_250) (fun r_1 M1 hq => ?_)
  obtain ⟨u_2, rfl, h⟩ := hq
  refine zm_if_lt (tgt := 260) C dL_changes_253 (by decide) (fun hc_3 => ?_) (fun hc_3 => ?_)
  · have h := h.1 hc_3
    refine zm_iconst (v := 0) C dL_changes_260 (by decide) ?_
    refine zm_widen (k1 := 73) (n1 := 438) (by omega) (by omega) ?_
    exact zm_zret (ty := .boolean) C hr (by decide) dL_changes_261 ⟨_, rfl, h⟩
  · have h := h.2 hc_3
    refine zm_iconst (v := 1) C dL_changes_256 (by decide) ?_
    refine zm_goto (tgt := 261) C dL_changes_257 (by decide) ?_
    refine zm_widen (k1 := 73) (n1 := 438) (by omega) (by omega) ?_
    exact zm_zret (ty := .boolean) C hr (by decide) dL_changes_261 ⟨_, rfl, h⟩
def w_R_changes (x1 : Int32) (u : MU) (Q : Int32 → MU → Prop) : Prop := w_R_account (0 : Int32) u (fun r_1 u_2 => w_R_some (x1 >>> ((4 : Int32) &&& 31)) (r_1 + (1 : Int32)) (fun r_3 => w_R_account (0 : Int32) u_2 (fun r_5 u_6 => w_R_some (x1 >>> ((7 : Int32) &&& 31)) (r_5 + (1 : Int32)) (fun r_7 => w_R_some x1 (20 : Int32) (fun r_9 => (r_9 = (0 : Int32) → w_R_dig  u_6 (fun r_13 u_14 => ((r_13 < 0) → Q (0 : Int32) u_14) ∧ ((¬ r_13 < 0) → Q (1 : Int32) u_14))) ∧ (¬ r_9 = (0 : Int32) → (r_9 = (1 : Int32) → w_R_tread r_3 r_7 u_6 (fun r_17 u_18 => ((r_17 < 0) → Q (0 : Int32) u_18) ∧ ((¬ r_17 < 0) → Q (1 : Int32) u_18))) ∧ (¬ r_9 = (1 : Int32) → (r_9 = (2 : Int32) → w_R_tread r_3 r_7 u_6 (fun r_21 u_22 => ((r_21 < 0) → Q (0 : Int32) u_22) ∧ ((¬ r_21 < 0) → Q (1 : Int32) u_22))) ∧ (¬ r_9 = (2 : Int32) → (r_9 = (3 : Int32) → w_R_tread r_3 r_7 u_6 (fun r_25 u_26 => ((r_25 < 0) → Q (0 : Int32) u_26) ∧ ((¬ r_25 < 0) → Q (1 : Int32) u_26))) ∧ (¬ r_9 = (3 : Int32) → (r_9 = (4 : Int32) → w_R_grow r_3 r_7 u_6 (fun r_29 u_30 => ((r_29 < 0) → Q (0 : Int32) u_30) ∧ ((¬ r_29 < 0) → Q (1 : Int32) u_30))) ∧ (¬ r_9 = (4 : Int32) → (r_9 = (5 : Int32) → ((¬ (x1 &&& (64 : Int32)) = 0) → wb_R_changes_173 Q (0 : Int32) r_3 u_6) ∧ (((x1 &&& (64 : Int32)) = 0) → wb_R_changes_173 Q (1 : Int32) r_3 u_6)) ∧ (¬ r_9 = (5 : Int32) → (r_9 = (6 : Int32) → w_R_some (x1 >>> ((4 : Int32) &&& 31)) (4 : Int32) (fun r_35 => w_R_flock r_35 u_6 (fun r_37 u_38 => ((r_37 < 0) → Q (0 : Int32) u_38) ∧ ((¬ r_37 < 0) → Q (1 : Int32) u_38)))) ∧ (¬ r_9 = (6 : Int32) → (r_9 = (7 : Int32) → w_R_account (3 : Int32) u_6 (fun r_41 u_42 => ((¬ r_41 = (1 : Int32)) → w_R_some (x1 >>> ((9 : Int32) &&& 31)) (8 : Int32) (fun r_44 => wb_R_changes_242 Q x1 ((2 : Int32) + ((2 : Int32) * r_44)) (((162 : Int32) * r_3) + ((18 : Int32) * r_7)) u_42)) ∧ ((r_41 = (1 : Int32)) → wb_R_changes_242 Q x1 (0 : Int32) (((162 : Int32) * r_3) + ((18 : Int32) * r_7)) u_42))) ∧ (¬ r_9 = (7 : Int32) → (r_9 = (8 : Int32) → w_R_account (3 : Int32) u_6 (fun r_47 u_48 => ((¬ r_47 = (1 : Int32)) → w_R_some (x1 >>> ((9 : Int32) &&& 31)) (8 : Int32) (fun r_50 => wb_R_changes_242 Q x1 ((2 : Int32) + ((2 : Int32) * r_50)) (((162 : Int32) * r_3) + ((18 : Int32) * r_7)) u_48)) ∧ ((r_47 = (1 : Int32)) → wb_R_changes_242 Q x1 (0 : Int32) (((162 : Int32) * r_3) + ((18 : Int32) * r_7)) u_48))) ∧ (¬ r_9 = (8 : Int32) → (r_9 = (9 : Int32) → w_R_account (3 : Int32) u_6 (fun r_53 u_54 => ((¬ r_53 = (1 : Int32)) → w_R_some (x1 >>> ((9 : Int32) &&& 31)) (8 : Int32) (fun r_56 => wb_R_changes_242 Q x1 ((2 : Int32) + ((2 : Int32) * r_56)) (((162 : Int32) * r_3) + ((18 : Int32) * r_7)) u_54)) ∧ ((r_53 = (1 : Int32)) → wb_R_changes_242 Q x1 (0 : Int32) (((162 : Int32) * r_3) + ((18 : Int32) * r_7)) u_54))) ∧ (¬ r_9 = (9 : Int32) → (r_9 = (10 : Int32) → w_R_account (3 : Int32) u_6 (fun r_59 u_60 => ((¬ r_59 = (1 : Int32)) → w_R_some (x1 >>> ((9 : Int32) &&& 31)) (8 : Int32) (fun r_62 => wb_R_changes_242 Q x1 ((2 : Int32) + ((2 : Int32) * r_62)) (((162 : Int32) * r_3) + ((18 : Int32) * r_7)) u_60)) ∧ ((r_59 = (1 : Int32)) → wb_R_changes_242 Q x1 (0 : Int32) (((162 : Int32) * r_3) + ((18 : Int32) * r_7)) u_60))) ∧ (¬ r_9 = (10 : Int32) → (r_9 = (11 : Int32) → w_R_some (x1 >>> ((4 : Int32) &&& 31)) (5 : Int32) (fun r_65 => w_R_play r_65 u_6 (fun r_67 u_68 => ((r_67 < 0) → Q (0 : Int32) u_68) ∧ ((¬ r_67 < 0) → Q (1 : Int32) u_68)))) ∧ (¬ r_9 = (11 : Int32) → (r_9 = (12 : Int32) → w_R_some (x1 >>> ((4 : Int32) &&& 31)) (5 : Int32) (fun r_71 => w_R_play r_71 u_6 (fun r_73 u_74 => ((r_73 < 0) → Q (0 : Int32) u_74) ∧ ((¬ r_73 < 0) → Q (1 : Int32) u_74)))) ∧ (¬ r_9 = (12 : Int32) → (r_9 = (13 : Int32) → w_R_some (x1 >>> ((4 : Int32) &&& 31)) (5 : Int32) (fun r_77 => w_R_play r_77 u_6 (fun r_79 u_80 => ((r_79 < 0) → Q (0 : Int32) u_80) ∧ ((¬ r_79 < 0) → Q (1 : Int32) u_80)))) ∧ (¬ r_9 = (13 : Int32) → (r_9 = (14 : Int32) → w_R_back  u_6 (fun r_83 u_84 => ((r_83 < 0) → Q (0 : Int32) u_84) ∧ ((¬ r_83 < 0) → Q (1 : Int32) u_84))) ∧ (¬ r_9 = (14 : Int32) → (r_9 = (15 : Int32) → ((¬ ((x1 >>> ((6 : Int32) &&& 31)) &&& (1 : Int32)) = 0) → 0 + (zLitB.getD 2 []).length ≤ 16 ∧ (w_R_some (x1 >>> ((4 : Int32) &&& 31)) (3 : Int32) (fun r_91 => ∃ v92, r_91 = nI v92 ∧ v92 < 10000 ∧ (0 + (zLitB.getD 2 []).length) + zDg v92 ≤ 16 ∧ (∀ f92 : Nat → Int32, (∀ z, z < (0 + (zLitB.getD 2 []).length) → f92 z = (va_cpy (fun z => (zLitB.getD 2 []).getD z 0) (fun _ => 0) 0 0 (zLitB.getD 2 []).length) z) → (v92 < 10 → f92 (0 + (zLitB.getD 2 []).length) = nI (48 + v92)) → (sb_Fit (va_cpy (fun z => (zLitB.getD 2 []).getD z 0) (fun _ => 0) 0 0 (zLitB.getD 2 []).length) → sb_Fit f92) → ((0 + (zLitB.getD 2 []).length) + zDg v92) + (zLitB.getD 3 []).length ≤ 16 ∧ (((((0 + (zLitB.getD 2 []).length) + zDg v92) + (zLitB.getD 3 []).length) < 16 ∧ sb_Fit (va_cpy (fun z => (zLitB.getD 3 []).getD z 0) f92 0 ((0 + (zLitB.getD 2 []).length) + zDg v92) (zLitB.getD 3 []).length)) ∧ (∃ bs98 : List Int32, (bs98.length = (((0 + (zLitB.getD 2 []).length) + zDg v92) + (zLitB.getD 3 []).length) ∧ (∀ k, k < bs98.length → (va_cpy (fun z => (zLitB.getD 3 []).getD z 0) f92 0 ((0 + (zLitB.getD 2 []).length) + zDg v92) (zLitB.getD 3 []).length) k = bs98.getD k 0)) ∧ bs98.length < 100 ∧ w_R_does bs98 u_6 (fun r_97 u_98 => ((r_97 < 0) → Q (0 : Int32) u_98) ∧ ((¬ r_97 < 0) → Q (1 : Int32) u_98)))))))) ∧ ((((x1 >>> ((6 : Int32) &&& 31)) &&& (1 : Int32)) = 0) → 0 + (zLitB.getD 0 []).length ≤ 16 ∧ (w_R_some (x1 >>> ((4 : Int32) &&& 31)) (8 : Int32) (fun r_105 => w_R_some (x1 >>> ((7 : Int32) &&& 31)) (8 : Int32) (fun r_107 => ∃ v108, (((162 : Int32) * r_105) + ((18 : Int32) * r_107)) = nI v108 ∧ v108 < 10000 ∧ (0 + (zLitB.getD 0 []).length) + zDg v108 ≤ 16 ∧ (∀ f108 : Nat → Int32, (∀ z, z < (0 + (zLitB.getD 0 []).length) → f108 z = (va_cpy (fun z => (zLitB.getD 0 []).getD z 0) (fun _ => 0) 0 0 (zLitB.getD 0 []).length) z) → (v108 < 10 → f108 (0 + (zLitB.getD 0 []).length) = nI (48 + v108)) → (sb_Fit (va_cpy (fun z => (zLitB.getD 0 []).getD z 0) (fun _ => 0) 0 0 (zLitB.getD 0 []).length) → sb_Fit f108) → ((0 + (zLitB.getD 0 []).length) + zDg v108) + (zLitB.getD 1 []).length ≤ 16 ∧ (((((0 + (zLitB.getD 0 []).length) + zDg v108) + (zLitB.getD 1 []).length) < 16 ∧ sb_Fit (va_cpy (fun z => (zLitB.getD 1 []).getD z 0) f108 0 ((0 + (zLitB.getD 0 []).length) + zDg v108) (zLitB.getD 1 []).length)) ∧ (∃ bs114 : List Int32, (bs114.length = (((0 + (zLitB.getD 0 []).length) + zDg v108) + (zLitB.getD 1 []).length) ∧ (∀ k, k < bs114.length → (va_cpy (fun z => (zLitB.getD 1 []).getD z 0) f108 0 ((0 + (zLitB.getD 0 []).length) + zDg v108) (zLitB.getD 1 []).length) k = bs114.getD k 0)) ∧ bs114.length < 100 ∧ w_R_does bs114 u_6 (fun r_113 u_114 => ((r_113 < 0) → Q (0 : Int32) u_114) ∧ ((¬ r_113 < 0) → Q (1 : Int32) u_114)))))))))) ∧ (¬ r_9 = (15 : Int32) → (r_9 = (16 : Int32) → ((¬ ((x1 >>> ((6 : Int32) &&& 31)) &&& (1 : Int32)) = 0) → 0 + (zLitB.getD 2 []).length ≤ 16 ∧ (w_R_some (x1 >>> ((4 : Int32) &&& 31)) (3 : Int32) (fun r_123 => ∃ v124, r_123 = nI v124 ∧ v124 < 10000 ∧ (0 + (zLitB.getD 2 []).length) + zDg v124 ≤ 16 ∧ (∀ f124 : Nat → Int32, (∀ z, z < (0 + (zLitB.getD 2 []).length) → f124 z = (va_cpy (fun z => (zLitB.getD 2 []).getD z 0) (fun _ => 0) 0 0 (zLitB.getD 2 []).length) z) → (v124 < 10 → f124 (0 + (zLitB.getD 2 []).length) = nI (48 + v124)) → (sb_Fit (va_cpy (fun z => (zLitB.getD 2 []).getD z 0) (fun _ => 0) 0 0 (zLitB.getD 2 []).length) → sb_Fit f124) → ((0 + (zLitB.getD 2 []).length) + zDg v124) + (zLitB.getD 3 []).length ≤ 16 ∧ (((((0 + (zLitB.getD 2 []).length) + zDg v124) + (zLitB.getD 3 []).length) < 16 ∧ sb_Fit (va_cpy (fun z => (zLitB.getD 3 []).getD z 0) f124 0 ((0 + (zLitB.getD 2 []).length) + zDg v124) (zLitB.getD 3 []).length)) ∧ (∃ bs130 : List Int32, (bs130.length = (((0 + (zLitB.getD 2 []).length) + zDg v124) + (zLitB.getD 3 []).length) ∧ (∀ k, k < bs130.length → (va_cpy (fun z => (zLitB.getD 3 []).getD z 0) f124 0 ((0 + (zLitB.getD 2 []).length) + zDg v124) (zLitB.getD 3 []).length) k = bs130.getD k 0)) ∧ bs130.length < 100 ∧ w_R_does bs130 u_6 (fun r_129 u_130 => ((r_129 < 0) → Q (0 : Int32) u_130) ∧ ((¬ r_129 < 0) → Q (1 : Int32) u_130)))))))) ∧ ((((x1 >>> ((6 : Int32) &&& 31)) &&& (1 : Int32)) = 0) → 0 + (zLitB.getD 0 []).length ≤ 16 ∧ (w_R_some (x1 >>> ((4 : Int32) &&& 31)) (8 : Int32) (fun r_137 => w_R_some (x1 >>> ((7 : Int32) &&& 31)) (8 : Int32) (fun r_139 => ∃ v140, (((162 : Int32) * r_137) + ((18 : Int32) * r_139)) = nI v140 ∧ v140 < 10000 ∧ (0 + (zLitB.getD 0 []).length) + zDg v140 ≤ 16 ∧ (∀ f140 : Nat → Int32, (∀ z, z < (0 + (zLitB.getD 0 []).length) → f140 z = (va_cpy (fun z => (zLitB.getD 0 []).getD z 0) (fun _ => 0) 0 0 (zLitB.getD 0 []).length) z) → (v140 < 10 → f140 (0 + (zLitB.getD 0 []).length) = nI (48 + v140)) → (sb_Fit (va_cpy (fun z => (zLitB.getD 0 []).getD z 0) (fun _ => 0) 0 0 (zLitB.getD 0 []).length) → sb_Fit f140) → ((0 + (zLitB.getD 0 []).length) + zDg v140) + (zLitB.getD 1 []).length ≤ 16 ∧ (((((0 + (zLitB.getD 0 []).length) + zDg v140) + (zLitB.getD 1 []).length) < 16 ∧ sb_Fit (va_cpy (fun z => (zLitB.getD 1 []).getD z 0) f140 0 ((0 + (zLitB.getD 0 []).length) + zDg v140) (zLitB.getD 1 []).length)) ∧ (∃ bs146 : List Int32, (bs146.length = (((0 + (zLitB.getD 0 []).length) + zDg v140) + (zLitB.getD 1 []).length) ∧ (∀ k, k < bs146.length → (va_cpy (fun z => (zLitB.getD 1 []).getD z 0) f140 0 ((0 + (zLitB.getD 0 []).length) + zDg v140) (zLitB.getD 1 []).length) k = bs146.getD k 0)) ∧ bs146.length < 100 ∧ w_R_does bs146 u_6 (fun r_145 u_146 => ((r_145 < 0) → Q (0 : Int32) u_146) ∧ ((¬ r_145 < 0) → Q (1 : Int32) u_146)))))))))) ∧ (¬ r_9 = (16 : Int32) → w_R_move r_3 r_7 u_6 (fun r_150 u_151 => ((r_150 < 0) → Q (0 : Int32) u_151) ∧ ((¬ r_150 < 0) → Q (1 : Int32) u_151))))))))))))))))))))))))
set_option maxHeartbeats 4000000 in
set_option maxRecDepth 100000 in
theorem c_L_changes (l : Launch) (hstk : l.stackTraces = false) (g : GE) (u : MU) (W : MU × ((Nat → Int64) × (Nat → UInt64))) (x1 : Int32) {Q : Int32 → MU → Prop} (h : w_R_changes x1 u Q) : Met l yL_changes (.code yL_changes cL_changes 4 (Option.some Jvm.ClassFile.FieldType.boolean) :: TB) rm_L_changes (zPc g (u, W) [.ref (g.2.2.1 0), .int x1]) (zQi g (zPx W Q)) 73 438 (zA g) := by
  unfold w_R_changes at h
  refine zMet (own := RL) [(0, .ref (g.2.2.1 0)), (1, .int x1)] (by decide +kernel) rfl (Nat.le_of_ble_eq_true rfl) rfl (fun p e s m args below meth c C hr => ?_)
  refine zm_iload_n C dL_changes_0 rfl 1 rfl ?_
  refine zm_iconst (v := 4) C dL_changes_1 (by decide) ?_
  refine zm_ishr C dL_changes_2 ?_
  refine zm_aload_n C dL_changes_3 rfl 0 rfl ?_
  refine zm_iconst (v := 0) C dL_changes_4 (by decide) ?_
  refine zm_ci (zr_SW (As := [.ref (g.2.2.1 0), .int (0 : Int32)]) (rest := [.int (x1 >>> ((4 : Int32) &&& 31))]) C (c_L_account l hstk _ u W (0 : Int32) h) wd_823 wd_824 wd_0 wd_825 hz_L_account rfl rfl ⟨by decide, by decide⟩ ⟨(show 0 + 1 ≤ 73 by omega), (show 0 + 6 ≤ 438 by omega)⟩ rfl rfl (Nat.le_of_ble_eq_true rfl) dL_changes_5) (fun r_1 M1 hq => ?_)
  obtain ⟨u_2, rfl, h⟩ := hq
  refine zm_iconst (v := 1) C dL_changes_8 (by decide) ?_
  refine zm_iadd C dL_changes_9 ?_
  refine zm_ci (zr_S (As := [.int (x1 >>> ((4 : Int32) &&& 31)), .int (r_1 + (1 : Int32))]) (rest := []) C (c_L_some l _ (u_2, W) (x1 >>> ((4 : Int32) &&& 31)) (r_1 + (1 : Int32)) h) wd_894 wd_895 wd_0 wd_896 hy_L_some rfl rfl ⟨by decide, by decide⟩ ⟨(show (0 + 1) + 0 ≤ 73 by omega), (show (0 + 6) + 0 ≤ 438 by omega)⟩ rfl rfl (Nat.le_of_ble_eq_true rfl) dL_changes_10) (fun r_3 M1 hq => ?_)
  obtain ⟨rfl, h⟩ := hq
  refine zm_istore_n (lv' := [(2, .int r_3), (0, .ref (g.2.2.1 0)), (1, .int x1)]) C dL_changes_13 rfl (by decide) rfl ?_
  refine zm_iload_n C dL_changes_14 rfl 2 rfl ?_
  refine zm_bipush (v := 7) C dL_changes_15 (by decide) ?_
  refine zm_ishr C dL_changes_17 ?_
  refine zm_aload_n C dL_changes_18 rfl 1 rfl ?_
  refine zm_iconst (v := 0) C dL_changes_19 (by decide) ?_
  refine zm_ci (zr_SW (As := [.ref (g.2.2.1 0), .int (0 : Int32)]) (rest := [.int (x1 >>> ((7 : Int32) &&& 31))]) C (c_L_account l hstk _ u_2 W (0 : Int32) h) wd_823 wd_824 wd_0 wd_825 hz_L_account rfl rfl ⟨by decide, by decide⟩ ⟨(show (0 + 1) + 1 ≤ 73 by omega), (show (0 + 6) + 6 ≤ 438 by omega)⟩ rfl rfl (Nat.le_of_ble_eq_true rfl) dL_changes_20) (fun r_5 M1 hq => ?_)
  obtain ⟨u_6, rfl, h⟩ := hq
  refine zm_iconst (v := 1) C dL_changes_23 (by decide) ?_
  refine zm_iadd C dL_changes_24 ?_
  refine zm_ci (zr_S (As := [.int (x1 >>> ((7 : Int32) &&& 31)), .int (r_5 + (1 : Int32))]) (rest := []) C (c_L_some l _ (u_6, W) (x1 >>> ((7 : Int32) &&& 31)) (r_5 + (1 : Int32)) h) wd_894 wd_895 wd_0 wd_896 hy_L_some rfl rfl ⟨by decide, by decide⟩ ⟨(show (0 + 2) + 0 ≤ 73 by omega), (show (0 + 12) + 0 ≤ 438 by omega)⟩ rfl rfl (Nat.le_of_ble_eq_true rfl) dL_changes_25) (fun r_7 M1 hq => ?_)
  obtain ⟨rfl, h⟩ := hq
  refine zm_istore_n (lv' := [(3, .int r_7), (2, .int r_3), (0, .ref (g.2.2.1 0)), (1, .int x1)]) C dL_changes_28 rfl (by decide) rfl ?_
  refine zm_iload_n C dL_changes_29 rfl 3 rfl ?_
  refine zm_bipush (v := 20) C dL_changes_30 (by decide) ?_
  refine zm_ci (zr_S (As := [.int x1, .int (20 : Int32)]) (rest := []) C (c_L_some l _ (u_6, W) x1 (20 : Int32) h) wd_894 wd_895 wd_0 wd_896 hy_L_some rfl rfl ⟨by decide, by decide⟩ ⟨(show (0 + 2) + 0 ≤ 73 by omega), (show (0 + 12) + 0 ≤ 438 by omega)⟩ rfl rfl (Nat.le_of_ble_eq_true rfl) dL_changes_32) (fun r_9 M1 hq => ?_)
  obtain ⟨rfl, h⟩ := hq
  by_cases hc_12 : r_9 = (0 : Int32)
  · have h := h.1 hc_12
    refine zm_tableIn (tgt := 116) C dL_changes_35 (by rw [hc_12]; decide) (by rw [hc_12]; decide) (by rw [hc_12]; rfl) (by decide) ?_
    refine zm_aload_n C dL_changes_116 rfl 2 rfl ?_
    refine zm_ci (zr_SW (As := [.ref (g.2.2.1 0)]) (rest := []) C (c_L_dig l hstk _ u_6 W  h) wd_335 wd_336 wd_0 wd_337 hz_L_dig rfl rfl ⟨by decide, by decide⟩ ⟨(show (0 + 2) + 1 ≤ 73 by omega), (show (0 + 12) + 6 ≤ 438 by omega)⟩ rfl rfl (Nat.le_of_ble_eq_true rfl) dL_changes_117) (fun r_13 M1 hq => ?_)
    obtain ⟨u_14, rfl, h⟩ := hq
    refine zm_if_lt (tgt := 127) C dL_changes_120 (by decide) (fun hc_15 => ?_) (fun hc_15 => ?_)
    · have h := h.1 hc_15
      refine zm_iconst (v := 0) C dL_changes_127 (by decide) ?_
      refine zm_widen (k1 := 73) (n1 := 438) (by omega) (by omega) ?_
      exact zm_zret (ty := .boolean) C hr (by decide) dL_changes_128 ⟨_, rfl, h⟩
    · have h := h.2 hc_15
      refine zm_iconst (v := 1) C dL_changes_123 (by decide) ?_
      refine zm_goto (tgt := 128) C dL_changes_124 (by decide) ?_
      refine zm_widen (k1 := 73) (n1 := 438) (by omega) (by omega) ?_
      exact zm_zret (ty := .boolean) C hr (by decide) dL_changes_128 ⟨_, rfl, h⟩
  · have h := h.2 hc_12
    by_cases hc_16 : r_9 = (1 : Int32)
    · have h := h.1 hc_16
      refine zm_tableIn (tgt := 129) C dL_changes_35 (by rw [hc_16]; decide) (by rw [hc_16]; decide) (by rw [hc_16]; rfl) (by decide) ?_
      refine zm_aload_n C dL_changes_129 rfl 2 rfl ?_
      refine zm_iload_n C dL_changes_130 rfl 1 rfl ?_
      refine zm_iload_n C dL_changes_131 rfl 0 rfl ?_
      refine zm_ci (zr_SW (As := [.ref (g.2.2.1 0), .int r_3, .int r_7]) (rest := []) C (c_L_tread l hstk _ u_6 W r_3 r_7 h) wd_449 wd_450 wd_0 wd_451 hz_L_tread rfl rfl ⟨by decide, by decide⟩ ⟨(show (0 + 2) + 1 ≤ 73 by omega), (show (0 + 12) + 6 ≤ 438 by omega)⟩ rfl rfl (Nat.le_of_ble_eq_true rfl) dL_changes_132) (fun r_17 M1 hq => ?_)
      obtain ⟨u_18, rfl, h⟩ := hq
      refine zm_if_lt (tgt := 142) C dL_changes_135 (by decide) (fun hc_19 => ?_) (fun hc_19 => ?_)
      · have h := h.1 hc_19
        refine zm_iconst (v := 0) C dL_changes_142 (by decide) ?_
        refine zm_widen (k1 := 73) (n1 := 438) (by omega) (by omega) ?_
        exact zm_zret (ty := .boolean) C hr (by decide) dL_changes_143 ⟨_, rfl, h⟩
      · have h := h.2 hc_19
        refine zm_iconst (v := 1) C dL_changes_138 (by decide) ?_
        refine zm_goto (tgt := 143) C dL_changes_139 (by decide) ?_
        refine zm_widen (k1 := 73) (n1 := 438) (by omega) (by omega) ?_
        exact zm_zret (ty := .boolean) C hr (by decide) dL_changes_143 ⟨_, rfl, h⟩
    · have h := h.2 hc_16
      by_cases hc_20 : r_9 = (2 : Int32)
      · have h := h.1 hc_20
        refine zm_tableIn (tgt := 129) C dL_changes_35 (by rw [hc_20]; decide) (by rw [hc_20]; decide) (by rw [hc_20]; rfl) (by decide) ?_
        refine zm_aload_n C dL_changes_129 rfl 2 rfl ?_
        refine zm_iload_n C dL_changes_130 rfl 1 rfl ?_
        refine zm_iload_n C dL_changes_131 rfl 0 rfl ?_
        refine zm_ci (zr_SW (As := [.ref (g.2.2.1 0), .int r_3, .int r_7]) (rest := []) C (c_L_tread l hstk _ u_6 W r_3 r_7 h) wd_449 wd_450 wd_0 wd_451 hz_L_tread rfl rfl ⟨by decide, by decide⟩ ⟨(show (0 + 2) + 1 ≤ 73 by omega), (show (0 + 12) + 6 ≤ 438 by omega)⟩ rfl rfl (Nat.le_of_ble_eq_true rfl) dL_changes_132) (fun r_21 M1 hq => ?_)
        obtain ⟨u_22, rfl, h⟩ := hq
        refine zm_if_lt (tgt := 142) C dL_changes_135 (by decide) (fun hc_23 => ?_) (fun hc_23 => ?_)
        · have h := h.1 hc_23
          refine zm_iconst (v := 0) C dL_changes_142 (by decide) ?_
          refine zm_widen (k1 := 73) (n1 := 438) (by omega) (by omega) ?_
          exact zm_zret (ty := .boolean) C hr (by decide) dL_changes_143 ⟨_, rfl, h⟩
        · have h := h.2 hc_23
          refine zm_iconst (v := 1) C dL_changes_138 (by decide) ?_
          refine zm_goto (tgt := 143) C dL_changes_139 (by decide) ?_
          refine zm_widen (k1 := 73) (n1 := 438) (by omega) (by omega) ?_
          exact zm_zret (ty := .boolean) C hr (by decide) dL_changes_143 ⟨_, rfl, h⟩
      · have h := h.2 hc_20
        by_cases hc_24 : r_9 = (3 : Int32)
        · have h := h.1 hc_24
          refine zm_tableIn (tgt := 129) C dL_changes_35 (by rw [hc_24]; decide) (by rw [hc_24]; decide) (by rw [hc_24]; rfl) (by decide) ?_
          refine zm_aload_n C dL_changes_129 rfl 2 rfl ?_
          refine zm_iload_n C dL_changes_130 rfl 1 rfl ?_
          refine zm_iload_n C dL_changes_131 rfl 0 rfl ?_
          refine zm_ci (zr_SW (As := [.ref (g.2.2.1 0), .int r_3, .int r_7]) (rest := []) C (c_L_tread l hstk _ u_6 W r_3 r_7 h) wd_449 wd_450 wd_0 wd_451 hz_L_tread rfl rfl ⟨by decide, by decide⟩ ⟨(show (0 + 2) + 1 ≤ 73 by omega), (show (0 + 12) + 6 ≤ 438 by omega)⟩ rfl rfl (Nat.le_of_ble_eq_true rfl) dL_changes_132) (fun r_25 M1 hq => ?_)
          obtain ⟨u_26, rfl, h⟩ := hq
          refine zm_if_lt (tgt := 142) C dL_changes_135 (by decide) (fun hc_27 => ?_) (fun hc_27 => ?_)
          · have h := h.1 hc_27
            refine zm_iconst (v := 0) C dL_changes_142 (by decide) ?_
            refine zm_widen (k1 := 73) (n1 := 438) (by omega) (by omega) ?_
            exact zm_zret (ty := .boolean) C hr (by decide) dL_changes_143 ⟨_, rfl, h⟩
          · have h := h.2 hc_27
            refine zm_iconst (v := 1) C dL_changes_138 (by decide) ?_
            refine zm_goto (tgt := 143) C dL_changes_139 (by decide) ?_
            refine zm_widen (k1 := 73) (n1 := 438) (by omega) (by omega) ?_
            exact zm_zret (ty := .boolean) C hr (by decide) dL_changes_143 ⟨_, rfl, h⟩
        · have h := h.2 hc_24
          by_cases hc_28 : r_9 = (4 : Int32)
          · have h := h.1 hc_28
            refine zm_tableIn (tgt := 144) C dL_changes_35 (by rw [hc_28]; decide) (by rw [hc_28]; decide) (by rw [hc_28]; rfl) (by decide) ?_
            refine zm_aload_n C dL_changes_144 rfl 2 rfl ?_
            refine zm_iload_n C dL_changes_145 rfl 1 rfl ?_
            refine zm_iload_n C dL_changes_146 rfl 0 rfl ?_
            refine zm_ci (zr_SW (As := [.ref (g.2.2.1 0), .int r_3, .int r_7]) (rest := []) C (c_L_grow l hstk _ u_6 W r_3 r_7 h) wd_489 wd_490 wd_0 wd_491 hz_L_grow rfl rfl ⟨by decide, by decide⟩ ⟨(show (0 + 2) + 1 ≤ 73 by omega), (show (0 + 12) + 6 ≤ 438 by omega)⟩ rfl rfl (Nat.le_of_ble_eq_true rfl) dL_changes_147) (fun r_29 M1 hq => ?_)
            obtain ⟨u_30, rfl, h⟩ := hq
            refine zm_if_lt (tgt := 157) C dL_changes_150 (by decide) (fun hc_31 => ?_) (fun hc_31 => ?_)
            · have h := h.1 hc_31
              refine zm_iconst (v := 0) C dL_changes_157 (by decide) ?_
              refine zm_widen (k1 := 73) (n1 := 438) (by omega) (by omega) ?_
              exact zm_zret (ty := .boolean) C hr (by decide) dL_changes_158 ⟨_, rfl, h⟩
            · have h := h.2 hc_31
              refine zm_iconst (v := 1) C dL_changes_153 (by decide) ?_
              refine zm_goto (tgt := 158) C dL_changes_154 (by decide) ?_
              refine zm_widen (k1 := 73) (n1 := 438) (by omega) (by omega) ?_
              exact zm_zret (ty := .boolean) C hr (by decide) dL_changes_158 ⟨_, rfl, h⟩
          · have h := h.2 hc_28
            by_cases hc_32 : r_9 = (5 : Int32)
            · have h := h.1 hc_32
              refine zm_tableIn (tgt := 159) C dL_changes_35 (by rw [hc_32]; decide) (by rw [hc_32]; decide) (by rw [hc_32]; rfl) (by decide) ?_
              refine zm_aload_n C dL_changes_159 rfl 2 rfl ?_
              refine zm_iload_n C dL_changes_160 rfl 1 rfl ?_
              refine zm_iload_n C dL_changes_161 rfl 3 rfl ?_
              refine zm_bipush (v := 64) C dL_changes_162 (by decide) ?_
              refine zm_iand C dL_changes_164 ?_
              refine zm_if_ne (tgt := 172) C dL_changes_165 (by decide) (fun hc_33 => ?_) (fun hc_33 => ?_)
              · have h := h.1 hc_33
                refine zm_iconst (v := 0) C dL_changes_172 (by decide) ?_
                exact zm_sub [] rfl (vb_R_changes_173 C hr hstk  _ _ _ _ _ (by omega) (by omega) h)
              · have h := h.2 hc_33
                refine zm_iconst (v := 1) C dL_changes_168 (by decide) ?_
                refine zm_goto (tgt := 173) C dL_changes_169 (by decide) ?_
                exact zm_sub [] rfl (vb_R_changes_173 C hr hstk  _ _ _ _ _ (by omega) (by omega) h)
            · have h := h.2 hc_32
              by_cases hc_34 : r_9 = (6 : Int32)
              · have h := h.1 hc_34
                refine zm_tableIn (tgt := 185) C dL_changes_35 (by rw [hc_34]; decide) (by rw [hc_34]; decide) (by rw [hc_34]; rfl) (by decide) ?_
                refine zm_aload_n C dL_changes_185 rfl 2 rfl ?_
                refine zm_iload_n C dL_changes_186 rfl 3 rfl ?_
                refine zm_iconst (v := 4) C dL_changes_187 (by decide) ?_
                refine zm_ishr C dL_changes_188 ?_
                refine zm_iconst (v := 4) C dL_changes_189 (by decide) ?_
                refine zm_ci (zr_S (As := [.int (x1 >>> ((4 : Int32) &&& 31)), .int (4 : Int32)]) (rest := [.ref (g.2.2.1 0)]) C (c_L_some l _ (u_6, W) (x1 >>> ((4 : Int32) &&& 31)) (4 : Int32) h) wd_894 wd_895 wd_0 wd_896 hy_L_some rfl rfl ⟨by decide, by decide⟩ ⟨(show (0 + 2) + 0 ≤ 73 by omega), (show (0 + 12) + 0 ≤ 438 by omega)⟩ rfl rfl (Nat.le_of_ble_eq_true rfl) dL_changes_190) (fun r_35 M1 hq => ?_)
                obtain ⟨rfl, h⟩ := hq
                refine zm_ci (zr_SW (As := [.ref (g.2.2.1 0), .int r_35]) (rest := []) C (c_L_flock l hstk _ u_6 W r_35 h) wd_504 wd_505 wd_0 wd_506 hz_L_flock rfl rfl ⟨by decide, by decide⟩ ⟨(show (0 + 2) + 1 ≤ 73 by omega), (show (0 + 12) + 6 ≤ 438 by omega)⟩ rfl rfl (Nat.le_of_ble_eq_true rfl) dL_changes_193) (fun r_37 M1 hq => ?_)
                obtain ⟨u_38, rfl, h⟩ := hq
                refine zm_if_lt (tgt := 203) C dL_changes_196 (by decide) (fun hc_39 => ?_) (fun hc_39 => ?_)
                · have h := h.1 hc_39
                  refine zm_iconst (v := 0) C dL_changes_203 (by decide) ?_
                  refine zm_widen (k1 := 73) (n1 := 438) (by omega) (by omega) ?_
                  exact zm_zret (ty := .boolean) C hr (by decide) dL_changes_204 ⟨_, rfl, h⟩
                · have h := h.2 hc_39
                  refine zm_iconst (v := 1) C dL_changes_199 (by decide) ?_
                  refine zm_goto (tgt := 204) C dL_changes_200 (by decide) ?_
                  refine zm_widen (k1 := 73) (n1 := 438) (by omega) (by omega) ?_
                  exact zm_zret (ty := .boolean) C hr (by decide) dL_changes_204 ⟨_, rfl, h⟩
              · have h := h.2 hc_34
                by_cases hc_40 : r_9 = (7 : Int32)
                · have h := h.1 hc_40
                  refine zm_tableIn (tgt := 205) C dL_changes_35 (by rw [hc_40]; decide) (by rw [hc_40]; decide) (by rw [hc_40]; rfl) (by decide) ?_
                  refine zm_aload_n C dL_changes_205 rfl 2 rfl ?_
                  refine zm_sipush (v := 162) C dL_changes_206 (by decide) ?_
                  refine zm_iload_n C dL_changes_209 rfl 1 rfl ?_
                  refine zm_imul C dL_changes_210 ?_
                  refine zm_bipush (v := 18) C dL_changes_211 (by decide) ?_
                  refine zm_iload_n C dL_changes_213 rfl 0 rfl ?_
                  refine zm_imul C dL_changes_214 ?_
                  refine zm_iadd C dL_changes_215 ?_
                  refine zm_aload_n C dL_changes_216 rfl 2 rfl ?_
                  refine zm_iconst (v := 3) C dL_changes_217 (by decide) ?_
                  refine zm_ci (zr_SW (As := [.ref (g.2.2.1 0), .int (3 : Int32)]) (rest := [.int (((162 : Int32) * r_3) + ((18 : Int32) * r_7)), .ref (g.2.2.1 0)]) C (c_L_account l hstk _ u_6 W (3 : Int32) h) wd_823 wd_824 wd_0 wd_825 hz_L_account rfl rfl ⟨by decide, by decide⟩ ⟨(show (0 + 2) + 1 ≤ 73 by omega), (show (0 + 12) + 6 ≤ 438 by omega)⟩ rfl rfl (Nat.le_of_ble_eq_true rfl) dL_changes_218) (fun r_41 M1 hq => ?_)
                  obtain ⟨u_42, rfl, h⟩ := hq
                  refine zm_iconst (v := 1) C dL_changes_221 (by decide) ?_
                  refine zm_icmp_ne (tgt := 229) C dL_changes_222 (by decide) (fun hc_43 => ?_) (fun hc_43 => ?_)
                  · have h := h.1 hc_43
                    refine zm_iconst (v := 2) C dL_changes_229 (by decide) ?_
                    refine zm_iconst (v := 2) C dL_changes_230 (by decide) ?_
                    refine zm_iload_n C dL_changes_231 rfl 3 rfl ?_
                    refine zm_bipush (v := 9) C dL_changes_232 (by decide) ?_
                    refine zm_ishr C dL_changes_234 ?_
                    refine zm_bipush (v := 8) C dL_changes_235 (by decide) ?_
                    refine zm_ci (zr_S (As := [.int (x1 >>> ((9 : Int32) &&& 31)), .int (8 : Int32)]) (rest := [.int (2 : Int32), .int (2 : Int32), .int (((162 : Int32) * r_3) + ((18 : Int32) * r_7)), .ref (g.2.2.1 0)]) C (c_L_some l _ (u_42, W) (x1 >>> ((9 : Int32) &&& 31)) (8 : Int32) h) wd_894 wd_895 wd_0 wd_896 hy_L_some rfl rfl ⟨by decide, by decide⟩ ⟨(show (0 + 3) + 0 ≤ 73 by omega), (show (0 + 18) + 0 ≤ 438 by omega)⟩ rfl rfl (Nat.le_of_ble_eq_true rfl) dL_changes_237) (fun r_44 M1 hq => ?_)
                    obtain ⟨rfl, h⟩ := hq
                    refine zm_imul C dL_changes_240 ?_
                    refine zm_iadd C dL_changes_241 ?_
                    exact zm_sub [3] rfl (vb_R_changes_242 C hr hstk  _ _ _ _ _ _ (by omega) (by omega) h)
                  · have h := h.2 hc_43
                    refine zm_iconst (v := 0) C dL_changes_225 (by decide) ?_
                    refine zm_goto (tgt := 242) C dL_changes_226 (by decide) ?_
                    exact zm_sub [3] rfl (vb_R_changes_242 C hr hstk  _ _ _ _ _ _ (by omega) (by omega) h)
                · have h := h.2 hc_40
                  by_cases hc_46 : r_9 = (8 : Int32)
                  · have h := h.1 hc_46
                    refine zm_tableIn (tgt := 205) C dL_changes_35 (by rw [hc_46]; decide) (by rw [hc_46]; decide) (by rw [hc_46]; rfl) (by decide) ?_
                    refine zm_aload_n C dL_changes_205 rfl 2 rfl ?_
                    refine zm_sipush (v := 162) C dL_changes_206 (by decide) ?_
                    refine zm_iload_n C dL_changes_209 rfl 1 rfl ?_
                    refine zm_imul C dL_changes_210 ?_
                    refine zm_bipush (v := 18) C dL_changes_211 (by decide) ?_
                    refine zm_iload_n C dL_changes_213 rfl 0 rfl ?_
                    refine zm_imul C dL_changes_214 ?_
                    refine zm_iadd C dL_changes_215 ?_
                    refine zm_aload_n C dL_changes_216 rfl 2 rfl ?_
                    refine zm_iconst (v := 3) C dL_changes_217 (by decide) ?_
                    refine zm_ci (zr_SW (As := [.ref (g.2.2.1 0), .int (3 : Int32)]) (rest := [.int (((162 : Int32) * r_3) + ((18 : Int32) * r_7)), .ref (g.2.2.1 0)]) C (c_L_account l hstk _ u_6 W (3 : Int32) h) wd_823 wd_824 wd_0 wd_825 hz_L_account rfl rfl ⟨by decide, by decide⟩ ⟨(show (0 + 2) + 1 ≤ 73 by omega), (show (0 + 12) + 6 ≤ 438 by omega)⟩ rfl rfl (Nat.le_of_ble_eq_true rfl) dL_changes_218) (fun r_47 M1 hq => ?_)
                    obtain ⟨u_48, rfl, h⟩ := hq
                    refine zm_iconst (v := 1) C dL_changes_221 (by decide) ?_
                    refine zm_icmp_ne (tgt := 229) C dL_changes_222 (by decide) (fun hc_49 => ?_) (fun hc_49 => ?_)
                    · have h := h.1 hc_49
                      refine zm_iconst (v := 2) C dL_changes_229 (by decide) ?_
                      refine zm_iconst (v := 2) C dL_changes_230 (by decide) ?_
                      refine zm_iload_n C dL_changes_231 rfl 3 rfl ?_
                      refine zm_bipush (v := 9) C dL_changes_232 (by decide) ?_
                      refine zm_ishr C dL_changes_234 ?_
                      refine zm_bipush (v := 8) C dL_changes_235 (by decide) ?_
                      refine zm_ci (zr_S (As := [.int (x1 >>> ((9 : Int32) &&& 31)), .int (8 : Int32)]) (rest := [.int (2 : Int32), .int (2 : Int32), .int (((162 : Int32) * r_3) + ((18 : Int32) * r_7)), .ref (g.2.2.1 0)]) C (c_L_some l _ (u_48, W) (x1 >>> ((9 : Int32) &&& 31)) (8 : Int32) h) wd_894 wd_895 wd_0 wd_896 hy_L_some rfl rfl ⟨by decide, by decide⟩ ⟨(show (0 + 3) + 0 ≤ 73 by omega), (show (0 + 18) + 0 ≤ 438 by omega)⟩ rfl rfl (Nat.le_of_ble_eq_true rfl) dL_changes_237) (fun r_50 M1 hq => ?_)
                      obtain ⟨rfl, h⟩ := hq
                      refine zm_imul C dL_changes_240 ?_
                      refine zm_iadd C dL_changes_241 ?_
                      exact zm_sub [3] rfl (vb_R_changes_242 C hr hstk  _ _ _ _ _ _ (by omega) (by omega) h)
                    · have h := h.2 hc_49
                      refine zm_iconst (v := 0) C dL_changes_225 (by decide) ?_
                      refine zm_goto (tgt := 242) C dL_changes_226 (by decide) ?_
                      exact zm_sub [3] rfl (vb_R_changes_242 C hr hstk  _ _ _ _ _ _ (by omega) (by omega) h)
                  · have h := h.2 hc_46
                    by_cases hc_52 : r_9 = (9 : Int32)
                    · have h := h.1 hc_52
                      refine zm_tableIn (tgt := 205) C dL_changes_35 (by rw [hc_52]; decide) (by rw [hc_52]; decide) (by rw [hc_52]; rfl) (by decide) ?_
                      refine zm_aload_n C dL_changes_205 rfl 2 rfl ?_
                      refine zm_sipush (v := 162) C dL_changes_206 (by decide) ?_
                      refine zm_iload_n C dL_changes_209 rfl 1 rfl ?_
                      refine zm_imul C dL_changes_210 ?_
                      refine zm_bipush (v := 18) C dL_changes_211 (by decide) ?_
                      refine zm_iload_n C dL_changes_213 rfl 0 rfl ?_
                      refine zm_imul C dL_changes_214 ?_
                      refine zm_iadd C dL_changes_215 ?_
                      refine zm_aload_n C dL_changes_216 rfl 2 rfl ?_
                      refine zm_iconst (v := 3) C dL_changes_217 (by decide) ?_
                      refine zm_ci (zr_SW (As := [.ref (g.2.2.1 0), .int (3 : Int32)]) (rest := [.int (((162 : Int32) * r_3) + ((18 : Int32) * r_7)), .ref (g.2.2.1 0)]) C (c_L_account l hstk _ u_6 W (3 : Int32) h) wd_823 wd_824 wd_0 wd_825 hz_L_account rfl rfl ⟨by decide, by decide⟩ ⟨(show (0 + 2) + 1 ≤ 73 by omega), (show (0 + 12) + 6 ≤ 438 by omega)⟩ rfl rfl (Nat.le_of_ble_eq_true rfl) dL_changes_218) (fun r_53 M1 hq => ?_)
                      obtain ⟨u_54, rfl, h⟩ := hq
                      refine zm_iconst (v := 1) C dL_changes_221 (by decide) ?_
                      refine zm_icmp_ne (tgt := 229) C dL_changes_222 (by decide) (fun hc_55 => ?_) (fun hc_55 => ?_)
                      · have h := h.1 hc_55
                        refine zm_iconst (v := 2) C dL_changes_229 (by decide) ?_
                        refine zm_iconst (v := 2) C dL_changes_230 (by decide) ?_
                        refine zm_iload_n C dL_changes_231 rfl 3 rfl ?_
                        refine zm_bipush (v := 9) C dL_changes_232 (by decide) ?_
                        refine zm_ishr C dL_changes_234 ?_
                        refine zm_bipush (v := 8) C dL_changes_235 (by decide) ?_
                        refine zm_ci (zr_S (As := [.int (x1 >>> ((9 : Int32) &&& 31)), .int (8 : Int32)]) (rest := [.int (2 : Int32), .int (2 : Int32), .int (((162 : Int32) * r_3) + ((18 : Int32) * r_7)), .ref (g.2.2.1 0)]) C (c_L_some l _ (u_54, W) (x1 >>> ((9 : Int32) &&& 31)) (8 : Int32) h) wd_894 wd_895 wd_0 wd_896 hy_L_some rfl rfl ⟨by decide, by decide⟩ ⟨(show (0 + 3) + 0 ≤ 73 by omega), (show (0 + 18) + 0 ≤ 438 by omega)⟩ rfl rfl (Nat.le_of_ble_eq_true rfl) dL_changes_237) (fun r_56 M1 hq => ?_)
                        obtain ⟨rfl, h⟩ := hq
                        refine zm_imul C dL_changes_240 ?_
                        refine zm_iadd C dL_changes_241 ?_
                        exact zm_sub [3] rfl (vb_R_changes_242 C hr hstk  _ _ _ _ _ _ (by omega) (by omega) h)
                      · have h := h.2 hc_55
                        refine zm_iconst (v := 0) C dL_changes_225 (by decide) ?_
                        refine zm_goto (tgt := 242) C dL_changes_226 (by decide) ?_
                        exact zm_sub [3] rfl (vb_R_changes_242 C hr hstk  _ _ _ _ _ _ (by omega) (by omega) h)
                    · have h := h.2 hc_52
                      by_cases hc_58 : r_9 = (10 : Int32)
                      · have h := h.1 hc_58
                        refine zm_tableIn (tgt := 205) C dL_changes_35 (by rw [hc_58]; decide) (by rw [hc_58]; decide) (by rw [hc_58]; rfl) (by decide) ?_
                        refine zm_aload_n C dL_changes_205 rfl 2 rfl ?_
                        refine zm_sipush (v := 162) C dL_changes_206 (by decide) ?_
                        refine zm_iload_n C dL_changes_209 rfl 1 rfl ?_
                        refine zm_imul C dL_changes_210 ?_
                        refine zm_bipush (v := 18) C dL_changes_211 (by decide) ?_
                        refine zm_iload_n C dL_changes_213 rfl 0 rfl ?_
                        refine zm_imul C dL_changes_214 ?_
                        refine zm_iadd C dL_changes_215 ?_
                        refine zm_aload_n C dL_changes_216 rfl 2 rfl ?_
                        refine zm_iconst (v := 3) C dL_changes_217 (by decide) ?_
                        refine zm_ci (zr_SW (As := [.ref (g.2.2.1 0), .int (3 : Int32)]) (rest := [.int (((162 : Int32) * r_3) + ((18 : Int32) * r_7)), .ref (g.2.2.1 0)]) C (c_L_account l hstk _ u_6 W (3 : Int32) h) wd_823 wd_824 wd_0 wd_825 hz_L_account rfl rfl ⟨by decide, by decide⟩ ⟨(show (0 + 2) + 1 ≤ 73 by omega), (show (0 + 12) + 6 ≤ 438 by omega)⟩ rfl rfl (Nat.le_of_ble_eq_true rfl) dL_changes_218) (fun r_59 M1 hq => ?_)
                        obtain ⟨u_60, rfl, h⟩ := hq
                        refine zm_iconst (v := 1) C dL_changes_221 (by decide) ?_
                        refine zm_icmp_ne (tgt := 229) C dL_changes_222 (by decide) (fun hc_61 => ?_) (fun hc_61 => ?_)
                        · have h := h.1 hc_61
                          refine zm_iconst (v := 2) C dL_changes_229 (by decide) ?_
                          refine zm_iconst (v := 2) C dL_changes_230 (by decide) ?_
                          refine zm_iload_n C dL_changes_231 rfl 3 rfl ?_
                          refine zm_bipush (v := 9) C dL_changes_232 (by decide) ?_
                          refine zm_ishr C dL_changes_234 ?_
                          refine zm_bipush (v := 8) C dL_changes_235 (by decide) ?_
                          refine zm_ci (zr_S (As := [.int (x1 >>> ((9 : Int32) &&& 31)), .int (8 : Int32)]) (rest := [.int (2 : Int32), .int (2 : Int32), .int (((162 : Int32) * r_3) + ((18 : Int32) * r_7)), .ref (g.2.2.1 0)]) C (c_L_some l _ (u_60, W) (x1 >>> ((9 : Int32) &&& 31)) (8 : Int32) h) wd_894 wd_895 wd_0 wd_896 hy_L_some rfl rfl ⟨by decide, by decide⟩ ⟨(show (0 + 3) + 0 ≤ 73 by omega), (show (0 + 18) + 0 ≤ 438 by omega)⟩ rfl rfl (Nat.le_of_ble_eq_true rfl) dL_changes_237) (fun r_62 M1 hq => ?_)
                          obtain ⟨rfl, h⟩ := hq
                          refine zm_imul C dL_changes_240 ?_
                          refine zm_iadd C dL_changes_241 ?_
                          exact zm_sub [3] rfl (vb_R_changes_242 C hr hstk  _ _ _ _ _ _ (by omega) (by omega) h)
                        · have h := h.2 hc_61
                          refine zm_iconst (v := 0) C dL_changes_225 (by decide) ?_
                          refine zm_goto (tgt := 242) C dL_changes_226 (by decide) ?_
                          exact zm_sub [3] rfl (vb_R_changes_242 C hr hstk  _ _ _ _ _ _ (by omega) (by omega) h)
                      · have h := h.2 hc_58
                        by_cases hc_64 : r_9 = (11 : Int32)
                        · have h := h.1 hc_64
                          refine zm_tableIn (tgt := 262) C dL_changes_35 (by rw [hc_64]; decide) (by rw [hc_64]; decide) (by rw [hc_64]; rfl) (by decide) ?_
                          refine zm_aload_n C dL_changes_262 rfl 2 rfl ?_
                          refine zm_iload_n C dL_changes_263 rfl 3 rfl ?_
                          refine zm_iconst (v := 4) C dL_changes_264 (by decide) ?_
                          refine zm_ishr C dL_changes_265 ?_
                          refine zm_iconst (v := 5) C dL_changes_266 (by decide) ?_
                          refine zm_ci (zr_S (As := [.int (x1 >>> ((4 : Int32) &&& 31)), .int (5 : Int32)]) (rest := [.ref (g.2.2.1 0)]) C (c_L_some l _ (u_6, W) (x1 >>> ((4 : Int32) &&& 31)) (5 : Int32) h) wd_894 wd_895 wd_0 wd_896 hy_L_some rfl rfl ⟨by decide, by decide⟩ ⟨(show (0 + 2) + 0 ≤ 73 by omega), (show (0 + 12) + 0 ≤ 438 by omega)⟩ rfl rfl (Nat.le_of_ble_eq_true rfl) dL_changes_267) (fun r_65 M1 hq => ?_)
                          obtain ⟨rfl, h⟩ := hq
                          refine zm_ci (zr_SW (As := [.ref (g.2.2.1 0), .int r_65]) (rest := []) C (c_L_play l hstk _ u_6 W r_65 h) wd_1104 wd_1105 wd_0 wd_1106 hz_L_play rfl rfl ⟨by decide, by decide⟩ ⟨(show (0 + 2) + 1 ≤ 73 by omega), (show (0 + 12) + 6 ≤ 438 by omega)⟩ rfl rfl (Nat.le_of_ble_eq_true rfl) dL_changes_270) (fun r_67 M1 hq => ?_)
                          obtain ⟨u_68, rfl, h⟩ := hq
                          refine zm_if_lt (tgt := 280) C dL_changes_273 (by decide) (fun hc_69 => ?_) (fun hc_69 => ?_)
                          · have h := h.1 hc_69
                            refine zm_iconst (v := 0) C dL_changes_280 (by decide) ?_
                            refine zm_widen (k1 := 73) (n1 := 438) (by omega) (by omega) ?_
                            exact zm_zret (ty := .boolean) C hr (by decide) dL_changes_281 ⟨_, rfl, h⟩
                          · have h := h.2 hc_69
                            refine zm_iconst (v := 1) C dL_changes_276 (by decide) ?_
                            refine zm_goto (tgt := 281) C dL_changes_277 (by decide) ?_
                            refine zm_widen (k1 := 73) (n1 := 438) (by omega) (by omega) ?_
                            exact zm_zret (ty := .boolean) C hr (by decide) dL_changes_281 ⟨_, rfl, h⟩
                        · have h := h.2 hc_64
                          by_cases hc_70 : r_9 = (12 : Int32)
                          · have h := h.1 hc_70
                            refine zm_tableIn (tgt := 262) C dL_changes_35 (by rw [hc_70]; decide) (by rw [hc_70]; decide) (by rw [hc_70]; rfl) (by decide) ?_
                            refine zm_aload_n C dL_changes_262 rfl 2 rfl ?_
                            refine zm_iload_n C dL_changes_263 rfl 3 rfl ?_
                            refine zm_iconst (v := 4) C dL_changes_264 (by decide) ?_
                            refine zm_ishr C dL_changes_265 ?_
                            refine zm_iconst (v := 5) C dL_changes_266 (by decide) ?_
                            refine zm_ci (zr_S (As := [.int (x1 >>> ((4 : Int32) &&& 31)), .int (5 : Int32)]) (rest := [.ref (g.2.2.1 0)]) C (c_L_some l _ (u_6, W) (x1 >>> ((4 : Int32) &&& 31)) (5 : Int32) h) wd_894 wd_895 wd_0 wd_896 hy_L_some rfl rfl ⟨by decide, by decide⟩ ⟨(show (0 + 2) + 0 ≤ 73 by omega), (show (0 + 12) + 0 ≤ 438 by omega)⟩ rfl rfl (Nat.le_of_ble_eq_true rfl) dL_changes_267) (fun r_71 M1 hq => ?_)
                            obtain ⟨rfl, h⟩ := hq
                            refine zm_ci (zr_SW (As := [.ref (g.2.2.1 0), .int r_71]) (rest := []) C (c_L_play l hstk _ u_6 W r_71 h) wd_1104 wd_1105 wd_0 wd_1106 hz_L_play rfl rfl ⟨by decide, by decide⟩ ⟨(show (0 + 2) + 1 ≤ 73 by omega), (show (0 + 12) + 6 ≤ 438 by omega)⟩ rfl rfl (Nat.le_of_ble_eq_true rfl) dL_changes_270) (fun r_73 M1 hq => ?_)
                            obtain ⟨u_74, rfl, h⟩ := hq
                            refine zm_if_lt (tgt := 280) C dL_changes_273 (by decide) (fun hc_75 => ?_) (fun hc_75 => ?_)
                            · have h := h.1 hc_75
                              refine zm_iconst (v := 0) C dL_changes_280 (by decide) ?_
                              refine zm_widen (k1 := 73) (n1 := 438) (by omega) (by omega) ?_
                              exact zm_zret (ty := .boolean) C hr (by decide) dL_changes_281 ⟨_, rfl, h⟩
                            · have h := h.2 hc_75
                              refine zm_iconst (v := 1) C dL_changes_276 (by decide) ?_
                              refine zm_goto (tgt := 281) C dL_changes_277 (by decide) ?_
                              refine zm_widen (k1 := 73) (n1 := 438) (by omega) (by omega) ?_
                              exact zm_zret (ty := .boolean) C hr (by decide) dL_changes_281 ⟨_, rfl, h⟩
                          · have h := h.2 hc_70
                            by_cases hc_76 : r_9 = (13 : Int32)
                            · have h := h.1 hc_76
                              refine zm_tableIn (tgt := 262) C dL_changes_35 (by rw [hc_76]; decide) (by rw [hc_76]; decide) (by rw [hc_76]; rfl) (by decide) ?_
                              refine zm_aload_n C dL_changes_262 rfl 2 rfl ?_
                              refine zm_iload_n C dL_changes_263 rfl 3 rfl ?_
                              refine zm_iconst (v := 4) C dL_changes_264 (by decide) ?_
                              refine zm_ishr C dL_changes_265 ?_
                              refine zm_iconst (v := 5) C dL_changes_266 (by decide) ?_
                              refine zm_ci (zr_S (As := [.int (x1 >>> ((4 : Int32) &&& 31)), .int (5 : Int32)]) (rest := [.ref (g.2.2.1 0)]) C (c_L_some l _ (u_6, W) (x1 >>> ((4 : Int32) &&& 31)) (5 : Int32) h) wd_894 wd_895 wd_0 wd_896 hy_L_some rfl rfl ⟨by decide, by decide⟩ ⟨(show (0 + 2) + 0 ≤ 73 by omega), (show (0 + 12) + 0 ≤ 438 by omega)⟩ rfl rfl (Nat.le_of_ble_eq_true rfl) dL_changes_267) (fun r_77 M1 hq => ?_)
                              obtain ⟨rfl, h⟩ := hq
                              refine zm_ci (zr_SW (As := [.ref (g.2.2.1 0), .int r_77]) (rest := []) C (c_L_play l hstk _ u_6 W r_77 h) wd_1104 wd_1105 wd_0 wd_1106 hz_L_play rfl rfl ⟨by decide, by decide⟩ ⟨(show (0 + 2) + 1 ≤ 73 by omega), (show (0 + 12) + 6 ≤ 438 by omega)⟩ rfl rfl (Nat.le_of_ble_eq_true rfl) dL_changes_270) (fun r_79 M1 hq => ?_)
                              obtain ⟨u_80, rfl, h⟩ := hq
                              refine zm_if_lt (tgt := 280) C dL_changes_273 (by decide) (fun hc_81 => ?_) (fun hc_81 => ?_)
                              · have h := h.1 hc_81
                                refine zm_iconst (v := 0) C dL_changes_280 (by decide) ?_
                                refine zm_widen (k1 := 73) (n1 := 438) (by omega) (by omega) ?_
                                exact zm_zret (ty := .boolean) C hr (by decide) dL_changes_281 ⟨_, rfl, h⟩
                              · have h := h.2 hc_81
                                refine zm_iconst (v := 1) C dL_changes_276 (by decide) ?_
                                refine zm_goto (tgt := 281) C dL_changes_277 (by decide) ?_
                                refine zm_widen (k1 := 73) (n1 := 438) (by omega) (by omega) ?_
                                exact zm_zret (ty := .boolean) C hr (by decide) dL_changes_281 ⟨_, rfl, h⟩
                            · have h := h.2 hc_76
                              by_cases hc_82 : r_9 = (14 : Int32)
                              · have h := h.1 hc_82
                                refine zm_tableIn (tgt := 282) C dL_changes_35 (by rw [hc_82]; decide) (by rw [hc_82]; decide) (by rw [hc_82]; rfl) (by decide) ?_
                                refine zm_aload_n C dL_changes_282 rfl 2 rfl ?_
                                refine zm_ci (zr_SW (As := [.ref (g.2.2.1 0)]) (rest := []) C (c_L_back l hstk _ u_6 W  h) wd_1111 wd_1112 wd_0 wd_1113 hz_L_back rfl rfl ⟨by decide, by decide⟩ ⟨(show (0 + 2) + 1 ≤ 73 by omega), (show (0 + 12) + 6 ≤ 438 by omega)⟩ rfl rfl (Nat.le_of_ble_eq_true rfl) dL_changes_283) (fun r_83 M1 hq => ?_)
                                obtain ⟨u_84, rfl, h⟩ := hq
                                refine zm_if_lt (tgt := 293) C dL_changes_286 (by decide) (fun hc_85 => ?_) (fun hc_85 => ?_)
                                · have h := h.1 hc_85
                                  refine zm_iconst (v := 0) C dL_changes_293 (by decide) ?_
                                  refine zm_widen (k1 := 73) (n1 := 438) (by omega) (by omega) ?_
                                  exact zm_zret (ty := .boolean) C hr (by decide) dL_changes_294 ⟨_, rfl, h⟩
                                · have h := h.2 hc_85
                                  refine zm_iconst (v := 1) C dL_changes_289 (by decide) ?_
                                  refine zm_goto (tgt := 294) C dL_changes_290 (by decide) ?_
                                  refine zm_widen (k1 := 73) (n1 := 438) (by omega) (by omega) ?_
                                  exact zm_zret (ty := .boolean) C hr (by decide) dL_changes_294 ⟨_, rfl, h⟩
                              · have h := h.2 hc_82
                                by_cases hc_86 : r_9 = (15 : Int32)
                                · have h := h.1 hc_86
                                  refine zm_tableIn (tgt := 295) C dL_changes_35 (by rw [hc_86]; decide) (by rw [hc_86]; decide) (by rw [hc_86]; rfl) (by decide) ?_
                                  refine zm_aload_n C dL_changes_295 rfl 2 rfl ?_
                                  refine zm_iload_n C dL_changes_296 rfl 3 rfl ?_
                                  refine zm_bipush (v := 6) C dL_changes_297 (by decide) ?_
                                  refine zm_ishr C dL_changes_299 ?_
                                  refine zm_iconst (v := 1) C dL_changes_300 (by decide) ?_
                                  refine zm_iand C dL_changes_301 ?_
                                  refine zm_if_ne (tgt := 356) C dL_changes_302 (by decide) (fun hc_87 => ?_) (fun hc_87 => ?_)
                                  · have h := h.1 hc_87
                                    refine zb_new C wd_1118 wd_1119 wd_33 wd_1120 wd_1121 wd_1122 (by decide) (by decide) (show (0 + 2) + 1 + 1 ≤ 73 by omega) (show (0 + 12) + 4 + 16 ≤ 438 by omega) (Nat.le_of_ble_eq_true rfl) dL_changes_356 dL_changes_359 dL_changes_360 (fun sb87 pb87 C87 => ?_)
                                    refine zm_widen (k1 := (0 + 6)) (n1 := (0 + 36)) (by omega) (by omega) ?_
                                    obtain ⟨hg_90, h⟩ := h
                                    refine zb_lit (g := g) (st := [.ref (g.2.2.1 0)]) C C87 (q := 2) (by decide) rfl rfl hg_90 wd_1150 wd_1151 wd_1152 wd_33 wd_1153 (by decide) (by decide) ⟨(show (0 + 6) + 0 ≤ 73 by omega), (show (0 + 36) + 0 ≤ 438 by omega)⟩ (Nat.le_of_ble_eq_true rfl) dL_changes_363 dL_changes_365 (fun C88 => ?_)
                                    refine zm_iload_n C88 dL_changes_368 rfl 3 rfl ?_
                                    refine zm_iconst (v := 4) C88 dL_changes_369 (by decide) ?_
                                    refine zm_ishr C88 dL_changes_370 ?_
                                    refine zm_iconst (v := 3) C88 dL_changes_371 (by decide) ?_
                                    refine zm_ci (zr_S (As := [.int (x1 >>> ((4 : Int32) &&& 31)), .int (3 : Int32)]) (rest := [.ref sb87, .ref (g.2.2.1 0)]) C88 (c_L_some l _ (u_6, W) (x1 >>> ((4 : Int32) &&& 31)) (3 : Int32) h) wd_894 wd_895 wd_0 wd_896 hy_L_some rfl rfl ⟨by decide, by decide⟩ ⟨(show (0 + 6) + 0 ≤ 73 by omega), (show (0 + 36) + 0 ≤ 438 by omega)⟩ rfl rfl (Nat.le_of_ble_eq_true rfl) dL_changes_372) (fun r_91 M1 hq => ?_)
                                    obtain ⟨rfl, h⟩ := hq
                                    obtain ⟨v92, hy92, hv92, hn92, h⟩ := h
                                    refine zb_int (g := g) (st := [.ref (g.2.2.1 0)]) C C88 hy92 hv92 hn92 wd_1264 wd_1265 wd_1266 wd_33 wd_1267 (by decide) (by decide) ⟨(show (0 + 6) + 0 ≤ 73 by omega), (show (0 + 36) + 0 ≤ 438 by omega)⟩ (Nat.le_of_ble_eq_true rfl) dL_changes_375 (fun f92 e1 e2 e3 C92 => ?_)
                                    have h := h f92 e1 e2 e3
                                    obtain ⟨hg_95, h⟩ := h
                                    refine zb_lit (g := g) (st := [.ref (g.2.2.1 0)]) C C92 (q := 3) (by decide) rfl rfl hg_95 wd_1150 wd_1151 wd_1152 wd_33 wd_1153 (by decide) (by decide) ⟨(show (0 + 6) + 0 ≤ 73 by omega), (show (0 + 36) + 0 ≤ 438 by omega)⟩ (Nat.le_of_ble_eq_true rfl) dL_changes_378 dL_changes_380 (fun C93 => ?_)
                                    obtain ⟨hg_101, h⟩ := h
                                    refine zb_str (g := g) (st := [.ref (g.2.2.1 0)]) C C93 hg_101.1 hg_101.2 wd_1290 wd_1291 wd_1292 wd_33 wd_1293 (by decide) (by decide) ⟨(show (0 + 6) + 2 ≤ 73 by omega), (show (0 + 36) + 20 ≤ 438 by omega)⟩ (Nat.le_of_ble_eq_true rfl) dL_changes_383 (fun a95 pc95 C95 => ?_)
                                    refine zm_widen (k1 := (0 + 10)) (n1 := (0 + 60)) (by omega) (by omega) ?_
                                    obtain ⟨bs98, hb98, hl98, h⟩ := h
                                    refine zm_ci (zr_D (As := [.ref (g.2.2.1 0), .ref a95]) (rest := []) C95 (c_L_does l hstk _ u_6 W (a := a95) h) (fun H locs hp hs => zb_G hb98.1 hb98.2 (by omega)) wd_1355 wd_1356 wd_0 wd_1357 hy_L_does rfl rfl ⟨by decide, by decide⟩ ⟨(show (0 + 10) + 63 ≤ 73 by omega), (show (0 + 60) + 378 ≤ 438 by omega)⟩ rfl rfl (Nat.le_of_ble_eq_true rfl) dL_changes_386) (fun r_97 M1 hq => ?_)
                                    obtain ⟨u_98, rfl, h⟩ := hq
                                    refine zb_end (v := [(sb87, zSB pb87 (((0 + (zLitB.getD 2 []).length) + zDg v92) + (zLitB.getD 3 []).length)), (pb87, zBY g 16 (va_cpy (fun z => (zLitB.getD 3 []).getD z 0) f92 0 ((0 + (zLitB.getD 2 []).length) + zDg v92) (zLitB.getD 3 []).length)), (a95, zSTR pc95), (pc95, zBY g (((0 + (zLitB.getD 2 []).length) + zDg v92) + (zLitB.getD 3 []).length) (va_cpy (va_cpy (fun z => (zLitB.getD 3 []).getD z 0) f92 0 ((0 + (zLitB.getD 2 []).length) + zDg v92) (zLitB.getD 3 []).length) (fun _ => 0) 0 0 (((0 + (zLitB.getD 2 []).length) + zDg v92) + (zLitB.getD 3 []).length)))]) C ?_
                                    refine zm_if_lt (tgt := 396) C dL_changes_389 (by decide) (fun hc_100 => ?_) (fun hc_100 => ?_)
                                    · have h := h.1 hc_100
                                      refine zm_iconst (v := 0) C dL_changes_396 (by decide) ?_
                                      refine zm_widen (k1 := 73) (n1 := 438) (by omega) (by omega) ?_
                                      exact zm_zret (ty := .boolean) C hr (by decide) dL_changes_397 ⟨_, rfl, h⟩
                                    · have h := h.2 hc_100
                                      refine zm_iconst (v := 1) C dL_changes_392 (by decide) ?_
                                      refine zm_goto (tgt := 397) C dL_changes_393 (by decide) ?_
                                      refine zm_widen (k1 := 73) (n1 := 438) (by omega) (by omega) ?_
                                      exact zm_zret (ty := .boolean) C hr (by decide) dL_changes_397 ⟨_, rfl, h⟩
                                  · have h := h.2 hc_87
                                    refine zb_new C wd_1118 wd_1119 wd_33 wd_1120 wd_1121 wd_1122 (by decide) (by decide) (show (0 + 2) + 1 + 1 ≤ 73 by omega) (show (0 + 12) + 4 + 16 ≤ 438 by omega) (Nat.le_of_ble_eq_true rfl) dL_changes_305 dL_changes_308 dL_changes_309 (fun sb101 pb101 C101 => ?_)
                                    refine zm_widen (k1 := (0 + 6)) (n1 := (0 + 36)) (by omega) (by omega) ?_
                                    obtain ⟨hg_104, h⟩ := h
                                    refine zb_lit (g := g) (st := [.ref (g.2.2.1 0)]) C C101 (q := 0) (by decide) rfl rfl hg_104 wd_1150 wd_1151 wd_1152 wd_33 wd_1153 (by decide) (by decide) ⟨(show (0 + 6) + 0 ≤ 73 by omega), (show (0 + 36) + 0 ≤ 438 by omega)⟩ (Nat.le_of_ble_eq_true rfl) dL_changes_312 dL_changes_314 (fun C102 => ?_)
                                    refine zm_sipush (v := 162) C102 dL_changes_317 (by decide) ?_
                                    refine zm_iload_n C102 dL_changes_320 rfl 3 rfl ?_
                                    refine zm_iconst (v := 4) C102 dL_changes_321 (by decide) ?_
                                    refine zm_ishr C102 dL_changes_322 ?_
                                    refine zm_bipush (v := 8) C102 dL_changes_323 (by decide) ?_
                                    refine zm_ci (zr_S (As := [.int (x1 >>> ((4 : Int32) &&& 31)), .int (8 : Int32)]) (rest := [.int (162 : Int32), .ref sb101, .ref (g.2.2.1 0)]) C102 (c_L_some l _ (u_6, W) (x1 >>> ((4 : Int32) &&& 31)) (8 : Int32) h) wd_894 wd_895 wd_0 wd_896 hy_L_some rfl rfl ⟨by decide, by decide⟩ ⟨(show (0 + 6) + 0 ≤ 73 by omega), (show (0 + 36) + 0 ≤ 438 by omega)⟩ rfl rfl (Nat.le_of_ble_eq_true rfl) dL_changes_325) (fun r_105 M1 hq => ?_)
                                    obtain ⟨rfl, h⟩ := hq
                                    refine zm_imul C102 dL_changes_328 ?_
                                    refine zm_bipush (v := 18) C102 dL_changes_329 (by decide) ?_
                                    refine zm_iload_n C102 dL_changes_331 rfl 3 rfl ?_
                                    refine zm_bipush (v := 7) C102 dL_changes_332 (by decide) ?_
                                    refine zm_ishr C102 dL_changes_334 ?_
                                    refine zm_bipush (v := 8) C102 dL_changes_335 (by decide) ?_
                                    refine zm_ci (zr_S (As := [.int (x1 >>> ((7 : Int32) &&& 31)), .int (8 : Int32)]) (rest := [.int (18 : Int32), .int ((162 : Int32) * r_105), .ref sb101, .ref (g.2.2.1 0)]) C102 (c_L_some l _ (u_6, W) (x1 >>> ((7 : Int32) &&& 31)) (8 : Int32) h) wd_894 wd_895 wd_0 wd_896 hy_L_some rfl rfl ⟨by decide, by decide⟩ ⟨(show (0 + 6) + 0 ≤ 73 by omega), (show (0 + 36) + 0 ≤ 438 by omega)⟩ rfl rfl (Nat.le_of_ble_eq_true rfl) dL_changes_337) (fun r_107 M1 hq => ?_)
                                    obtain ⟨rfl, h⟩ := hq
                                    refine zm_imul C102 dL_changes_340 ?_
                                    refine zm_iadd C102 dL_changes_341 ?_
                                    obtain ⟨v108, hy108, hv108, hn108, h⟩ := h
                                    refine zb_int (g := g) (st := [.ref (g.2.2.1 0)]) C C102 hy108 hv108 hn108 wd_1264 wd_1265 wd_1266 wd_33 wd_1267 (by decide) (by decide) ⟨(show (0 + 6) + 0 ≤ 73 by omega), (show (0 + 36) + 0 ≤ 438 by omega)⟩ (Nat.le_of_ble_eq_true rfl) dL_changes_342 (fun f108 e1 e2 e3 C108 => ?_)
                                    have h := h f108 e1 e2 e3
                                    obtain ⟨hg_111, h⟩ := h
                                    refine zb_lit (g := g) (st := [.ref (g.2.2.1 0)]) C C108 (q := 1) (by decide) rfl rfl hg_111 wd_1150 wd_1151 wd_1152 wd_33 wd_1153 (by decide) (by decide) ⟨(show (0 + 6) + 0 ≤ 73 by omega), (show (0 + 36) + 0 ≤ 438 by omega)⟩ (Nat.le_of_ble_eq_true rfl) dL_changes_345 dL_changes_347 (fun C109 => ?_)
                                    obtain ⟨hg_117, h⟩ := h
                                    refine zb_str (g := g) (st := [.ref (g.2.2.1 0)]) C C109 hg_117.1 hg_117.2 wd_1290 wd_1291 wd_1292 wd_33 wd_1293 (by decide) (by decide) ⟨(show (0 + 6) + 2 ≤ 73 by omega), (show (0 + 36) + 20 ≤ 438 by omega)⟩ (Nat.le_of_ble_eq_true rfl) dL_changes_350 (fun a111 pc111 C111 => ?_)
                                    refine zm_widen (k1 := (0 + 10)) (n1 := (0 + 60)) (by omega) (by omega) ?_
                                    refine zm_goto (tgt := 386) C111 dL_changes_353 (by decide) ?_
                                    obtain ⟨bs114, hb114, hl114, h⟩ := h
                                    refine zm_ci (zr_D (As := [.ref (g.2.2.1 0), .ref a111]) (rest := []) C111 (c_L_does l hstk _ u_6 W (a := a111) h) (fun H locs hp hs => zb_G hb114.1 hb114.2 (by omega)) wd_1355 wd_1356 wd_0 wd_1357 hy_L_does rfl rfl ⟨by decide, by decide⟩ ⟨(show (0 + 10) + 63 ≤ 73 by omega), (show (0 + 60) + 378 ≤ 438 by omega)⟩ rfl rfl (Nat.le_of_ble_eq_true rfl) dL_changes_386) (fun r_113 M1 hq => ?_)
                                    obtain ⟨u_114, rfl, h⟩ := hq
                                    refine zb_end (v := [(sb101, zSB pb101 (((0 + (zLitB.getD 0 []).length) + zDg v108) + (zLitB.getD 1 []).length)), (pb101, zBY g 16 (va_cpy (fun z => (zLitB.getD 1 []).getD z 0) f108 0 ((0 + (zLitB.getD 0 []).length) + zDg v108) (zLitB.getD 1 []).length)), (a111, zSTR pc111), (pc111, zBY g (((0 + (zLitB.getD 0 []).length) + zDg v108) + (zLitB.getD 1 []).length) (va_cpy (va_cpy (fun z => (zLitB.getD 1 []).getD z 0) f108 0 ((0 + (zLitB.getD 0 []).length) + zDg v108) (zLitB.getD 1 []).length) (fun _ => 0) 0 0 (((0 + (zLitB.getD 0 []).length) + zDg v108) + (zLitB.getD 1 []).length)))]) C ?_
                                    refine zm_if_lt (tgt := 396) C dL_changes_389 (by decide) (fun hc_116 => ?_) (fun hc_116 => ?_)
                                    · have h := h.1 hc_116
                                      refine zm_iconst (v := 0) C dL_changes_396 (by decide) ?_
                                      refine zm_widen (k1 := 73) (n1 := 438) (by omega) (by omega) ?_
                                      exact zm_zret (ty := .boolean) C hr (by decide) dL_changes_397 ⟨_, rfl, h⟩
                                    · have h := h.2 hc_116
                                      refine zm_iconst (v := 1) C dL_changes_392 (by decide) ?_
                                      refine zm_goto (tgt := 397) C dL_changes_393 (by decide) ?_
                                      refine zm_widen (k1 := 73) (n1 := 438) (by omega) (by omega) ?_
                                      exact zm_zret (ty := .boolean) C hr (by decide) dL_changes_397 ⟨_, rfl, h⟩
                                · have h := h.2 hc_86
                                  by_cases hc_118 : r_9 = (16 : Int32)
                                  · have h := h.1 hc_118
                                    refine zm_tableIn (tgt := 295) C dL_changes_35 (by rw [hc_118]; decide) (by rw [hc_118]; decide) (by rw [hc_118]; rfl) (by decide) ?_
                                    refine zm_aload_n C dL_changes_295 rfl 2 rfl ?_
                                    refine zm_iload_n C dL_changes_296 rfl 3 rfl ?_
                                    refine zm_bipush (v := 6) C dL_changes_297 (by decide) ?_
                                    refine zm_ishr C dL_changes_299 ?_
                                    refine zm_iconst (v := 1) C dL_changes_300 (by decide) ?_
                                    refine zm_iand C dL_changes_301 ?_
                                    refine zm_if_ne (tgt := 356) C dL_changes_302 (by decide) (fun hc_119 => ?_) (fun hc_119 => ?_)
                                    · have h := h.1 hc_119
                                      refine zb_new C wd_1118 wd_1119 wd_33 wd_1120 wd_1121 wd_1122 (by decide) (by decide) (show (0 + 2) + 1 + 1 ≤ 73 by omega) (show (0 + 12) + 4 + 16 ≤ 438 by omega) (Nat.le_of_ble_eq_true rfl) dL_changes_356 dL_changes_359 dL_changes_360 (fun sb119 pb119 C119 => ?_)
                                      refine zm_widen (k1 := (0 + 6)) (n1 := (0 + 36)) (by omega) (by omega) ?_
                                      obtain ⟨hg_122, h⟩ := h
                                      refine zb_lit (g := g) (st := [.ref (g.2.2.1 0)]) C C119 (q := 2) (by decide) rfl rfl hg_122 wd_1150 wd_1151 wd_1152 wd_33 wd_1153 (by decide) (by decide) ⟨(show (0 + 6) + 0 ≤ 73 by omega), (show (0 + 36) + 0 ≤ 438 by omega)⟩ (Nat.le_of_ble_eq_true rfl) dL_changes_363 dL_changes_365 (fun C120 => ?_)
                                      refine zm_iload_n C120 dL_changes_368 rfl 3 rfl ?_
                                      refine zm_iconst (v := 4) C120 dL_changes_369 (by decide) ?_
                                      refine zm_ishr C120 dL_changes_370 ?_
                                      refine zm_iconst (v := 3) C120 dL_changes_371 (by decide) ?_
                                      refine zm_ci (zr_S (As := [.int (x1 >>> ((4 : Int32) &&& 31)), .int (3 : Int32)]) (rest := [.ref sb119, .ref (g.2.2.1 0)]) C120 (c_L_some l _ (u_6, W) (x1 >>> ((4 : Int32) &&& 31)) (3 : Int32) h) wd_894 wd_895 wd_0 wd_896 hy_L_some rfl rfl ⟨by decide, by decide⟩ ⟨(show (0 + 6) + 0 ≤ 73 by omega), (show (0 + 36) + 0 ≤ 438 by omega)⟩ rfl rfl (Nat.le_of_ble_eq_true rfl) dL_changes_372) (fun r_123 M1 hq => ?_)
                                      obtain ⟨rfl, h⟩ := hq
                                      obtain ⟨v124, hy124, hv124, hn124, h⟩ := h
                                      refine zb_int (g := g) (st := [.ref (g.2.2.1 0)]) C C120 hy124 hv124 hn124 wd_1264 wd_1265 wd_1266 wd_33 wd_1267 (by decide) (by decide) ⟨(show (0 + 6) + 0 ≤ 73 by omega), (show (0 + 36) + 0 ≤ 438 by omega)⟩ (Nat.le_of_ble_eq_true rfl) dL_changes_375 (fun f124 e1 e2 e3 C124 => ?_)
                                      have h := h f124 e1 e2 e3
                                      obtain ⟨hg_127, h⟩ := h
                                      refine zb_lit (g := g) (st := [.ref (g.2.2.1 0)]) C C124 (q := 3) (by decide) rfl rfl hg_127 wd_1150 wd_1151 wd_1152 wd_33 wd_1153 (by decide) (by decide) ⟨(show (0 + 6) + 0 ≤ 73 by omega), (show (0 + 36) + 0 ≤ 438 by omega)⟩ (Nat.le_of_ble_eq_true rfl) dL_changes_378 dL_changes_380 (fun C125 => ?_)
                                      obtain ⟨hg_133, h⟩ := h
                                      refine zb_str (g := g) (st := [.ref (g.2.2.1 0)]) C C125 hg_133.1 hg_133.2 wd_1290 wd_1291 wd_1292 wd_33 wd_1293 (by decide) (by decide) ⟨(show (0 + 6) + 2 ≤ 73 by omega), (show (0 + 36) + 20 ≤ 438 by omega)⟩ (Nat.le_of_ble_eq_true rfl) dL_changes_383 (fun a127 pc127 C127 => ?_)
                                      refine zm_widen (k1 := (0 + 10)) (n1 := (0 + 60)) (by omega) (by omega) ?_
                                      obtain ⟨bs130, hb130, hl130, h⟩ := h
                                      refine zm_ci (zr_D (As := [.ref (g.2.2.1 0), .ref a127]) (rest := []) C127 (c_L_does l hstk _ u_6 W (a := a127) h) (fun H locs hp hs => zb_G hb130.1 hb130.2 (by omega)) wd_1355 wd_1356 wd_0 wd_1357 hy_L_does rfl rfl ⟨by decide, by decide⟩ ⟨(show (0 + 10) + 63 ≤ 73 by omega), (show (0 + 60) + 378 ≤ 438 by omega)⟩ rfl rfl (Nat.le_of_ble_eq_true rfl) dL_changes_386) (fun r_129 M1 hq => ?_)
                                      obtain ⟨u_130, rfl, h⟩ := hq
                                      refine zb_end (v := [(sb119, zSB pb119 (((0 + (zLitB.getD 2 []).length) + zDg v124) + (zLitB.getD 3 []).length)), (pb119, zBY g 16 (va_cpy (fun z => (zLitB.getD 3 []).getD z 0) f124 0 ((0 + (zLitB.getD 2 []).length) + zDg v124) (zLitB.getD 3 []).length)), (a127, zSTR pc127), (pc127, zBY g (((0 + (zLitB.getD 2 []).length) + zDg v124) + (zLitB.getD 3 []).length) (va_cpy (va_cpy (fun z => (zLitB.getD 3 []).getD z 0) f124 0 ((0 + (zLitB.getD 2 []).length) + zDg v124) (zLitB.getD 3 []).length) (fun _ => 0) 0 0 (((0 + (zLitB.getD 2 []).length) + zDg v124) + (zLitB.getD 3 []).length)))]) C ?_
                                      refine zm_if_lt (tgt := 396) C dL_changes_389 (by decide) (fun hc_132 => ?_) (fun hc_132 => ?_)
                                      · have h := h.1 hc_132
                                        refine zm_iconst (v := 0) C dL_changes_396 (by decide) ?_
                                        refine zm_widen (k1 := 73) (n1 := 438) (by omega) (by omega) ?_
                                        exact zm_zret (ty := .boolean) C hr (by decide) dL_changes_397 ⟨_, rfl, h⟩
                                      · have h := h.2 hc_132
                                        refine zm_iconst (v := 1) C dL_changes_392 (by decide) ?_
                                        refine zm_goto (tgt := 397) C dL_changes_393 (by decide) ?_
                                        refine zm_widen (k1 := 73) (n1 := 438) (by omega) (by omega) ?_
                                        exact zm_zret (ty := .boolean) C hr (by decide) dL_changes_397 ⟨_, rfl, h⟩
                                    · have h := h.2 hc_119
                                      refine zb_new C wd_1118 wd_1119 wd_33 wd_1120 wd_1121 wd_1122 (by decide) (by decide) (show (0 + 2) + 1 + 1 ≤ 73 by omega) (show (0 + 12) + 4 + 16 ≤ 438 by omega) (Nat.le_of_ble_eq_true rfl) dL_changes_305 dL_changes_308 dL_changes_309 (fun sb133 pb133 C133 => ?_)
                                      refine zm_widen (k1 := (0 + 6)) (n1 := (0 + 36)) (by omega) (by omega) ?_
                                      obtain ⟨hg_136, h⟩ := h
                                      refine zb_lit (g := g) (st := [.ref (g.2.2.1 0)]) C C133 (q := 0) (by decide) rfl rfl hg_136 wd_1150 wd_1151 wd_1152 wd_33 wd_1153 (by decide) (by decide) ⟨(show (0 + 6) + 0 ≤ 73 by omega), (show (0 + 36) + 0 ≤ 438 by omega)⟩ (Nat.le_of_ble_eq_true rfl) dL_changes_312 dL_changes_314 (fun C134 => ?_)
                                      refine zm_sipush (v := 162) C134 dL_changes_317 (by decide) ?_
                                      refine zm_iload_n C134 dL_changes_320 rfl 3 rfl ?_
                                      refine zm_iconst (v := 4) C134 dL_changes_321 (by decide) ?_
                                      refine zm_ishr C134 dL_changes_322 ?_
                                      refine zm_bipush (v := 8) C134 dL_changes_323 (by decide) ?_
                                      refine zm_ci (zr_S (As := [.int (x1 >>> ((4 : Int32) &&& 31)), .int (8 : Int32)]) (rest := [.int (162 : Int32), .ref sb133, .ref (g.2.2.1 0)]) C134 (c_L_some l _ (u_6, W) (x1 >>> ((4 : Int32) &&& 31)) (8 : Int32) h) wd_894 wd_895 wd_0 wd_896 hy_L_some rfl rfl ⟨by decide, by decide⟩ ⟨(show (0 + 6) + 0 ≤ 73 by omega), (show (0 + 36) + 0 ≤ 438 by omega)⟩ rfl rfl (Nat.le_of_ble_eq_true rfl) dL_changes_325) (fun r_137 M1 hq => ?_)
                                      obtain ⟨rfl, h⟩ := hq
                                      refine zm_imul C134 dL_changes_328 ?_
                                      refine zm_bipush (v := 18) C134 dL_changes_329 (by decide) ?_
                                      refine zm_iload_n C134 dL_changes_331 rfl 3 rfl ?_
                                      refine zm_bipush (v := 7) C134 dL_changes_332 (by decide) ?_
                                      refine zm_ishr C134 dL_changes_334 ?_
                                      refine zm_bipush (v := 8) C134 dL_changes_335 (by decide) ?_
                                      refine zm_ci (zr_S (As := [.int (x1 >>> ((7 : Int32) &&& 31)), .int (8 : Int32)]) (rest := [.int (18 : Int32), .int ((162 : Int32) * r_137), .ref sb133, .ref (g.2.2.1 0)]) C134 (c_L_some l _ (u_6, W) (x1 >>> ((7 : Int32) &&& 31)) (8 : Int32) h) wd_894 wd_895 wd_0 wd_896 hy_L_some rfl rfl ⟨by decide, by decide⟩ ⟨(show (0 + 6) + 0 ≤ 73 by omega), (show (0 + 36) + 0 ≤ 438 by omega)⟩ rfl rfl (Nat.le_of_ble_eq_true rfl) dL_changes_337) (fun r_139 M1 hq => ?_)
                                      obtain ⟨rfl, h⟩ := hq
                                      refine zm_imul C134 dL_changes_340 ?_
                                      refine zm_iadd C134 dL_changes_341 ?_
                                      obtain ⟨v140, hy140, hv140, hn140, h⟩ := h
                                      refine zb_int (g := g) (st := [.ref (g.2.2.1 0)]) C C134 hy140 hv140 hn140 wd_1264 wd_1265 wd_1266 wd_33 wd_1267 (by decide) (by decide) ⟨(show (0 + 6) + 0 ≤ 73 by omega), (show (0 + 36) + 0 ≤ 438 by omega)⟩ (Nat.le_of_ble_eq_true rfl) dL_changes_342 (fun f140 e1 e2 e3 C140 => ?_)
                                      have h := h f140 e1 e2 e3
                                      obtain ⟨hg_143, h⟩ := h
                                      refine zb_lit (g := g) (st := [.ref (g.2.2.1 0)]) C C140 (q := 1) (by decide) rfl rfl hg_143 wd_1150 wd_1151 wd_1152 wd_33 wd_1153 (by decide) (by decide) ⟨(show (0 + 6) + 0 ≤ 73 by omega), (show (0 + 36) + 0 ≤ 438 by omega)⟩ (Nat.le_of_ble_eq_true rfl) dL_changes_345 dL_changes_347 (fun C141 => ?_)
                                      obtain ⟨hg_149, h⟩ := h
                                      refine zb_str (g := g) (st := [.ref (g.2.2.1 0)]) C C141 hg_149.1 hg_149.2 wd_1290 wd_1291 wd_1292 wd_33 wd_1293 (by decide) (by decide) ⟨(show (0 + 6) + 2 ≤ 73 by omega), (show (0 + 36) + 20 ≤ 438 by omega)⟩ (Nat.le_of_ble_eq_true rfl) dL_changes_350 (fun a143 pc143 C143 => ?_)
                                      refine zm_widen (k1 := (0 + 10)) (n1 := (0 + 60)) (by omega) (by omega) ?_
                                      refine zm_goto (tgt := 386) C143 dL_changes_353 (by decide) ?_
                                      obtain ⟨bs146, hb146, hl146, h⟩ := h
                                      refine zm_ci (zr_D (As := [.ref (g.2.2.1 0), .ref a143]) (rest := []) C143 (c_L_does l hstk _ u_6 W (a := a143) h) (fun H locs hp hs => zb_G hb146.1 hb146.2 (by omega)) wd_1355 wd_1356 wd_0 wd_1357 hy_L_does rfl rfl ⟨by decide, by decide⟩ ⟨(show (0 + 10) + 63 ≤ 73 by omega), (show (0 + 60) + 378 ≤ 438 by omega)⟩ rfl rfl (Nat.le_of_ble_eq_true rfl) dL_changes_386) (fun r_145 M1 hq => ?_)
                                      obtain ⟨u_146, rfl, h⟩ := hq
                                      refine zb_end (v := [(sb133, zSB pb133 (((0 + (zLitB.getD 0 []).length) + zDg v140) + (zLitB.getD 1 []).length)), (pb133, zBY g 16 (va_cpy (fun z => (zLitB.getD 1 []).getD z 0) f140 0 ((0 + (zLitB.getD 0 []).length) + zDg v140) (zLitB.getD 1 []).length)), (a143, zSTR pc143), (pc143, zBY g (((0 + (zLitB.getD 0 []).length) + zDg v140) + (zLitB.getD 1 []).length) (va_cpy (va_cpy (fun z => (zLitB.getD 1 []).getD z 0) f140 0 ((0 + (zLitB.getD 0 []).length) + zDg v140) (zLitB.getD 1 []).length) (fun _ => 0) 0 0 (((0 + (zLitB.getD 0 []).length) + zDg v140) + (zLitB.getD 1 []).length)))]) C ?_
                                      refine zm_if_lt (tgt := 396) C dL_changes_389 (by decide) (fun hc_148 => ?_) (fun hc_148 => ?_)
                                      · have h := h.1 hc_148
                                        refine zm_iconst (v := 0) C dL_changes_396 (by decide) ?_
                                        refine zm_widen (k1 := 73) (n1 := 438) (by omega) (by omega) ?_
                                        exact zm_zret (ty := .boolean) C hr (by decide) dL_changes_397 ⟨_, rfl, h⟩
                                      · have h := h.2 hc_148
                                        refine zm_iconst (v := 1) C dL_changes_392 (by decide) ?_
                                        refine zm_goto (tgt := 397) C dL_changes_393 (by decide) ?_
                                        refine zm_widen (k1 := 73) (n1 := 438) (by omega) (by omega) ?_
                                        exact zm_zret (ty := .boolean) C hr (by decide) dL_changes_397 ⟨_, rfl, h⟩
                                  · have h := h.2 hc_118
                                    have n0 := lv_neT (a := 0) hc_12 rfl
                                    have n1 := lv_neT (a := 1) hc_16 rfl
                                    have n2 := lv_neT (a := 2) hc_20 rfl
                                    have n3 := lv_neT (a := 3) hc_24 rfl
                                    have n4 := lv_neT (a := 4) hc_28 rfl
                                    have n5 := lv_neT (a := 5) hc_32 rfl
                                    have n6 := lv_neT (a := 6) hc_34 rfl
                                    have n7 := lv_neT (a := 7) hc_40 rfl
                                    have n8 := lv_neT (a := 8) hc_46 rfl
                                    have n9 := lv_neT (a := 9) hc_52 rfl
                                    have n10 := lv_neT (a := 10) hc_58 rfl
                                    have n11 := lv_neT (a := 11) hc_64 rfl
                                    have n12 := lv_neT (a := 12) hc_70 rfl
                                    have n13 := lv_neT (a := 13) hc_76 rfl
                                    have n14 := lv_neT (a := 14) hc_82 rfl
                                    have n15 := lv_neT (a := 15) hc_86 rfl
                                    have n16 := lv_neT (a := 16) hc_118 rfl
                                    refine zm_tableOut (tgt := 398) C dL_changes_35 (by omega) (by decide) ?_
                                    refine zm_aload_n C dL_changes_398 rfl 2 rfl ?_
                                    refine zm_iload_n C dL_changes_399 rfl 1 rfl ?_
                                    refine zm_iload_n C dL_changes_400 rfl 0 rfl ?_
                                    refine zm_ci (zr_SW (As := [.ref (g.2.2.1 0), .int r_3, .int r_7]) (rest := []) C (c_L_move l hstk _ u_6 W r_3 r_7 h) wd_1383 wd_1384 wd_0 wd_1385 hz_L_move rfl rfl ⟨by decide, by decide⟩ ⟨(show (0 + 2) + 1 ≤ 73 by omega), (show (0 + 12) + 6 ≤ 438 by omega)⟩ rfl rfl (Nat.le_of_ble_eq_true rfl) dL_changes_401) (fun r_150 M1 hq => ?_)
                                    obtain ⟨u_151, rfl, h⟩ := hq
                                    refine zm_if_lt (tgt := 411) C dL_changes_404 (by decide) (fun hc_152 => ?_) (fun hc_152 => ?_)
                                    · have h := h.1 hc_152
                                      refine zm_iconst (v := 0) C dL_changes_411 (by decide) ?_
                                      refine zm_widen (k1 := 73) (n1 := 438) (by omega) (by omega) ?_
                                      exact zm_zret (ty := .boolean) C hr (by decide) dL_changes_412 ⟨_, rfl, h⟩
                                    · have h := h.2 hc_152
                                      refine zm_iconst (v := 1) C dL_changes_407 (by decide) ?_
                                      refine zm_goto (tgt := 412) C dL_changes_408 (by decide) ?_
                                      refine zm_widen (k1 := 73) (n1 := 438) (by omega) (by omega) ?_
                                      exact zm_zret (ty := .boolean) C hr (by decide) dL_changes_412 ⟨_, rfl, h⟩
