theorem wd_863 : (Jvm.Cond.methodLink "FoxBurrowsLaw" (266 : Nat) ({ cls := "FoxBurrowsLaw", name := "is", desc := "(LFoxBurrows;III)Z" } : Jvm.MethodName)) ∈ TB := zTB 863 (by decide +kernel) (by decide +kernel)
theorem wd_864 : (Jvm.Cond.static ({ cls := "FoxBurrowsLaw", name := "is", desc := "(LFoxBurrows;III)Z" } : Jvm.MethodName)) ∈ TB := zTB 864 (by decide +kernel) (by decide +kernel)
theorem wd_865 : (Jvm.Cond.code ({ cls := "FoxBurrowsLaw", name := "is", desc := "(LFoxBurrows;III)Z" } : Jvm.MethodName) method_38_code (4 : Nat) (Option.some Jvm.ClassFile.FieldType.boolean)) ∈ TB := zTB 865 (by decide +kernel) (by decide +kernel)
theorem wd_904 : (Jvm.Cond.methodLink "FoxBurrowsLaw" (262 : Nat) ({ cls := "FoxBurrowsLaw", name := "asks", desc := "(LFoxBurrows;)J" } : Jvm.MethodName)) ∈ TB := zTB 904 (by decide +kernel) (by decide +kernel)
theorem wd_905 : (Jvm.Cond.static ({ cls := "FoxBurrowsLaw", name := "asks", desc := "(LFoxBurrows;)J" } : Jvm.MethodName)) ∈ TB := zTB 905 (by decide +kernel) (by decide +kernel)
theorem wd_906 : (Jvm.Cond.code ({ cls := "FoxBurrowsLaw", name := "asks", desc := "(LFoxBurrows;)J" } : Jvm.MethodName) method_41_code (6 : Nat) (Option.some Jvm.ClassFile.FieldType.long)) ∈ TB := zTB 906 (by decide +kernel) (by decide +kernel)
theorem wd_1393 : (Jvm.Cond.methodLink "FoxBurrowsLaw" (270 : Nat) ({ cls := "FoxBurrowsLaw", name := "position", desc := "(LFoxBurrows;IIIZ)I" } : Jvm.MethodName)) ∈ TB := zTB 1393 (by decide +kernel) (by decide +kernel)
theorem wd_1394 : (Jvm.Cond.static ({ cls := "FoxBurrowsLaw", name := "position", desc := "(LFoxBurrows;IIIZ)I" } : Jvm.MethodName)) ∈ TB := zTB 1394 (by decide +kernel) (by decide +kernel)
theorem wd_1395 : (Jvm.Cond.codeWith ({ cls := "FoxBurrowsLaw", name := "position", desc := "(LFoxBurrows;IIIZ)I" } : Jvm.MethodName) method_13_code (6 : Nat) (Option.some Jvm.ClassFile.FieldType.int) [((0 : Nat), (9 : Nat), (10 : Nat), (46 : Nat))]) ∈ TB := zTB 1395 (by decide +kernel) (by decide +kernel)
theorem wd_1401 : (Jvm.Cond.methodLink "FoxBurrowsLaw" (273 : Nat) ({ cls := "FoxBurrowsLaw", name := "after", desc := "(LFoxBurrows;III)I" } : Jvm.MethodName)) ∈ TB := zTB 1401 (by decide +kernel) (by decide +kernel)
theorem wd_1402 : (Jvm.Cond.static ({ cls := "FoxBurrowsLaw", name := "after", desc := "(LFoxBurrows;III)I" } : Jvm.MethodName)) ∈ TB := zTB 1402 (by decide +kernel) (by decide +kernel)
theorem wd_1403 : (Jvm.Cond.codeWith ({ cls := "FoxBurrowsLaw", name := "after", desc := "(LFoxBurrows;III)I" } : Jvm.MethodName) method_18_code (5 : Nat) (Option.some Jvm.ClassFile.FieldType.int) [((0 : Nat), (7 : Nat), (8 : Nat), (46 : Nat))]) ∈ TB := zTB 1403 (by decide +kernel) (by decide +kernel)
theorem wd_1410 : (Jvm.Cond.methodLink "FoxBurrowsLaw" (278 : Nat) ({ cls := "FoxBurrowsLaw", name := "e", desc := "(LFoxBurrows;I)Z" } : Jvm.MethodName)) ∈ TB := zTB 1410 (by decide +kernel) (by decide +kernel)
theorem wd_1411 : (Jvm.Cond.static ({ cls := "FoxBurrowsLaw", name := "e", desc := "(LFoxBurrows;I)Z" } : Jvm.MethodName)) ∈ TB := zTB 1411 (by decide +kernel) (by decide +kernel)
theorem wd_1412 : (Jvm.Cond.code ({ cls := "FoxBurrowsLaw", name := "e", desc := "(LFoxBurrows;I)Z" } : Jvm.MethodName) method_44_code (2 : Nat) (Option.some Jvm.ClassFile.FieldType.boolean)) ∈ TB := zTB 1412 (by decide +kernel) (by decide +kernel)
theorem hz_L_after : (yL_after.cls ≠ "java/lang/invoke/MethodHandle" ∧ yL_after.cls ≠ "java/lang/invoke/VarHandle" ∧ (parseMethodDescriptor yL_after.desc).map (fun d => d.parameters.length) = some 4) := ⟨by decide +kernel, by decide +kernel, by decide +kernel⟩
theorem hy_L_after : yL_after.cls = RL ∧ (yL_after.cls ≠ "java/lang/invoke/MethodHandle" ∧ yL_after.cls ≠ "java/lang/invoke/VarHandle" ∧ (parseMethodDescriptor yL_after.desc).map (fun d => d.parameters.length) = some 4) := ⟨rfl, hz_L_after⟩
theorem hz_L_asks : (yL_asks.cls ≠ "java/lang/invoke/MethodHandle" ∧ yL_asks.cls ≠ "java/lang/invoke/VarHandle" ∧ (parseMethodDescriptor yL_asks.desc).map (fun d => d.parameters.length) = some 1) := ⟨by decide +kernel, by decide +kernel, by decide +kernel⟩
theorem hy_L_asks : yL_asks.cls = RL ∧ (yL_asks.cls ≠ "java/lang/invoke/MethodHandle" ∧ yL_asks.cls ≠ "java/lang/invoke/VarHandle" ∧ (parseMethodDescriptor yL_asks.desc).map (fun d => d.parameters.length) = some 1) := ⟨rfl, hz_L_asks⟩
theorem hz_L_e : (yL_e.cls ≠ "java/lang/invoke/MethodHandle" ∧ yL_e.cls ≠ "java/lang/invoke/VarHandle" ∧ (parseMethodDescriptor yL_e.desc).map (fun d => d.parameters.length) = some 2) := ⟨by decide +kernel, by decide +kernel, by decide +kernel⟩
theorem hy_L_e : yL_e.cls = RL ∧ (yL_e.cls ≠ "java/lang/invoke/MethodHandle" ∧ yL_e.cls ≠ "java/lang/invoke/VarHandle" ∧ (parseMethodDescriptor yL_e.desc).map (fun d => d.parameters.length) = some 2) := ⟨rfl, hz_L_e⟩
theorem hz_L_is : (yL_is.cls ≠ "java/lang/invoke/MethodHandle" ∧ yL_is.cls ≠ "java/lang/invoke/VarHandle" ∧ (parseMethodDescriptor yL_is.desc).map (fun d => d.parameters.length) = some 4) := ⟨by decide +kernel, by decide +kernel, by decide +kernel⟩
theorem hy_L_is : yL_is.cls = RL ∧ (yL_is.cls ≠ "java/lang/invoke/MethodHandle" ∧ yL_is.cls ≠ "java/lang/invoke/VarHandle" ∧ (parseMethodDescriptor yL_is.desc).map (fun d => d.parameters.length) = some 4) := ⟨rfl, hz_L_is⟩
theorem hz_L_position : (yL_position.cls ≠ "java/lang/invoke/MethodHandle" ∧ yL_position.cls ≠ "java/lang/invoke/VarHandle" ∧ (parseMethodDescriptor yL_position.desc).map (fun d => d.parameters.length) = some 5) := ⟨by decide +kernel, by decide +kernel, by decide +kernel⟩
theorem hy_L_position : yL_position.cls = RL ∧ (yL_position.cls ≠ "java/lang/invoke/MethodHandle" ∧ yL_position.cls ≠ "java/lang/invoke/VarHandle" ∧ (parseMethodDescriptor yL_position.desc).map (fun d => d.parameters.length) = some 5) := ⟨rfl, hz_L_position⟩
abbrev rm_L_refused : Room := { frames := 10, cells := 1702, slots := 10212, locals := 371 }
def wb_R_refused_930 (Q : Int32 → MU → Prop) (x1 : Int64) (x4 : Int32) (s0 : Int32) (u : MU) : Prop := ((s0 = 0) → Q (0 : Int32) u) ∧ ((¬ s0 = 0) → w_R_does (zLitB.getD 4 []) u (fun r_2 u_3 => ((¬ r_2 = (-1001 : Int32)) → Q (0 : Int32) u_3) ∧ ((r_2 = (-1001 : Int32)) → w_R_e (0 : Int32) u_3 (fun r_5 u_6 => ((r_5 = 0) → Q (0 : Int32) u_6) ∧ ((¬ r_5 = 0) → 0 + (zLitB.getD 2 []).length ≤ 16 ∧ (∃ v10, ((3 : Int32) - x4) = nI v10 ∧ v10 < 10000 ∧ (0 + (zLitB.getD 2 []).length) + zDg v10 ≤ 16 ∧ (∀ f10 : Nat → Int32, (∀ z, z < (0 + (zLitB.getD 2 []).length) → f10 z = (va_cpy (fun z => (zLitB.getD 2 []).getD z 0) (fun _ => 0) 0 0 (zLitB.getD 2 []).length) z) → (v10 < 10 → f10 (0 + (zLitB.getD 2 []).length) = nI (48 + v10)) → (sb_Fit (va_cpy (fun z => (zLitB.getD 2 []).getD z 0) (fun _ => 0) 0 0 (zLitB.getD 2 []).length) → sb_Fit f10) → ((0 + (zLitB.getD 2 []).length) + zDg v10) + (zLitB.getD 5 []).length ≤ 16 ∧ (∃ v13, ((3 : Int32) - x4) = nI v13 ∧ v13 < 10000 ∧ (((0 + (zLitB.getD 2 []).length) + zDg v10) + (zLitB.getD 5 []).length) + zDg v13 ≤ 16 ∧ (∀ f13 : Nat → Int32, (∀ z, z < (((0 + (zLitB.getD 2 []).length) + zDg v10) + (zLitB.getD 5 []).length) → f13 z = (va_cpy (fun z => (zLitB.getD 5 []).getD z 0) f10 0 ((0 + (zLitB.getD 2 []).length) + zDg v10) (zLitB.getD 5 []).length) z) → (v13 < 10 → f13 (((0 + (zLitB.getD 2 []).length) + zDg v10) + (zLitB.getD 5 []).length) = nI (48 + v13)) → (sb_Fit (va_cpy (fun z => (zLitB.getD 5 []).getD z 0) f10 0 ((0 + (zLitB.getD 2 []).length) + zDg v10) (zLitB.getD 5 []).length) → sb_Fit f13) → (((((0 + (zLitB.getD 2 []).length) + zDg v10) + (zLitB.getD 5 []).length) + zDg v13) < 16 ∧ sb_Fit f13) ∧ (∃ bs17 : List Int32, (bs17.length = ((((0 + (zLitB.getD 2 []).length) + zDg v10) + (zLitB.getD 5 []).length) + zDg v13) ∧ (∀ k, k < bs17.length → f13 k = bs17.getD k 0)) ∧ bs17.length < 100 ∧ w_R_does bs17 u_6 (fun r_16 u_17 => ((¬ r_16 = (-1002 : Int32)) → Q (0 : Int32) u_17) ∧ ((r_16 = (-1002 : Int32)) → w_R_is (5 : Int32) (0 : Int32) (1 : Int32) u_17 (fun r_20 u_21 => ((r_20 = 0) → Q (0 : Int32) u_21) ∧ ((¬ r_20 = 0) → w_R_e (-1 : Int32) u_21 (fun r_23 u_24 => ((r_23 = 0) → Q (0 : Int32) u_24) ∧ ((¬ r_23 = 0) → w_R_does (zLitB.getD 6 []) u_24 (fun r_26 u_27 => ((¬ r_26 = (-1002 : Int32)) → Q (0 : Int32) u_27) ∧ ((r_26 = (-1002 : Int32)) → w_R_is (7 : Int32) (9999 : Int32) (2 : Int32) u_27 (fun r_29 u_30 => ((r_29 = 0) → Q (0 : Int32) u_30) ∧ ((¬ r_29 = 0) → w_R_asks  u_30 (fun r_32 u_33 => ((¬ (lg_cmp r_32 x1) = 0) → Q (0 : Int32) u_33) ∧ (((lg_cmp r_32 x1) = 0) → Q (1 : Int32) u_33))))))))))))))))))))))
set_option maxHeartbeats 4000000 in
set_option maxRecDepth 100000 in
theorem vb_R_refused_930 {p : Program} {l : Launch} {e : Env} {s : State} {m : MethodId} {args : Array Value} {below : List Frame} {meth : Method} {c : Code} {g : GE} {W : MU × ((Nat → Int64) × (Nat → UInt64))} {Q : Int32 → MU → Prop} (C : zCx p l s m args meth c g RL cL_refused 6) (hr : meth.sig.returnType = (Option.some Jvm.ClassFile.FieldType.boolean)) (hstk : l.stackTraces = false) (x1 : Int64) (x4 : Int32) (s0 : Int32) (u : MU) (cz sz : Nat) (hz : cz + 890 + 0 ≤ 1702) (hs : sz + 6 * (890 + 0) ≤ 10212) (h : wb_R_refused_930 Q x1 x4 s0 u) : WM p l e rm_L_refused s m args below meth c g 6 cz sz (MQ below (zQi g (zPx W Q)) args s 1702 10212 (zA g)) 930 [(0, .ref (g.2.2.1 0)), (1, .long x1), (4, .int x4)] [.int s0] (u, W) := by
  unfold wb_R_refused_930 at h
  refine zm_istore (lv' := [(5, .int s0), (0, .ref (g.2.2.1 0)), (1, .long x1), (4, .int x4)]) C dL_refused_930 (by decide) rfl ?_
  refine zm_iload C dL_refused_932 0 rfl ?_
  refine zm_if_eq (tgt := 1060) C dL_refused_934 (by decide) (fun hc_1 => ?_) (fun hc_1 => ?_)
  · have h := h.1 hc_1
    refine zm_iconst (v := 0) C dL_refused_1060 (by decide) ?_
    refine zm_widen (k1 := 1702) (n1 := 10212) (by omega) (by omega) ?_
    exact zm_zret (ty := .boolean) C hr (by decide) dL_refused_1061 ⟨_, rfl, h⟩
  · have h := h.2 hc_1
    refine zm_aload_n C dL_refused_937 rfl 1 rfl ?_
    refine zm_ldcSW C 4 (by decide) rfl rfl dL_refused_938 ?_
    refine zm_ci (zr_D (As := [.ref (g.2.2.1 0), .ref (g.2.2.2.2.2.2.1 4)]) (rest := []) C (c_L_does l hstk _ u W h) (fun H locs hp hs => zLitG C (q := 4) (by decide) hs) wd_1355 wd_1356 wd_0 wd_1357 hy_L_does rfl rfl ⟨by decide, by decide⟩ ⟨(show cz + 63 ≤ 1702 by omega), (show sz + 378 ≤ 10212 by omega)⟩ rfl rfl (Nat.le_of_ble_eq_true rfl) dL_refused_941) (fun r_2 M1 hq => ?_)
    obtain ⟨u_3, rfl, h⟩ := hq
    refine zm_sipush (v := -1001) C dL_refused_944 (by decide) ?_
    refine zm_icmp_ne (tgt := 1060) C dL_refused_947 (by decide) (fun hc_4 => ?_) (fun hc_4 => ?_)
    · have h := h.1 hc_4
      refine zm_iconst (v := 0) C dL_refused_1060 (by decide) ?_
      refine zm_widen (k1 := 1702) (n1 := 10212) (by omega) (by omega) ?_
      exact zm_zret (ty := .boolean) C hr (by decide) dL_refused_1061 ⟨_, rfl, h⟩
    · have h := h.2 hc_4
      refine zm_aload_n C dL_refused_950 rfl 1 rfl ?_
      refine zm_iconst (v := 0) C dL_refused_951 (by decide) ?_
      refine zm_ci (zr_S (As := [.ref (g.2.2.1 0), .int (0 : Int32)]) (rest := []) C (c_L_e l hstk _ u_3 W (0 : Int32) h) wd_1410 wd_1411 wd_0 wd_1412 hy_L_e rfl rfl ⟨by decide, by decide⟩ ⟨(show (cz + 63) + 0 ≤ 1702 by omega), (show (sz + 378) + 0 ≤ 10212 by omega)⟩ rfl rfl (Nat.le_of_ble_eq_true rfl) dL_refused_952) (fun r_5 M1 hq => ?_)
      obtain ⟨u_6, rfl, h⟩ := hq
      refine zm_if_eq (tgt := 1060) C dL_refused_955 (by decide) (fun hc_7 => ?_) (fun hc_7 => ?_)
      · have h := h.1 hc_7
        refine zm_iconst (v := 0) C dL_refused_1060 (by decide) ?_
        refine zm_widen (k1 := 1702) (n1 := 10212) (by omega) (by omega) ?_
        exact zm_zret (ty := .boolean) C hr (by decide) dL_refused_1061 ⟨_, rfl, h⟩
      · have h := h.2 hc_7
        refine zm_aload_n C dL_refused_958 rfl 1 rfl ?_
        refine zb_new C wd_1118 wd_1119 wd_33 wd_1120 wd_1121 wd_1122 (by decide) (by decide) (show (cz + 63) + 1 + 1 ≤ 1702 by omega) (show (sz + 378) + 4 + 16 ≤ 10212 by omega) (Nat.le_of_ble_eq_true rfl) dL_refused_959 dL_refused_962 dL_refused_963 (fun sb7 pb7 C7 => ?_)
        refine zm_widen (k1 := (cz + 67)) (n1 := (sz + 402)) (by omega) (by omega) ?_
        obtain ⟨hg_10, h⟩ := h
        refine zb_lit (g := g) (st := [.ref (g.2.2.1 0)]) C C7 (q := 2) (by decide) rfl rfl hg_10 wd_1150 wd_1151 wd_1152 wd_33 wd_1153 (by decide) (by decide) ⟨(show (cz + 67) + 0 ≤ 1702 by omega), (show (sz + 402) + 0 ≤ 10212 by omega)⟩ (Nat.le_of_ble_eq_true rfl) dL_refused_966 dL_refused_968 (fun C8 => ?_)
        refine zm_iconst (v := 3) C8 dL_refused_971 (by decide) ?_
        refine zm_iload C8 dL_refused_972 3 rfl ?_
        refine zm_isub C8 dL_refused_974 ?_
        obtain ⟨v10, hy10, hv10, hn10, h⟩ := h
        refine zb_int (g := g) (st := [.ref (g.2.2.1 0)]) C C8 hy10 hv10 hn10 wd_1264 wd_1265 wd_1266 wd_33 wd_1267 (by decide) (by decide) ⟨(show (cz + 67) + 0 ≤ 1702 by omega), (show (sz + 402) + 0 ≤ 10212 by omega)⟩ (Nat.le_of_ble_eq_true rfl) dL_refused_975 (fun f10 e1 e2 e3 C10 => ?_)
        have h := h f10 e1 e2 e3
        obtain ⟨hg_13, h⟩ := h
        refine zb_litW (g := g) (st := [.ref (g.2.2.1 0)]) C C10 (q := 5) (by decide) rfl rfl hg_13 wd_1150 wd_1151 wd_1152 wd_33 wd_1153 (by decide) (by decide) ⟨(show (cz + 67) + 0 ≤ 1702 by omega), (show (sz + 402) + 0 ≤ 10212 by omega)⟩ (Nat.le_of_ble_eq_true rfl) dL_refused_978 dL_refused_981 (fun C11 => ?_)
        refine zm_iconst (v := 3) C11 dL_refused_984 (by decide) ?_
        refine zm_iload C11 dL_refused_985 3 rfl ?_
        refine zm_isub C11 dL_refused_987 ?_
        obtain ⟨v13, hy13, hv13, hn13, h⟩ := h
        refine zb_int (g := g) (st := [.ref (g.2.2.1 0)]) C C11 hy13 hv13 hn13 wd_1264 wd_1265 wd_1266 wd_33 wd_1267 (by decide) (by decide) ⟨(show (cz + 67) + 0 ≤ 1702 by omega), (show (sz + 402) + 0 ≤ 10212 by omega)⟩ (Nat.le_of_ble_eq_true rfl) dL_refused_988 (fun f13 e1 e2 e3 C13 => ?_)
        have h := h f13 e1 e2 e3
        obtain ⟨hg_35, h⟩ := h
        refine zb_str (g := g) (st := [.ref (g.2.2.1 0)]) C C13 hg_35.1 hg_35.2 wd_1290 wd_1291 wd_1292 wd_33 wd_1293 (by decide) (by decide) ⟨(show (cz + 67) + 2 ≤ 1702 by omega), (show (sz + 402) + 20 ≤ 10212 by omega)⟩ (Nat.le_of_ble_eq_true rfl) dL_refused_991 (fun a14 pc14 C14 => ?_)
        refine zm_widen (k1 := (cz + 71)) (n1 := (sz + 426)) (by omega) (by omega) ?_
        obtain ⟨bs17, hb17, hl17, h⟩ := h
        refine zm_ci (zr_D (As := [.ref (g.2.2.1 0), .ref a14]) (rest := []) C14 (c_L_does l hstk _ u_6 W (a := a14) h) (fun H locs hp hs => zb_G hb17.1 hb17.2 (by omega)) wd_1355 wd_1356 wd_0 wd_1357 hy_L_does rfl rfl ⟨by decide, by decide⟩ ⟨(show (cz + 71) + 63 ≤ 1702 by omega), (show (sz + 426) + 378 ≤ 10212 by omega)⟩ rfl rfl (Nat.le_of_ble_eq_true rfl) dL_refused_994) (fun r_16 M1 hq => ?_)
        obtain ⟨u_17, rfl, h⟩ := hq
        refine zb_end (v := [(sb7, zSB pb7 ((((0 + (zLitB.getD 2 []).length) + zDg v10) + (zLitB.getD 5 []).length) + zDg v13)), (pb7, zBY g 16 f13), (a14, zSTR pc14), (pc14, zBY g ((((0 + (zLitB.getD 2 []).length) + zDg v10) + (zLitB.getD 5 []).length) + zDg v13) (va_cpy f13 (fun _ => 0) 0 0 ((((0 + (zLitB.getD 2 []).length) + zDg v10) + (zLitB.getD 5 []).length) + zDg v13)))]) C ?_
        refine zm_sipush (v := -1002) C dL_refused_997 (by decide) ?_
        refine zm_icmp_ne (tgt := 1060) C dL_refused_1000 (by decide) (fun hc_19 => ?_) (fun hc_19 => ?_)
        · have h := h.1 hc_19
          refine zm_iconst (v := 0) C dL_refused_1060 (by decide) ?_
          refine zm_widen (k1 := 1702) (n1 := 10212) (by omega) (by omega) ?_
          exact zm_zret (ty := .boolean) C hr (by decide) dL_refused_1061 ⟨_, rfl, h⟩
        · have h := h.2 hc_19
          refine zm_aload_n C dL_refused_1003 rfl 1 rfl ?_
          refine zm_iconst (v := 5) C dL_refused_1004 (by decide) ?_
          refine zm_iconst (v := 0) C dL_refused_1005 (by decide) ?_
          refine zm_iconst (v := 1) C dL_refused_1006 (by decide) ?_
          refine zm_ci (zr_S (As := [.ref (g.2.2.1 0), .int (5 : Int32), .int (0 : Int32), .int (1 : Int32)]) (rest := []) C (c_L_is l hstk _ u_17 W (5 : Int32) (0 : Int32) (1 : Int32) h) wd_863 wd_864 wd_0 wd_865 hy_L_is rfl rfl ⟨by decide, by decide⟩ ⟨(show (cz + 134) + 3 ≤ 1702 by omega), (show (sz + 804) + 18 ≤ 10212 by omega)⟩ rfl rfl (Nat.le_of_ble_eq_true rfl) dL_refused_1007) (fun r_20 M1 hq => ?_)
          obtain ⟨u_21, rfl, h⟩ := hq
          refine zm_if_eq (tgt := 1060) C dL_refused_1010 (by decide) (fun hc_22 => ?_) (fun hc_22 => ?_)
          · have h := h.1 hc_22
            refine zm_iconst (v := 0) C dL_refused_1060 (by decide) ?_
            refine zm_widen (k1 := 1702) (n1 := 10212) (by omega) (by omega) ?_
            exact zm_zret (ty := .boolean) C hr (by decide) dL_refused_1061 ⟨_, rfl, h⟩
          · have h := h.2 hc_22
            refine zm_aload_n C dL_refused_1013 rfl 1 rfl ?_
            refine zm_iconst (v := -1) C dL_refused_1014 (by decide) ?_
            refine zm_ci (zr_S (As := [.ref (g.2.2.1 0), .int (-1 : Int32)]) (rest := []) C (c_L_e l hstk _ u_21 W (-1 : Int32) h) wd_1410 wd_1411 wd_0 wd_1412 hy_L_e rfl rfl ⟨by decide, by decide⟩ ⟨(show (cz + 137) + 0 ≤ 1702 by omega), (show (sz + 822) + 0 ≤ 10212 by omega)⟩ rfl rfl (Nat.le_of_ble_eq_true rfl) dL_refused_1015) (fun r_23 M1 hq => ?_)
            obtain ⟨u_24, rfl, h⟩ := hq
            refine zm_if_eq (tgt := 1060) C dL_refused_1018 (by decide) (fun hc_25 => ?_) (fun hc_25 => ?_)
            · have h := h.1 hc_25
              refine zm_iconst (v := 0) C dL_refused_1060 (by decide) ?_
              refine zm_widen (k1 := 1702) (n1 := 10212) (by omega) (by omega) ?_
              exact zm_zret (ty := .boolean) C hr (by decide) dL_refused_1061 ⟨_, rfl, h⟩
            · have h := h.2 hc_25
              refine zm_aload_n C dL_refused_1021 rfl 1 rfl ?_
              refine zm_ldcSW C 6 (by decide) rfl rfl dL_refused_1022 ?_
              refine zm_ci (zr_D (As := [.ref (g.2.2.1 0), .ref (g.2.2.2.2.2.2.1 6)]) (rest := []) C (c_L_does l hstk _ u_24 W h) (fun H locs hp hs => zLitG C (q := 6) (by decide) hs) wd_1355 wd_1356 wd_0 wd_1357 hy_L_does rfl rfl ⟨by decide, by decide⟩ ⟨(show (cz + 137) + 63 ≤ 1702 by omega), (show (sz + 822) + 378 ≤ 10212 by omega)⟩ rfl rfl (Nat.le_of_ble_eq_true rfl) dL_refused_1025) (fun r_26 M1 hq => ?_)
              obtain ⟨u_27, rfl, h⟩ := hq
              refine zm_sipush (v := -1002) C dL_refused_1028 (by decide) ?_
              refine zm_icmp_ne (tgt := 1060) C dL_refused_1031 (by decide) (fun hc_28 => ?_) (fun hc_28 => ?_)
              · have h := h.1 hc_28
                refine zm_iconst (v := 0) C dL_refused_1060 (by decide) ?_
                refine zm_widen (k1 := 1702) (n1 := 10212) (by omega) (by omega) ?_
                exact zm_zret (ty := .boolean) C hr (by decide) dL_refused_1061 ⟨_, rfl, h⟩
              · have h := h.2 hc_28
                refine zm_aload_n C dL_refused_1034 rfl 1 rfl ?_
                refine zm_bipush (v := 7) C dL_refused_1035 (by decide) ?_
                refine zm_sipush (v := 9999) C dL_refused_1037 (by decide) ?_
                refine zm_iconst (v := 2) C dL_refused_1040 (by decide) ?_
                refine zm_ci (zr_S (As := [.ref (g.2.2.1 0), .int (7 : Int32), .int (9999 : Int32), .int (2 : Int32)]) (rest := []) C (c_L_is l hstk _ u_27 W (7 : Int32) (9999 : Int32) (2 : Int32) h) wd_863 wd_864 wd_0 wd_865 hy_L_is rfl rfl ⟨by decide, by decide⟩ ⟨(show (cz + 200) + 3 ≤ 1702 by omega), (show (sz + 1200) + 18 ≤ 10212 by omega)⟩ rfl rfl (Nat.le_of_ble_eq_true rfl) dL_refused_1041) (fun r_29 M1 hq => ?_)
                obtain ⟨u_30, rfl, h⟩ := hq
                refine zm_if_eq (tgt := 1060) C dL_refused_1044 (by decide) (fun hc_31 => ?_) (fun hc_31 => ?_)
                · have h := h.1 hc_31
                  refine zm_iconst (v := 0) C dL_refused_1060 (by decide) ?_
                  refine zm_widen (k1 := 1702) (n1 := 10212) (by omega) (by omega) ?_
                  exact zm_zret (ty := .boolean) C hr (by decide) dL_refused_1061 ⟨_, rfl, h⟩
                · have h := h.2 hc_31
                  refine zm_aload_n C dL_refused_1047 rfl 1 rfl ?_
                  refine zm_cl (zr_S (As := [.ref (g.2.2.1 0)]) (rest := []) C (c_L_asks l hstk _ u_30 W  h) wd_904 wd_905 wd_0 wd_906 hy_L_asks rfl rfl ⟨by decide, by decide⟩ ⟨(show (cz + 203) + 687 ≤ 1702 by omega), (show (sz + 1218) + 4122 ≤ 10212 by omega)⟩ rfl rfl (Nat.le_of_ble_eq_true rfl) dL_refused_1048) (fun r_32 M1 hq => ?_)
                  obtain ⟨u_33, rfl, h⟩ := hq
                  refine zm_lload_n C dL_refused_1051 rfl 2 rfl ?_
                  refine zm_lcmp C dL_refused_1052 ?_
                  refine zm_if_ne (tgt := 1060) C dL_refused_1053 (by decide) (fun hc_34 => ?_) (fun hc_34 => ?_)
                  · have h := h.1 hc_34
                    refine zm_iconst (v := 0) C dL_refused_1060 (by decide) ?_
                    refine zm_widen (k1 := 1702) (n1 := 10212) (by omega) (by omega) ?_
                    exact zm_zret (ty := .boolean) C hr (by decide) dL_refused_1061 ⟨_, rfl, h⟩
                  · have h := h.2 hc_34
                    refine zm_iconst (v := 1) C dL_refused_1056 (by decide) ?_
                    refine zm_goto (tgt := 1061) C dL_refused_1057 (by decide) ?_
                    refine zm_widen (k1 := 1702) (n1 := 10212) (by omega) (by omega) ?_
                    exact zm_zret (ty := .boolean) C hr (by decide) dL_refused_1061 ⟨_, rfl, h⟩
def wb_R_refused_929 (Q : Int32 → MU → Prop) (x1 : Int64) (x4 : Int32) (u : MU) : Prop := wb_R_refused_930 Q x1 x4 (0 : Int32) u
set_option maxHeartbeats 4000000 in
set_option maxRecDepth 100000 in
theorem vb_R_refused_929 {p : Program} {l : Launch} {e : Env} {s : State} {m : MethodId} {args : Array Value} {below : List Frame} {meth : Method} {c : Code} {g : GE} {W : MU × ((Nat → Int64) × (Nat → UInt64))} {Q : Int32 → MU → Prop} (C : zCx p l s m args meth c g RL cL_refused 6) (hr : meth.sig.returnType = (Option.some Jvm.ClassFile.FieldType.boolean)) (hstk : l.stackTraces = false) (x1 : Int64) (x4 : Int32) (u : MU) (cz sz : Nat) (hz : cz + 890 + 0 ≤ 1702) (hs : sz + 6 * (890 + 0) ≤ 10212) (h : wb_R_refused_929 Q x1 x4 u) : WM p l e rm_L_refused s m args below meth c g 6 cz sz (MQ below (zQi g (zPx W Q)) args s 1702 10212 (zA g)) 929 [(0, .ref (g.2.2.1 0)), (1, .long x1), (4, .int x4)] [] (u, W) := by
  unfold wb_R_refused_929 at h
  refine zm_iconst (v := 0) C dL_refused_929 (by decide) ?_
  exact zm_sub [0, 1, 2] rfl (vb_R_refused_930 C hr hstk  _ _ _ _ _ _ (by omega) (by omega) h)
def wb_R_refused_566 (Q : Int32 → MU → Prop) (x1 : Int64) (x3 : Int32) (x4 : Int32) (s0 : Int32) (s1 : Int32) (s2 : Int32) (u : MU) : Prop := w_R_position s2 s1 s0 (1 : Int32) u (fun r_1 u_2 => ((¬ r_1 = (-1001 : Int32)) → wb_R_refused_929 Q x1 x4 u_2) ∧ ((r_1 = (-1001 : Int32)) → w_R_positionOf (0 : Int32) (7 : Int32) u_2 (fun r_4 u_5 => ((¬ r_4 = (-1001 : Int32)) → wb_R_refused_929 Q x1 x4 u_5) ∧ ((r_4 = (-1001 : Int32)) → w_R_positionOf (0 : Int32) (-1 : Int32) u_5 (fun r_7 u_8 => ((¬ r_7 = (-1001 : Int32)) → wb_R_refused_929 Q x1 x4 u_8) ∧ ((r_7 = (-1001 : Int32)) → w_R_positionOf (0 : Int32) (0 : Int32) u_8 (fun r_10 u_11 => ((¬ r_10 = (-1002 : Int32)) → wb_R_refused_929 Q x1 x4 u_11) ∧ ((r_10 = (-1002 : Int32)) → w_R_positionOf (-1 : Int32) (0 : Int32) u_11 (fun r_13 u_14 => ((¬ r_13 = (-1002 : Int32)) → wb_R_refused_929 Q x1 x4 u_14) ∧ ((r_13 = (-1002 : Int32)) → w_R_outcomeAgain (0 : Int32) u_14 (fun r_16 u_17 => ((¬ r_16 = (-1001 : Int32)) → wb_R_refused_929 Q x1 x4 u_17) ∧ ((r_16 = (-1001 : Int32)) → w_R_outcomeAgain (5000 : Int32) u_17 (fun r_19 u_20 => ((¬ r_19 = (-1001 : Int32)) → wb_R_refused_929 Q x1 x4 u_20) ∧ ((r_19 = (-1001 : Int32)) → w_R_moveOf (0 : Int32) (0 : Int32) (1 : Int32) u_20 (fun r_22 u_23 => ((¬ r_22 = (-1001 : Int32)) → wb_R_refused_929 Q x1 x4 u_23) ∧ ((r_22 = (-1001 : Int32)) → w_R_best (-1 : Int32) u_23 (fun r_25 u_26 => ((¬ r_25 = (-1001 : Int32)) → wb_R_refused_929 Q x1 x4 u_26) ∧ ((r_25 = (-1001 : Int32)) → w_R_after (0 : Int32) (0 : Int32) (1 : Int32) u_26 (fun r_28 u_29 => ((¬ r_28 = (-1001 : Int32)) → wb_R_refused_929 Q x1 x4 u_29) ∧ ((r_28 = (-1001 : Int32)) → w_R_ending (1296 : Int32) u_29 (fun r_31 u_32 => ((¬ r_31 = (-1001 : Int32)) → wb_R_refused_929 Q x1 x4 u_32) ∧ ((r_31 = (-1001 : Int32)) → w_R_count (-1 : Int32) (1 : Int32) u_32 (fun r_34 u_35 => ((¬ r_34 = (-1001 : Int32)) → wb_R_refused_929 Q x1 x4 u_35) ∧ ((r_34 = (-1001 : Int32)) → w_R_count (3 : Int32) (1 : Int32) u_35 (fun r_37 u_38 => ((¬ r_37 = (-1001 : Int32)) → wb_R_refused_929 Q x1 x4 u_38) ∧ ((r_37 = (-1001 : Int32)) → w_R_wonIn (-1 : Int32) u_38 (fun r_40 u_41 => ((¬ r_40 = (-1001 : Int32)) → wb_R_refused_929 Q x1 x4 u_41) ∧ ((r_40 = (-1001 : Int32)) → w_R_wouldChange x3 (0 : Int32) u_41 (fun r_43 u_44 => ((¬ r_43 = (-1001 : Int32)) → wb_R_refused_929 Q x1 x4 u_44) ∧ ((r_43 = (-1001 : Int32)) → w_R_wouldChange (0 : Int32) (-1 : Int32) u_44 (fun r_46 u_47 => ((¬ r_46 = (-1001 : Int32)) → wb_R_refused_929 Q x1 x4 u_47) ∧ ((r_46 = (-1001 : Int32)) → w_R_wouldChange (1 : Int32) (1 : Int32) u_47 (fun r_49 u_50 => ((¬ r_49 = (-1002 : Int32)) → wb_R_refused_929 Q x1 x4 u_50) ∧ ((r_49 = (-1002 : Int32)) → w_R_bestBurrow (0 : Int32) u_50 (fun r_52 u_53 => ((¬ r_52 = (-1001 : Int32)) → wb_R_refused_929 Q x1 x4 u_53) ∧ ((r_52 = (-1001 : Int32)) → w_R_burrowOf x3 (9 : Int32) u_53 (fun r_55 u_56 => ((¬ r_55 = (-1001 : Int32)) → wb_R_refused_929 Q x1 x4 u_56) ∧ ((r_55 = (-1001 : Int32)) → w_R_burrowOf (0 : Int32) (4 : Int32) u_56 (fun r_58 u_59 => ((¬ r_58 = (-1002 : Int32)) → wb_R_refused_929 Q x1 x4 u_59) ∧ ((r_58 = (-1002 : Int32)) → w_R_burrowOf (0 : Int32) (-1 : Int32) u_59 (fun r_61 u_62 => ((¬ r_61 = (-1002 : Int32)) → wb_R_refused_929 Q x1 x4 u_62) ∧ ((r_61 = (-1002 : Int32)) → w_R_account (1 : Int32) u_62 (fun r_64 u_65 => w_R_pathOf r_64 (1 : Int32) u_65 (fun r_66 u_67 => ((¬ r_66 = (-1001 : Int32)) → wb_R_refused_929 Q x1 x4 u_67) ∧ ((r_66 = (-1001 : Int32)) → w_R_pathOf (-1 : Int32) (1 : Int32) u_67 (fun r_69 u_70 => ((¬ r_69 = (-1001 : Int32)) → wb_R_refused_929 Q x1 x4 u_70) ∧ ((r_69 = (-1001 : Int32)) → w_R_reason (3 : Int32) u_70 (fun r_72 u_73 => ((¬ r_72 = (-1001 : Int32)) → wb_R_refused_929 Q x1 x4 u_73) ∧ ((r_72 = (-1001 : Int32)) → w_R_reason (-1 : Int32) u_73 (fun r_75 u_76 => ((¬ r_75 = (-1001 : Int32)) → wb_R_refused_929 Q x1 x4 u_76) ∧ ((r_75 = (-1001 : Int32)) → w_R_character (-1 : Int32) u_76 (fun r_78 u_79 => ((¬ r_78 = (-1001 : Int32)) → wb_R_refused_929 Q x1 x4 u_79) ∧ ((r_78 = (-1001 : Int32)) → w_R_character (200 : Int32) u_79 (fun r_81 u_82 => ((¬ r_81 = (-1001 : Int32)) → wb_R_refused_929 Q x1 x4 u_82) ∧ ((r_81 = (-1001 : Int32)) → w_R_account (11 : Int32) u_82 (fun r_84 u_85 => ((¬ r_84 = (-1001 : Int32)) → wb_R_refused_929 Q x1 x4 u_85) ∧ ((r_84 = (-1001 : Int32)) → w_R_account (-1 : Int32) u_85 (fun r_87 u_88 => ((¬ r_87 = (-1001 : Int32)) → wb_R_refused_929 Q x1 x4 u_88) ∧ ((r_87 = (-1001 : Int32)) → w_R_is (1 : Int32) (0 : Int32) (0 : Int32) u_88 (fun r_90 u_91 => ((r_90 = 0) → wb_R_refused_929 Q x1 x4 u_91) ∧ ((¬ r_90 = 0) → wb_R_refused_930 Q x1 x4 (1 : Int32) u_91)))))))))))))))))))))))))))))))))))))))))))))))))))))))))))))
set_option maxHeartbeats 4000000 in
set_option maxRecDepth 100000 in
theorem vb_R_refused_566 {p : Program} {l : Launch} {e : Env} {s : State} {m : MethodId} {args : Array Value} {below : List Frame} {meth : Method} {c : Code} {g : GE} {W : MU × ((Nat → Int64) × (Nat → UInt64))} {Q : Int32 → MU → Prop} (C : zCx p l s m args meth c g RL cL_refused 6) (hr : meth.sig.returnType = (Option.some Jvm.ClassFile.FieldType.boolean)) (hstk : l.stackTraces = false) (x1 : Int64) (x3 : Int32) (x4 : Int32) (s0 : Int32) (s1 : Int32) (s2 : Int32) (u : MU) (cz sz : Nat) (hz : cz + 928 + 0 ≤ 1702) (hs : sz + 6 * (928 + 0) ≤ 10212) (h : wb_R_refused_566 Q x1 x3 x4 s0 s1 s2 u) : WM p l e rm_L_refused s m args below meth c g 6 cz sz (MQ below (zQi g (zPx W Q)) args s 1702 10212 (zA g)) 566 [(0, .ref (g.2.2.1 0)), (1, .long x1), (3, .int x3), (4, .int x4)] [.int s0, .int s1, .int s2, .ref (g.2.2.1 0)] (u, W) := by
  unfold wb_R_refused_566 at h
  refine zm_iconst (v := 1) C dL_refused_566 (by decide) ?_
  refine zm_ci (zr_SW (As := [.ref (g.2.2.1 0), .int s2, .int s1, .int s0, .int (1 : Int32)]) (rest := []) C (c_L_position l hstk _ u W s2 s1 s0 (1 : Int32) h) wd_1393 wd_1394 wd_0 wd_1395 hz_L_position rfl rfl ⟨by decide, by decide⟩ ⟨(show cz + 1 ≤ 1702 by omega), (show sz + 6 ≤ 10212 by omega)⟩ rfl rfl (Nat.le_of_ble_eq_true rfl) dL_refused_567) (fun r_1 M1 hq => ?_)
  obtain ⟨u_2, rfl, h⟩ := hq
  refine zm_sipush (v := -1001) C dL_refused_570 (by decide) ?_
  refine zm_icmp_ne (tgt := 929) C dL_refused_573 (by decide) (fun hc_3 => ?_) (fun hc_3 => ?_)
  · have h := h.1 hc_3
    exact zm_sub [0, 1, 3] rfl (vb_R_refused_929 C hr hstk  _ _ _ _ _ (by omega) (by omega) h)
  · have h := h.2 hc_3
    refine zm_aload_n C dL_refused_576 rfl 0 rfl ?_
    refine zm_iconst (v := 0) C dL_refused_577 (by decide) ?_
    refine zm_bipush (v := 7) C dL_refused_578 (by decide) ?_
    refine zm_ci (zr_SW (As := [.ref (g.2.2.1 0), .int (0 : Int32), .int (7 : Int32)]) (rest := []) C (c_L_positionOf l hstk _ u_2 W (0 : Int32) (7 : Int32) h) wd_971 wd_972 wd_0 wd_973 hz_L_positionOf rfl rfl ⟨by decide, by decide⟩ ⟨(show (cz + 1) + 1 ≤ 1702 by omega), (show (sz + 6) + 6 ≤ 10212 by omega)⟩ rfl rfl (Nat.le_of_ble_eq_true rfl) dL_refused_580) (fun r_4 M1 hq => ?_)
    obtain ⟨u_5, rfl, h⟩ := hq
    refine zm_sipush (v := -1001) C dL_refused_583 (by decide) ?_
    refine zm_icmp_ne (tgt := 929) C dL_refused_586 (by decide) (fun hc_6 => ?_) (fun hc_6 => ?_)
    · have h := h.1 hc_6
      exact zm_sub [0, 1, 3] rfl (vb_R_refused_929 C hr hstk  _ _ _ _ _ (by omega) (by omega) h)
    · have h := h.2 hc_6
      refine zm_aload_n C dL_refused_589 rfl 0 rfl ?_
      refine zm_iconst (v := 0) C dL_refused_590 (by decide) ?_
      refine zm_iconst (v := -1) C dL_refused_591 (by decide) ?_
      refine zm_ci (zr_SW (As := [.ref (g.2.2.1 0), .int (0 : Int32), .int (-1 : Int32)]) (rest := []) C (c_L_positionOf l hstk _ u_5 W (0 : Int32) (-1 : Int32) h) wd_971 wd_972 wd_0 wd_973 hz_L_positionOf rfl rfl ⟨by decide, by decide⟩ ⟨(show (cz + 2) + 1 ≤ 1702 by omega), (show (sz + 12) + 6 ≤ 10212 by omega)⟩ rfl rfl (Nat.le_of_ble_eq_true rfl) dL_refused_592) (fun r_7 M1 hq => ?_)
      obtain ⟨u_8, rfl, h⟩ := hq
      refine zm_sipush (v := -1001) C dL_refused_595 (by decide) ?_
      refine zm_icmp_ne (tgt := 929) C dL_refused_598 (by decide) (fun hc_9 => ?_) (fun hc_9 => ?_)
      · have h := h.1 hc_9
        exact zm_sub [0, 1, 3] rfl (vb_R_refused_929 C hr hstk  _ _ _ _ _ (by omega) (by omega) h)
      · have h := h.2 hc_9
        refine zm_aload_n C dL_refused_601 rfl 0 rfl ?_
        refine zm_iconst (v := 0) C dL_refused_602 (by decide) ?_
        refine zm_iconst (v := 0) C dL_refused_603 (by decide) ?_
        refine zm_ci (zr_SW (As := [.ref (g.2.2.1 0), .int (0 : Int32), .int (0 : Int32)]) (rest := []) C (c_L_positionOf l hstk _ u_8 W (0 : Int32) (0 : Int32) h) wd_971 wd_972 wd_0 wd_973 hz_L_positionOf rfl rfl ⟨by decide, by decide⟩ ⟨(show (cz + 3) + 1 ≤ 1702 by omega), (show (sz + 18) + 6 ≤ 10212 by omega)⟩ rfl rfl (Nat.le_of_ble_eq_true rfl) dL_refused_604) (fun r_10 M1 hq => ?_)
        obtain ⟨u_11, rfl, h⟩ := hq
        refine zm_sipush (v := -1002) C dL_refused_607 (by decide) ?_
        refine zm_icmp_ne (tgt := 929) C dL_refused_610 (by decide) (fun hc_12 => ?_) (fun hc_12 => ?_)
        · have h := h.1 hc_12
          exact zm_sub [0, 1, 3] rfl (vb_R_refused_929 C hr hstk  _ _ _ _ _ (by omega) (by omega) h)
        · have h := h.2 hc_12
          refine zm_aload_n C dL_refused_613 rfl 0 rfl ?_
          refine zm_iconst (v := -1) C dL_refused_614 (by decide) ?_
          refine zm_iconst (v := 0) C dL_refused_615 (by decide) ?_
          refine zm_ci (zr_SW (As := [.ref (g.2.2.1 0), .int (-1 : Int32), .int (0 : Int32)]) (rest := []) C (c_L_positionOf l hstk _ u_11 W (-1 : Int32) (0 : Int32) h) wd_971 wd_972 wd_0 wd_973 hz_L_positionOf rfl rfl ⟨by decide, by decide⟩ ⟨(show (cz + 4) + 1 ≤ 1702 by omega), (show (sz + 24) + 6 ≤ 10212 by omega)⟩ rfl rfl (Nat.le_of_ble_eq_true rfl) dL_refused_616) (fun r_13 M1 hq => ?_)
          obtain ⟨u_14, rfl, h⟩ := hq
          refine zm_sipush (v := -1002) C dL_refused_619 (by decide) ?_
          refine zm_icmp_ne (tgt := 929) C dL_refused_622 (by decide) (fun hc_15 => ?_) (fun hc_15 => ?_)
          · have h := h.1 hc_15
            exact zm_sub [0, 1, 3] rfl (vb_R_refused_929 C hr hstk  _ _ _ _ _ (by omega) (by omega) h)
          · have h := h.2 hc_15
            refine zm_aload_n C dL_refused_625 rfl 0 rfl ?_
            refine zm_iconst (v := 0) C dL_refused_626 (by decide) ?_
            refine zm_ci (zr_SW (As := [.ref (g.2.2.1 0), .int (0 : Int32)]) (rest := []) C (c_L_outcomeAgain l hstk _ u_14 W (0 : Int32) h) wd_984 wd_985 wd_0 wd_986 hz_L_outcomeAgain rfl rfl ⟨by decide, by decide⟩ ⟨(show (cz + 5) + 1 ≤ 1702 by omega), (show (sz + 30) + 6 ≤ 10212 by omega)⟩ rfl rfl (Nat.le_of_ble_eq_true rfl) dL_refused_627) (fun r_16 M1 hq => ?_)
            obtain ⟨u_17, rfl, h⟩ := hq
            refine zm_sipush (v := -1001) C dL_refused_630 (by decide) ?_
            refine zm_icmp_ne (tgt := 929) C dL_refused_633 (by decide) (fun hc_18 => ?_) (fun hc_18 => ?_)
            · have h := h.1 hc_18
              exact zm_sub [0, 1, 3] rfl (vb_R_refused_929 C hr hstk  _ _ _ _ _ (by omega) (by omega) h)
            · have h := h.2 hc_18
              refine zm_aload_n C dL_refused_636 rfl 0 rfl ?_
              refine zm_sipush (v := 5000) C dL_refused_637 (by decide) ?_
              refine zm_ci (zr_SW (As := [.ref (g.2.2.1 0), .int (5000 : Int32)]) (rest := []) C (c_L_outcomeAgain l hstk _ u_17 W (5000 : Int32) h) wd_984 wd_985 wd_0 wd_986 hz_L_outcomeAgain rfl rfl ⟨by decide, by decide⟩ ⟨(show (cz + 6) + 1 ≤ 1702 by omega), (show (sz + 36) + 6 ≤ 10212 by omega)⟩ rfl rfl (Nat.le_of_ble_eq_true rfl) dL_refused_640) (fun r_19 M1 hq => ?_)
              obtain ⟨u_20, rfl, h⟩ := hq
              refine zm_sipush (v := -1001) C dL_refused_643 (by decide) ?_
              refine zm_icmp_ne (tgt := 929) C dL_refused_646 (by decide) (fun hc_21 => ?_) (fun hc_21 => ?_)
              · have h := h.1 hc_21
                exact zm_sub [0, 1, 3] rfl (vb_R_refused_929 C hr hstk  _ _ _ _ _ (by omega) (by omega) h)
              · have h := h.2 hc_21
                refine zm_aload_n C dL_refused_649 rfl 0 rfl ?_
                refine zm_iconst (v := 0) C dL_refused_650 (by decide) ?_
                refine zm_iconst (v := 0) C dL_refused_651 (by decide) ?_
                refine zm_iconst (v := 1) C dL_refused_652 (by decide) ?_
                refine zm_ci (zr_SW (As := [.ref (g.2.2.1 0), .int (0 : Int32), .int (0 : Int32), .int (1 : Int32)]) (rest := []) C (c_L_moveOf l hstk _ u_20 W (0 : Int32) (0 : Int32) (1 : Int32) h) wd_1037 wd_1038 wd_0 wd_1039 hz_L_moveOf rfl rfl ⟨by decide, by decide⟩ ⟨(show (cz + 7) + 2 ≤ 1702 by omega), (show (sz + 42) + 12 ≤ 10212 by omega)⟩ rfl rfl (Nat.le_of_ble_eq_true rfl) dL_refused_653) (fun r_22 M1 hq => ?_)
                obtain ⟨u_23, rfl, h⟩ := hq
                refine zm_sipush (v := -1001) C dL_refused_656 (by decide) ?_
                refine zm_icmp_ne (tgt := 929) C dL_refused_659 (by decide) (fun hc_24 => ?_) (fun hc_24 => ?_)
                · have h := h.1 hc_24
                  exact zm_sub [0, 1, 3] rfl (vb_R_refused_929 C hr hstk  _ _ _ _ _ (by omega) (by omega) h)
                · have h := h.2 hc_24
                  refine zm_aload_n C dL_refused_662 rfl 0 rfl ?_
                  refine zm_iconst (v := -1) C dL_refused_663 (by decide) ?_
                  refine zm_ci (zr_SW (As := [.ref (g.2.2.1 0), .int (-1 : Int32)]) (rest := []) C (c_L_best l hstk _ u_23 W (-1 : Int32) h) wd_1013 wd_1014 wd_0 wd_1015 hz_L_best rfl rfl ⟨by decide, by decide⟩ ⟨(show (cz + 9) + 2 ≤ 1702 by omega), (show (sz + 54) + 12 ≤ 10212 by omega)⟩ rfl rfl (Nat.le_of_ble_eq_true rfl) dL_refused_664) (fun r_25 M1 hq => ?_)
                  obtain ⟨u_26, rfl, h⟩ := hq
                  refine zm_sipush (v := -1001) C dL_refused_667 (by decide) ?_
                  refine zm_icmp_ne (tgt := 929) C dL_refused_670 (by decide) (fun hc_27 => ?_) (fun hc_27 => ?_)
                  · have h := h.1 hc_27
                    exact zm_sub [0, 1, 3] rfl (vb_R_refused_929 C hr hstk  _ _ _ _ _ (by omega) (by omega) h)
                  · have h := h.2 hc_27
                    refine zm_aload_n C dL_refused_673 rfl 0 rfl ?_
                    refine zm_iconst (v := 0) C dL_refused_674 (by decide) ?_
                    refine zm_iconst (v := 0) C dL_refused_675 (by decide) ?_
                    refine zm_iconst (v := 1) C dL_refused_676 (by decide) ?_
                    refine zm_ci (zr_SW (As := [.ref (g.2.2.1 0), .int (0 : Int32), .int (0 : Int32), .int (1 : Int32)]) (rest := []) C (c_L_after l hstk _ u_26 W (0 : Int32) (0 : Int32) (1 : Int32) h) wd_1401 wd_1402 wd_0 wd_1403 hz_L_after rfl rfl ⟨by decide, by decide⟩ ⟨(show (cz + 11) + 2 ≤ 1702 by omega), (show (sz + 66) + 12 ≤ 10212 by omega)⟩ rfl rfl (Nat.le_of_ble_eq_true rfl) dL_refused_677) (fun r_28 M1 hq => ?_)
                    obtain ⟨u_29, rfl, h⟩ := hq
                    refine zm_sipush (v := -1001) C dL_refused_680 (by decide) ?_
                    refine zm_icmp_ne (tgt := 929) C dL_refused_683 (by decide) (fun hc_30 => ?_) (fun hc_30 => ?_)
                    · have h := h.1 hc_30
                      exact zm_sub [0, 1, 3] rfl (vb_R_refused_929 C hr hstk  _ _ _ _ _ (by omega) (by omega) h)
                    · have h := h.2 hc_30
                      refine zm_aload_n C dL_refused_686 rfl 0 rfl ?_
                      refine zm_sipush (v := 1296) C dL_refused_687 (by decide) ?_
                      refine zm_ci (zr_SW (As := [.ref (g.2.2.1 0), .int (1296 : Int32)]) (rest := []) C (c_L_ending l hstk _ u_29 W (1296 : Int32) h) wd_1021 wd_1022 wd_0 wd_1023 hz_L_ending rfl rfl ⟨by decide, by decide⟩ ⟨(show (cz + 13) + 2 ≤ 1702 by omega), (show (sz + 78) + 12 ≤ 10212 by omega)⟩ rfl rfl (Nat.le_of_ble_eq_true rfl) dL_refused_690) (fun r_31 M1 hq => ?_)
                      obtain ⟨u_32, rfl, h⟩ := hq
                      refine zm_sipush (v := -1001) C dL_refused_693 (by decide) ?_
                      refine zm_icmp_ne (tgt := 929) C dL_refused_696 (by decide) (fun hc_33 => ?_) (fun hc_33 => ?_)
                      · have h := h.1 hc_33
                        exact zm_sub [0, 1, 3] rfl (vb_R_refused_929 C hr hstk  _ _ _ _ _ (by omega) (by omega) h)
                      · have h := h.2 hc_33
                        refine zm_aload_n C dL_refused_699 rfl 0 rfl ?_
                        refine zm_iconst (v := -1) C dL_refused_700 (by decide) ?_
                        refine zm_iconst (v := 1) C dL_refused_701 (by decide) ?_
                        refine zm_ci (zr_SW (As := [.ref (g.2.2.1 0), .int (-1 : Int32), .int (1 : Int32)]) (rest := []) C (c_L_count l hstk _ u_32 W (-1 : Int32) (1 : Int32) h) wd_962 wd_963 wd_0 wd_964 hz_L_count rfl rfl ⟨by decide, by decide⟩ ⟨(show (cz + 15) + 1 ≤ 1702 by omega), (show (sz + 90) + 6 ≤ 10212 by omega)⟩ rfl rfl (Nat.le_of_ble_eq_true rfl) dL_refused_702) (fun r_34 M1 hq => ?_)
                        obtain ⟨u_35, rfl, h⟩ := hq
                        refine zm_sipush (v := -1001) C dL_refused_705 (by decide) ?_
                        refine zm_icmp_ne (tgt := 929) C dL_refused_708 (by decide) (fun hc_36 => ?_) (fun hc_36 => ?_)
                        · have h := h.1 hc_36
                          exact zm_sub [0, 1, 3] rfl (vb_R_refused_929 C hr hstk  _ _ _ _ _ (by omega) (by omega) h)
                        · have h := h.2 hc_36
                          refine zm_aload_n C dL_refused_711 rfl 0 rfl ?_
                          refine zm_iconst (v := 3) C dL_refused_712 (by decide) ?_
                          refine zm_iconst (v := 1) C dL_refused_713 (by decide) ?_
                          refine zm_ci (zr_SW (As := [.ref (g.2.2.1 0), .int (3 : Int32), .int (1 : Int32)]) (rest := []) C (c_L_count l hstk _ u_35 W (3 : Int32) (1 : Int32) h) wd_962 wd_963 wd_0 wd_964 hz_L_count rfl rfl ⟨by decide, by decide⟩ ⟨(show (cz + 16) + 1 ≤ 1702 by omega), (show (sz + 96) + 6 ≤ 10212 by omega)⟩ rfl rfl (Nat.le_of_ble_eq_true rfl) dL_refused_714) (fun r_37 M1 hq => ?_)
                          obtain ⟨u_38, rfl, h⟩ := hq
                          refine zm_sipush (v := -1001) C dL_refused_717 (by decide) ?_
                          refine zm_icmp_ne (tgt := 929) C dL_refused_720 (by decide) (fun hc_39 => ?_) (fun hc_39 => ?_)
                          · have h := h.1 hc_39
                            exact zm_sub [0, 1, 3] rfl (vb_R_refused_929 C hr hstk  _ _ _ _ _ (by omega) (by omega) h)
                          · have h := h.2 hc_39
                            refine zm_aload_n C dL_refused_723 rfl 0 rfl ?_
                            refine zm_iconst (v := -1) C dL_refused_724 (by decide) ?_
                            refine zm_ci (zr_SW (As := [.ref (g.2.2.1 0), .int (-1 : Int32)]) (rest := []) C (c_L_wonIn l hstk _ u_38 W (-1 : Int32) h) wd_1047 wd_1048 wd_0 wd_1049 hz_L_wonIn rfl rfl ⟨by decide, by decide⟩ ⟨(show (cz + 17) + 1 ≤ 1702 by omega), (show (sz + 102) + 6 ≤ 10212 by omega)⟩ rfl rfl (Nat.le_of_ble_eq_true rfl) dL_refused_725) (fun r_40 M1 hq => ?_)
                            obtain ⟨u_41, rfl, h⟩ := hq
                            refine zm_sipush (v := -1001) C dL_refused_728 (by decide) ?_
                            refine zm_icmp_ne (tgt := 929) C dL_refused_731 (by decide) (fun hc_42 => ?_) (fun hc_42 => ?_)
                            · have h := h.1 hc_42
                              exact zm_sub [0, 1, 3] rfl (vb_R_refused_929 C hr hstk  _ _ _ _ _ (by omega) (by omega) h)
                            · have h := h.2 hc_42
                              refine zm_aload_n C dL_refused_734 rfl 0 rfl ?_
                              refine zm_iload_n C dL_refused_735 rfl 2 rfl ?_
                              refine zm_iconst (v := 0) C dL_refused_736 (by decide) ?_
                              refine zm_ci (zr_SW (As := [.ref (g.2.2.1 0), .int x3, .int (0 : Int32)]) (rest := []) C (c_L_wouldChange l hstk _ u_41 W x3 (0 : Int32) h) wd_1076 wd_1077 wd_0 wd_1078 hz_L_wouldChange rfl rfl ⟨by decide, by decide⟩ ⟨(show (cz + 18) + 1 ≤ 1702 by omega), (show (sz + 108) + 6 ≤ 10212 by omega)⟩ rfl rfl (Nat.le_of_ble_eq_true rfl) dL_refused_737) (fun r_43 M1 hq => ?_)
                              obtain ⟨u_44, rfl, h⟩ := hq
                              refine zm_sipush (v := -1001) C dL_refused_740 (by decide) ?_
                              refine zm_icmp_ne (tgt := 929) C dL_refused_743 (by decide) (fun hc_45 => ?_) (fun hc_45 => ?_)
                              · have h := h.1 hc_45
                                exact zm_sub [0, 1, 3] rfl (vb_R_refused_929 C hr hstk  _ _ _ _ _ (by omega) (by omega) h)
                              · have h := h.2 hc_45
                                refine zm_aload_n C dL_refused_746 rfl 0 rfl ?_
                                refine zm_iconst (v := 0) C dL_refused_747 (by decide) ?_
                                refine zm_iconst (v := -1) C dL_refused_748 (by decide) ?_
                                refine zm_ci (zr_SW (As := [.ref (g.2.2.1 0), .int (0 : Int32), .int (-1 : Int32)]) (rest := []) C (c_L_wouldChange l hstk _ u_44 W (0 : Int32) (-1 : Int32) h) wd_1076 wd_1077 wd_0 wd_1078 hz_L_wouldChange rfl rfl ⟨by decide, by decide⟩ ⟨(show (cz + 19) + 1 ≤ 1702 by omega), (show (sz + 114) + 6 ≤ 10212 by omega)⟩ rfl rfl (Nat.le_of_ble_eq_true rfl) dL_refused_749) (fun r_46 M1 hq => ?_)
                                obtain ⟨u_47, rfl, h⟩ := hq
                                refine zm_sipush (v := -1001) C dL_refused_752 (by decide) ?_
                                refine zm_icmp_ne (tgt := 929) C dL_refused_755 (by decide) (fun hc_48 => ?_) (fun hc_48 => ?_)
                                · have h := h.1 hc_48
                                  exact zm_sub [0, 1, 3] rfl (vb_R_refused_929 C hr hstk  _ _ _ _ _ (by omega) (by omega) h)
                                · have h := h.2 hc_48
                                  refine zm_aload_n C dL_refused_758 rfl 0 rfl ?_
                                  refine zm_iconst (v := 1) C dL_refused_759 (by decide) ?_
                                  refine zm_iconst (v := 1) C dL_refused_760 (by decide) ?_
                                  refine zm_ci (zr_SW (As := [.ref (g.2.2.1 0), .int (1 : Int32), .int (1 : Int32)]) (rest := []) C (c_L_wouldChange l hstk _ u_47 W (1 : Int32) (1 : Int32) h) wd_1076 wd_1077 wd_0 wd_1078 hz_L_wouldChange rfl rfl ⟨by decide, by decide⟩ ⟨(show (cz + 20) + 1 ≤ 1702 by omega), (show (sz + 120) + 6 ≤ 10212 by omega)⟩ rfl rfl (Nat.le_of_ble_eq_true rfl) dL_refused_761) (fun r_49 M1 hq => ?_)
                                  obtain ⟨u_50, rfl, h⟩ := hq
                                  refine zm_sipush (v := -1002) C dL_refused_764 (by decide) ?_
                                  refine zm_icmp_ne (tgt := 929) C dL_refused_767 (by decide) (fun hc_51 => ?_) (fun hc_51 => ?_)
                                  · have h := h.1 hc_51
                                    exact zm_sub [0, 1, 3] rfl (vb_R_refused_929 C hr hstk  _ _ _ _ _ (by omega) (by omega) h)
                                  · have h := h.2 hc_51
                                    refine zm_aload_n C dL_refused_770 rfl 0 rfl ?_
                                    refine zm_iconst (v := 0) C dL_refused_771 (by decide) ?_
                                    refine zm_ci (zr_SW (As := [.ref (g.2.2.1 0), .int (0 : Int32)]) (rest := []) C (c_L_bestBurrow l hstk _ u_50 W (0 : Int32) h) wd_1029 wd_1030 wd_0 wd_1031 hz_L_bestBurrow rfl rfl ⟨by decide, by decide⟩ ⟨(show (cz + 21) + 2 ≤ 1702 by omega), (show (sz + 126) + 12 ≤ 10212 by omega)⟩ rfl rfl (Nat.le_of_ble_eq_true rfl) dL_refused_772) (fun r_52 M1 hq => ?_)
                                    obtain ⟨u_53, rfl, h⟩ := hq
                                    refine zm_sipush (v := -1001) C dL_refused_775 (by decide) ?_
                                    refine zm_icmp_ne (tgt := 929) C dL_refused_778 (by decide) (fun hc_54 => ?_) (fun hc_54 => ?_)
                                    · have h := h.1 hc_54
                                      exact zm_sub [0, 1, 3] rfl (vb_R_refused_929 C hr hstk  _ _ _ _ _ (by omega) (by omega) h)
                                    · have h := h.2 hc_54
                                      refine zm_aload_n C dL_refused_781 rfl 0 rfl ?_
                                      refine zm_iload_n C dL_refused_782 rfl 2 rfl ?_
                                      refine zm_bipush (v := 9) C dL_refused_783 (by decide) ?_
                                      refine zm_ci (zr_SW (As := [.ref (g.2.2.1 0), .int x3, .int (9 : Int32)]) (rest := []) C (c_L_burrowOf l hstk _ u_53 W x3 (9 : Int32) h) wd_515 wd_516 wd_0 wd_517 hz_L_burrowOf rfl rfl ⟨by decide, by decide⟩ ⟨(show (cz + 23) + 1 ≤ 1702 by omega), (show (sz + 138) + 6 ≤ 10212 by omega)⟩ rfl rfl (Nat.le_of_ble_eq_true rfl) dL_refused_785) (fun r_55 M1 hq => ?_)
                                      obtain ⟨u_56, rfl, h⟩ := hq
                                      refine zm_sipush (v := -1001) C dL_refused_788 (by decide) ?_
                                      refine zm_icmp_ne (tgt := 929) C dL_refused_791 (by decide) (fun hc_57 => ?_) (fun hc_57 => ?_)
                                      · have h := h.1 hc_57
                                        exact zm_sub [0, 1, 3] rfl (vb_R_refused_929 C hr hstk  _ _ _ _ _ (by omega) (by omega) h)
                                      · have h := h.2 hc_57
                                        refine zm_aload_n C dL_refused_794 rfl 0 rfl ?_
                                        refine zm_iconst (v := 0) C dL_refused_795 (by decide) ?_
                                        refine zm_iconst (v := 4) C dL_refused_796 (by decide) ?_
                                        refine zm_ci (zr_SW (As := [.ref (g.2.2.1 0), .int (0 : Int32), .int (4 : Int32)]) (rest := []) C (c_L_burrowOf l hstk _ u_56 W (0 : Int32) (4 : Int32) h) wd_515 wd_516 wd_0 wd_517 hz_L_burrowOf rfl rfl ⟨by decide, by decide⟩ ⟨(show (cz + 24) + 1 ≤ 1702 by omega), (show (sz + 144) + 6 ≤ 10212 by omega)⟩ rfl rfl (Nat.le_of_ble_eq_true rfl) dL_refused_797) (fun r_58 M1 hq => ?_)
                                        obtain ⟨u_59, rfl, h⟩ := hq
                                        refine zm_sipush (v := -1002) C dL_refused_800 (by decide) ?_
                                        refine zm_icmp_ne (tgt := 929) C dL_refused_803 (by decide) (fun hc_60 => ?_) (fun hc_60 => ?_)
                                        · have h := h.1 hc_60
                                          exact zm_sub [0, 1, 3] rfl (vb_R_refused_929 C hr hstk  _ _ _ _ _ (by omega) (by omega) h)
                                        · have h := h.2 hc_60
                                          refine zm_aload_n C dL_refused_806 rfl 0 rfl ?_
                                          refine zm_iconst (v := 0) C dL_refused_807 (by decide) ?_
                                          refine zm_iconst (v := -1) C dL_refused_808 (by decide) ?_
                                          refine zm_ci (zr_SW (As := [.ref (g.2.2.1 0), .int (0 : Int32), .int (-1 : Int32)]) (rest := []) C (c_L_burrowOf l hstk _ u_59 W (0 : Int32) (-1 : Int32) h) wd_515 wd_516 wd_0 wd_517 hz_L_burrowOf rfl rfl ⟨by decide, by decide⟩ ⟨(show (cz + 25) + 1 ≤ 1702 by omega), (show (sz + 150) + 6 ≤ 10212 by omega)⟩ rfl rfl (Nat.le_of_ble_eq_true rfl) dL_refused_809) (fun r_61 M1 hq => ?_)
                                          obtain ⟨u_62, rfl, h⟩ := hq
                                          refine zm_sipush (v := -1002) C dL_refused_812 (by decide) ?_
                                          refine zm_icmp_ne (tgt := 929) C dL_refused_815 (by decide) (fun hc_63 => ?_) (fun hc_63 => ?_)
                                          · have h := h.1 hc_63
                                            exact zm_sub [0, 1, 3] rfl (vb_R_refused_929 C hr hstk  _ _ _ _ _ (by omega) (by omega) h)
                                          · have h := h.2 hc_63
                                            refine zm_aload_n C dL_refused_818 rfl 0 rfl ?_
                                            refine zm_aload_n C dL_refused_819 rfl 0 rfl ?_
                                            refine zm_iconst (v := 1) C dL_refused_820 (by decide) ?_
                                            refine zm_ci (zr_SW (As := [.ref (g.2.2.1 0), .int (1 : Int32)]) (rest := [.ref (g.2.2.1 0)]) C (c_L_account l hstk _ u_62 W (1 : Int32) h) wd_823 wd_824 wd_0 wd_825 hz_L_account rfl rfl ⟨by decide, by decide⟩ ⟨(show (cz + 26) + 1 ≤ 1702 by omega), (show (sz + 156) + 6 ≤ 10212 by omega)⟩ rfl rfl (Nat.le_of_ble_eq_true rfl) dL_refused_821) (fun r_64 M1 hq => ?_)
                                            obtain ⟨u_65, rfl, h⟩ := hq
                                            refine zm_iconst (v := 1) C dL_refused_824 (by decide) ?_
                                            refine zm_ci (zr_SW (As := [.ref (g.2.2.1 0), .int r_64, .int (1 : Int32)]) (rest := []) C (c_L_pathOf l hstk _ u_65 W r_64 (1 : Int32) h) wd_696 wd_697 wd_0 wd_698 hz_L_pathOf rfl rfl ⟨by decide, by decide⟩ ⟨(show (cz + 27) + 1 ≤ 1702 by omega), (show (sz + 162) + 6 ≤ 10212 by omega)⟩ rfl rfl (Nat.le_of_ble_eq_true rfl) dL_refused_825) (fun r_66 M1 hq => ?_)
                                            obtain ⟨u_67, rfl, h⟩ := hq
                                            refine zm_sipush (v := -1001) C dL_refused_828 (by decide) ?_
                                            refine zm_icmp_ne (tgt := 929) C dL_refused_831 (by decide) (fun hc_68 => ?_) (fun hc_68 => ?_)
                                            · have h := h.1 hc_68
                                              exact zm_sub [0, 1, 3] rfl (vb_R_refused_929 C hr hstk  _ _ _ _ _ (by omega) (by omega) h)
                                            · have h := h.2 hc_68
                                              refine zm_aload_n C dL_refused_834 rfl 0 rfl ?_
                                              refine zm_iconst (v := -1) C dL_refused_835 (by decide) ?_
                                              refine zm_iconst (v := 1) C dL_refused_836 (by decide) ?_
                                              refine zm_ci (zr_SW (As := [.ref (g.2.2.1 0), .int (-1 : Int32), .int (1 : Int32)]) (rest := []) C (c_L_pathOf l hstk _ u_67 W (-1 : Int32) (1 : Int32) h) wd_696 wd_697 wd_0 wd_698 hz_L_pathOf rfl rfl ⟨by decide, by decide⟩ ⟨(show (cz + 28) + 1 ≤ 1702 by omega), (show (sz + 168) + 6 ≤ 10212 by omega)⟩ rfl rfl (Nat.le_of_ble_eq_true rfl) dL_refused_837) (fun r_69 M1 hq => ?_)
                                              obtain ⟨u_70, rfl, h⟩ := hq
                                              refine zm_sipush (v := -1001) C dL_refused_840 (by decide) ?_
                                              refine zm_icmp_ne (tgt := 929) C dL_refused_843 (by decide) (fun hc_71 => ?_) (fun hc_71 => ?_)
                                              · have h := h.1 hc_71
                                                exact zm_sub [0, 1, 3] rfl (vb_R_refused_929 C hr hstk  _ _ _ _ _ (by omega) (by omega) h)
                                              · have h := h.2 hc_71
                                                refine zm_aload_n C dL_refused_846 rfl 0 rfl ?_
                                                refine zm_iconst (v := 3) C dL_refused_847 (by decide) ?_
                                                refine zm_ci (zr_SW (As := [.ref (g.2.2.1 0), .int (3 : Int32)]) (rest := []) C (c_L_reason l hstk _ u_70 W (3 : Int32) h) wd_866 wd_867 wd_0 wd_868 hz_L_reason rfl rfl ⟨by decide, by decide⟩ ⟨(show (cz + 29) + 1 ≤ 1702 by omega), (show (sz + 174) + 6 ≤ 10212 by omega)⟩ rfl rfl (Nat.le_of_ble_eq_true rfl) dL_refused_848) (fun r_72 M1 hq => ?_)
                                                obtain ⟨u_73, rfl, h⟩ := hq
                                                refine zm_sipush (v := -1001) C dL_refused_851 (by decide) ?_
                                                refine zm_icmp_ne (tgt := 929) C dL_refused_854 (by decide) (fun hc_74 => ?_) (fun hc_74 => ?_)
                                                · have h := h.1 hc_74
                                                  exact zm_sub [0, 1, 3] rfl (vb_R_refused_929 C hr hstk  _ _ _ _ _ (by omega) (by omega) h)
                                                · have h := h.2 hc_74
                                                  refine zm_aload_n C dL_refused_857 rfl 0 rfl ?_
                                                  refine zm_iconst (v := -1) C dL_refused_858 (by decide) ?_
                                                  refine zm_ci (zr_SW (As := [.ref (g.2.2.1 0), .int (-1 : Int32)]) (rest := []) C (c_L_reason l hstk _ u_73 W (-1 : Int32) h) wd_866 wd_867 wd_0 wd_868 hz_L_reason rfl rfl ⟨by decide, by decide⟩ ⟨(show (cz + 30) + 1 ≤ 1702 by omega), (show (sz + 180) + 6 ≤ 10212 by omega)⟩ rfl rfl (Nat.le_of_ble_eq_true rfl) dL_refused_859) (fun r_75 M1 hq => ?_)
                                                  obtain ⟨u_76, rfl, h⟩ := hq
                                                  refine zm_sipush (v := -1001) C dL_refused_862 (by decide) ?_
                                                  refine zm_icmp_ne (tgt := 929) C dL_refused_865 (by decide) (fun hc_77 => ?_) (fun hc_77 => ?_)
                                                  · have h := h.1 hc_77
                                                    exact zm_sub [0, 1, 3] rfl (vb_R_refused_929 C hr hstk  _ _ _ _ _ (by omega) (by omega) h)
                                                  · have h := h.2 hc_77
                                                    refine zm_aload_n C dL_refused_868 rfl 0 rfl ?_
                                                    refine zm_iconst (v := -1) C dL_refused_869 (by decide) ?_
                                                    refine zm_ci (zr_SW (As := [.ref (g.2.2.1 0), .int (-1 : Int32)]) (rest := []) C (c_L_character l hstk _ u_76 W (-1 : Int32) h) wd_1059 wd_1060 wd_0 wd_1061 hz_L_character rfl rfl ⟨by decide, by decide⟩ ⟨(show (cz + 31) + 1 ≤ 1702 by omega), (show (sz + 186) + 6 ≤ 10212 by omega)⟩ rfl rfl (Nat.le_of_ble_eq_true rfl) dL_refused_870) (fun r_78 M1 hq => ?_)
                                                    obtain ⟨u_79, rfl, h⟩ := hq
                                                    refine zm_sipush (v := -1001) C dL_refused_873 (by decide) ?_
                                                    refine zm_icmp_ne (tgt := 929) C dL_refused_876 (by decide) (fun hc_80 => ?_) (fun hc_80 => ?_)
                                                    · have h := h.1 hc_80
                                                      exact zm_sub [0, 1, 3] rfl (vb_R_refused_929 C hr hstk  _ _ _ _ _ (by omega) (by omega) h)
                                                    · have h := h.2 hc_80
                                                      refine zm_aload_n C dL_refused_879 rfl 0 rfl ?_
                                                      refine zm_sipush (v := 200) C dL_refused_880 (by decide) ?_
                                                      refine zm_ci (zr_SW (As := [.ref (g.2.2.1 0), .int (200 : Int32)]) (rest := []) C (c_L_character l hstk _ u_79 W (200 : Int32) h) wd_1059 wd_1060 wd_0 wd_1061 hz_L_character rfl rfl ⟨by decide, by decide⟩ ⟨(show (cz + 32) + 1 ≤ 1702 by omega), (show (sz + 192) + 6 ≤ 10212 by omega)⟩ rfl rfl (Nat.le_of_ble_eq_true rfl) dL_refused_883) (fun r_81 M1 hq => ?_)
                                                      obtain ⟨u_82, rfl, h⟩ := hq
                                                      refine zm_sipush (v := -1001) C dL_refused_886 (by decide) ?_
                                                      refine zm_icmp_ne (tgt := 929) C dL_refused_889 (by decide) (fun hc_83 => ?_) (fun hc_83 => ?_)
                                                      · have h := h.1 hc_83
                                                        exact zm_sub [0, 1, 3] rfl (vb_R_refused_929 C hr hstk  _ _ _ _ _ (by omega) (by omega) h)
                                                      · have h := h.2 hc_83
                                                        refine zm_aload_n C dL_refused_892 rfl 0 rfl ?_
                                                        refine zm_bipush (v := 11) C dL_refused_893 (by decide) ?_
                                                        refine zm_ci (zr_SW (As := [.ref (g.2.2.1 0), .int (11 : Int32)]) (rest := []) C (c_L_account l hstk _ u_82 W (11 : Int32) h) wd_823 wd_824 wd_0 wd_825 hz_L_account rfl rfl ⟨by decide, by decide⟩ ⟨(show (cz + 33) + 1 ≤ 1702 by omega), (show (sz + 198) + 6 ≤ 10212 by omega)⟩ rfl rfl (Nat.le_of_ble_eq_true rfl) dL_refused_895) (fun r_84 M1 hq => ?_)
                                                        obtain ⟨u_85, rfl, h⟩ := hq
                                                        refine zm_sipush (v := -1001) C dL_refused_898 (by decide) ?_
                                                        refine zm_icmp_ne (tgt := 929) C dL_refused_901 (by decide) (fun hc_86 => ?_) (fun hc_86 => ?_)
                                                        · have h := h.1 hc_86
                                                          exact zm_sub [0, 1, 3] rfl (vb_R_refused_929 C hr hstk  _ _ _ _ _ (by omega) (by omega) h)
                                                        · have h := h.2 hc_86
                                                          refine zm_aload_n C dL_refused_904 rfl 0 rfl ?_
                                                          refine zm_iconst (v := -1) C dL_refused_905 (by decide) ?_
                                                          refine zm_ci (zr_SW (As := [.ref (g.2.2.1 0), .int (-1 : Int32)]) (rest := []) C (c_L_account l hstk _ u_85 W (-1 : Int32) h) wd_823 wd_824 wd_0 wd_825 hz_L_account rfl rfl ⟨by decide, by decide⟩ ⟨(show (cz + 34) + 1 ≤ 1702 by omega), (show (sz + 204) + 6 ≤ 10212 by omega)⟩ rfl rfl (Nat.le_of_ble_eq_true rfl) dL_refused_906) (fun r_87 M1 hq => ?_)
                                                          obtain ⟨u_88, rfl, h⟩ := hq
                                                          refine zm_sipush (v := -1001) C dL_refused_909 (by decide) ?_
                                                          refine zm_icmp_ne (tgt := 929) C dL_refused_912 (by decide) (fun hc_89 => ?_) (fun hc_89 => ?_)
                                                          · have h := h.1 hc_89
                                                            exact zm_sub [0, 1, 3] rfl (vb_R_refused_929 C hr hstk  _ _ _ _ _ (by omega) (by omega) h)
                                                          · have h := h.2 hc_89
                                                            refine zm_aload_n C dL_refused_915 rfl 0 rfl ?_
                                                            refine zm_iconst (v := 1) C dL_refused_916 (by decide) ?_
                                                            refine zm_iconst (v := 0) C dL_refused_917 (by decide) ?_
                                                            refine zm_iconst (v := 0) C dL_refused_918 (by decide) ?_
                                                            refine zm_ci (zr_S (As := [.ref (g.2.2.1 0), .int (1 : Int32), .int (0 : Int32), .int (0 : Int32)]) (rest := []) C (c_L_is l hstk _ u_88 W (1 : Int32) (0 : Int32) (0 : Int32) h) wd_863 wd_864 wd_0 wd_865 hy_L_is rfl rfl ⟨by decide, by decide⟩ ⟨(show (cz + 35) + 3 ≤ 1702 by omega), (show (sz + 210) + 18 ≤ 10212 by omega)⟩ rfl rfl (Nat.le_of_ble_eq_true rfl) dL_refused_919) (fun r_90 M1 hq => ?_)
                                                            obtain ⟨u_91, rfl, h⟩ := hq
                                                            refine zm_if_eq (tgt := 929) C dL_refused_922 (by decide) (fun hc_92 => ?_) (fun hc_92 => ?_)
                                                            · have h := h.1 hc_92
                                                              exact zm_sub [0, 1, 3] rfl (vb_R_refused_929 C hr hstk  _ _ _ _ _ (by omega) (by omega) h)
                                                            · have h := h.2 hc_92
                                                              refine zm_iconst (v := 1) C dL_refused_925 (by decide) ?_
                                                              refine zm_goto (tgt := 930) C dL_refused_926 (by decide) ?_
                                                              exact zm_sub [0, 1, 3] rfl (vb_R_refused_930 C hr hstk  _ _ _ _ _ _ (by omega) (by omega) h)
def wb_R_refused_507 (Q : Int32 → MU → Prop) (x1 : Int64) (x3 : Int32) (x4 : Int32) (x5 : Int32) (u : MU) : Prop := ((x5 = 0) → wb_R_refused_929 Q x1 x4 u) ∧ ((¬ x5 = 0) → w_R_play (41 : Int32) u (fun r_2 u_3 => ((¬ r_2 = (-1001 : Int32)) → wb_R_refused_929 Q x1 x4 u_3) ∧ ((r_2 = (-1001 : Int32)) → w_R_position x3 (0 : Int32) (-1 : Int32) (1 : Int32) u_3 (fun r_5 u_6 => ((¬ r_5 = (-1001 : Int32)) → wb_R_refused_929 Q x1 x4 u_6) ∧ ((r_5 = (-1001 : Int32)) → w_R_position (0 : Int32) (0 : Int32) (-1 : Int32) (1 : Int32) u_6 (fun r_8 u_9 => ((¬ r_8 = (-1001 : Int32)) → wb_R_refused_929 Q x1 x4 u_9) ∧ ((r_8 = (-1001 : Int32)) → ((¬ x4 = (1 : Int32)) → wb_R_refused_566 Q x1 x3 x4 (-1 : Int32) (1 : Int32) (0 : Int32) u_9) ∧ ((x4 = (1 : Int32)) → wb_R_refused_566 Q x1 x3 x4 (2 : Int32) (1 : Int32) (0 : Int32) u_9))))))))
set_option maxHeartbeats 4000000 in
set_option maxRecDepth 100000 in
theorem vb_R_refused_507 {p : Program} {l : Launch} {e : Env} {s : State} {m : MethodId} {args : Array Value} {below : List Frame} {meth : Method} {c : Code} {g : GE} {W : MU × ((Nat → Int64) × (Nat → UInt64))} {Q : Int32 → MU → Prop} (C : zCx p l s m args meth c g RL cL_refused 6) (hr : meth.sig.returnType = (Option.some Jvm.ClassFile.FieldType.boolean)) (hstk : l.stackTraces = false) (x1 : Int64) (x3 : Int32) (x4 : Int32) (x5 : Int32) (u : MU) (cz sz : Nat) (hz : cz + 931 + 0 ≤ 1702) (hs : sz + 6 * (931 + 0) ≤ 10212) (h : wb_R_refused_507 Q x1 x3 x4 x5 u) : WM p l e rm_L_refused s m args below meth c g 6 cz sz (MQ below (zQi g (zPx W Q)) args s 1702 10212 (zA g)) 507 [(0, .ref (g.2.2.1 0)), (1, .long x1), (3, .int x3), (4, .int x4), (5, .int x5)] [] (u, W) := by
  unfold wb_R_refused_507 at h
  refine zm_iload C dL_refused_507 4 rfl ?_
  refine zm_if_eq (tgt := 929) C dL_refused_509 (by decide) (fun hc_1 => ?_) (fun hc_1 => ?_)
  · have h := h.1 hc_1
    exact zm_sub [0, 1, 3] rfl (vb_R_refused_929 C hr hstk  _ _ _ _ _ (by omega) (by omega) h)
  · have h := h.2 hc_1
    refine zm_aload_n C dL_refused_512 rfl 0 rfl ?_
    refine zm_bipush (v := 41) C dL_refused_513 (by decide) ?_
    refine zm_ci (zr_SW (As := [.ref (g.2.2.1 0), .int (41 : Int32)]) (rest := []) C (c_L_play l hstk _ u W (41 : Int32) h) wd_1104 wd_1105 wd_0 wd_1106 hz_L_play rfl rfl ⟨by decide, by decide⟩ ⟨(show cz + 1 ≤ 1702 by omega), (show sz + 6 ≤ 10212 by omega)⟩ rfl rfl (Nat.le_of_ble_eq_true rfl) dL_refused_515) (fun r_2 M1 hq => ?_)
    obtain ⟨u_3, rfl, h⟩ := hq
    refine zm_sipush (v := -1001) C dL_refused_518 (by decide) ?_
    refine zm_icmp_ne (tgt := 929) C dL_refused_521 (by decide) (fun hc_4 => ?_) (fun hc_4 => ?_)
    · have h := h.1 hc_4
      exact zm_sub [0, 1, 3] rfl (vb_R_refused_929 C hr hstk  _ _ _ _ _ (by omega) (by omega) h)
    · have h := h.2 hc_4
      refine zm_aload_n C dL_refused_524 rfl 0 rfl ?_
      refine zm_iload_n C dL_refused_525 rfl 2 rfl ?_
      refine zm_iconst (v := 0) C dL_refused_526 (by decide) ?_
      refine zm_iconst (v := -1) C dL_refused_527 (by decide) ?_
      refine zm_iconst (v := 1) C dL_refused_528 (by decide) ?_
      refine zm_ci (zr_SW (As := [.ref (g.2.2.1 0), .int x3, .int (0 : Int32), .int (-1 : Int32), .int (1 : Int32)]) (rest := []) C (c_L_position l hstk _ u_3 W x3 (0 : Int32) (-1 : Int32) (1 : Int32) h) wd_1393 wd_1394 wd_0 wd_1395 hz_L_position rfl rfl ⟨by decide, by decide⟩ ⟨(show (cz + 1) + 1 ≤ 1702 by omega), (show (sz + 6) + 6 ≤ 10212 by omega)⟩ rfl rfl (Nat.le_of_ble_eq_true rfl) dL_refused_529) (fun r_5 M1 hq => ?_)
      obtain ⟨u_6, rfl, h⟩ := hq
      refine zm_sipush (v := -1001) C dL_refused_532 (by decide) ?_
      refine zm_icmp_ne (tgt := 929) C dL_refused_535 (by decide) (fun hc_7 => ?_) (fun hc_7 => ?_)
      · have h := h.1 hc_7
        exact zm_sub [0, 1, 3] rfl (vb_R_refused_929 C hr hstk  _ _ _ _ _ (by omega) (by omega) h)
      · have h := h.2 hc_7
        refine zm_aload_n C dL_refused_538 rfl 0 rfl ?_
        refine zm_iconst (v := 0) C dL_refused_539 (by decide) ?_
        refine zm_iconst (v := 0) C dL_refused_540 (by decide) ?_
        refine zm_iconst (v := -1) C dL_refused_541 (by decide) ?_
        refine zm_iconst (v := 1) C dL_refused_542 (by decide) ?_
        refine zm_ci (zr_SW (As := [.ref (g.2.2.1 0), .int (0 : Int32), .int (0 : Int32), .int (-1 : Int32), .int (1 : Int32)]) (rest := []) C (c_L_position l hstk _ u_6 W (0 : Int32) (0 : Int32) (-1 : Int32) (1 : Int32) h) wd_1393 wd_1394 wd_0 wd_1395 hz_L_position rfl rfl ⟨by decide, by decide⟩ ⟨(show (cz + 2) + 1 ≤ 1702 by omega), (show (sz + 12) + 6 ≤ 10212 by omega)⟩ rfl rfl (Nat.le_of_ble_eq_true rfl) dL_refused_543) (fun r_8 M1 hq => ?_)
        obtain ⟨u_9, rfl, h⟩ := hq
        refine zm_sipush (v := -1001) C dL_refused_546 (by decide) ?_
        refine zm_icmp_ne (tgt := 929) C dL_refused_549 (by decide) (fun hc_10 => ?_) (fun hc_10 => ?_)
        · have h := h.1 hc_10
          exact zm_sub [0, 1, 3] rfl (vb_R_refused_929 C hr hstk  _ _ _ _ _ (by omega) (by omega) h)
        · have h := h.2 hc_10
          refine zm_aload_n C dL_refused_552 rfl 0 rfl ?_
          refine zm_iconst (v := 0) C dL_refused_553 (by decide) ?_
          refine zm_iconst (v := 1) C dL_refused_554 (by decide) ?_
          refine zm_iload C dL_refused_555 3 rfl ?_
          refine zm_iconst (v := 1) C dL_refused_557 (by decide) ?_
          refine zm_icmp_ne (tgt := 565) C dL_refused_558 (by decide) (fun hc_11 => ?_) (fun hc_11 => ?_)
          · have h := h.1 hc_11
            refine zm_iconst (v := -1) C dL_refused_565 (by decide) ?_
            exact zm_sub [0, 1, 2, 3] rfl (vb_R_refused_566 C hr hstk  _ _ _ _ _ _ _ _ _ (by omega) (by omega) h)
          · have h := h.2 hc_11
            refine zm_iconst (v := 2) C dL_refused_561 (by decide) ?_
            refine zm_goto (tgt := 566) C dL_refused_562 (by decide) ?_
            exact zm_sub [0, 1, 2, 3] rfl (vb_R_refused_566 C hr hstk  _ _ _ _ _ _ _ _ _ (by omega) (by omega) h)
def wb_R_refused_505 (Q : Int32 → MU → Prop) (x1 : Int64) (x3 : Int32) (x4 : Int32) (s0 : Int32) (u : MU) : Prop := wb_R_refused_507 Q x1 x3 x4 s0 u
set_option maxHeartbeats 4000000 in
set_option maxRecDepth 100000 in
theorem vb_R_refused_505 {p : Program} {l : Launch} {e : Env} {s : State} {m : MethodId} {args : Array Value} {below : List Frame} {meth : Method} {c : Code} {g : GE} {W : MU × ((Nat → Int64) × (Nat → UInt64))} {Q : Int32 → MU → Prop} (C : zCx p l s m args meth c g RL cL_refused 6) (hr : meth.sig.returnType = (Option.some Jvm.ClassFile.FieldType.boolean)) (hstk : l.stackTraces = false) (x1 : Int64) (x3 : Int32) (x4 : Int32) (s0 : Int32) (u : MU) (cz sz : Nat) (hz : cz + 931 + 0 ≤ 1702) (hs : sz + 6 * (931 + 0) ≤ 10212) (h : wb_R_refused_505 Q x1 x3 x4 s0 u) : WM p l e rm_L_refused s m args below meth c g 6 cz sz (MQ below (zQi g (zPx W Q)) args s 1702 10212 (zA g)) 505 [(0, .ref (g.2.2.1 0)), (1, .long x1), (3, .int x3), (4, .int x4)] [.int s0] (u, W) := by
  unfold wb_R_refused_505 at h
  refine zm_istore (lv' := [(5, .int s0), (0, .ref (g.2.2.1 0)), (1, .long x1), (3, .int x3), (4, .int x4)]) C dL_refused_505 (by decide) rfl ?_
  exact zm_sub [1, 2, 3, 4, 0] rfl (vb_R_refused_507 C hr hstk  _ _ _ _ _ _ _ (by omega) (by omega) h)
def wb_R_refused_504 (Q : Int32 → MU → Prop) (x1 : Int64) (x3 : Int32) (x4 : Int32) (u : MU) : Prop := wb_R_refused_505 Q x1 x3 x4 (0 : Int32) u
set_option maxHeartbeats 4000000 in
set_option maxRecDepth 100000 in
theorem vb_R_refused_504 {p : Program} {l : Launch} {e : Env} {s : State} {m : MethodId} {args : Array Value} {below : List Frame} {meth : Method} {c : Code} {g : GE} {W : MU × ((Nat → Int64) × (Nat → UInt64))} {Q : Int32 → MU → Prop} (C : zCx p l s m args meth c g RL cL_refused 6) (hr : meth.sig.returnType = (Option.some Jvm.ClassFile.FieldType.boolean)) (hstk : l.stackTraces = false) (x1 : Int64) (x3 : Int32) (x4 : Int32) (u : MU) (cz sz : Nat) (hz : cz + 931 + 0 ≤ 1702) (hs : sz + 6 * (931 + 0) ≤ 10212) (h : wb_R_refused_504 Q x1 x3 x4 u) : WM p l e rm_L_refused s m args below meth c g 6 cz sz (MQ below (zQi g (zPx W Q)) args s 1702 10212 (zA g)) 504 [(0, .ref (g.2.2.1 0)), (1, .long x1), (3, .int x3), (4, .int x4)] [] (u, W) := by
  unfold wb_R_refused_504 at h
  refine zm_iconst (v := 0) C dL_refused_504 (by decide) ?_
  exact zm_sub [0, 1, 2, 3] rfl (vb_R_refused_505 C hr hstk  _ _ _ _ _ _ _ (by omega) (by omega) h)
def wb_R_refused_420 (Q : Int32 → MU → Prop) (x1 : Int64) (x3 : Int32) (x4 : Int32) (s0 : Int32) (u : MU) : Prop := w_R_now  u (fun r_1 u_2 => ((0 ≤ r_1) → wb_R_refused_507 Q x1 x3 x4 s0 u_2) ∧ ((¬ 0 ≤ r_1) → ((s0 = 0) → wb_R_refused_504 Q x1 x3 x4 u_2) ∧ ((¬ s0 = 0) → w_R_move (0 : Int32) (1 : Int32) u_2 (fun r_5 u_6 => ((¬ r_5 = (-1001 : Int32)) → wb_R_refused_504 Q x1 x3 x4 u_6) ∧ ((r_5 = (-1001 : Int32)) → w_R_is (8 : Int32) (0 : Int32) (0 : Int32) u_6 (fun r_8 u_9 => ((r_8 = 0) → wb_R_refused_504 Q x1 x3 x4 u_9) ∧ ((¬ r_8 = 0) → w_R_play (1 : Int32) u_9 (fun r_11 u_12 => ((¬ r_11 = (-1001 : Int32)) → wb_R_refused_504 Q x1 x3 x4 u_12) ∧ ((r_11 = (-1001 : Int32)) → w_R_is (8 : Int32) (0 : Int32) (0 : Int32) u_12 (fun r_14 u_15 => ((r_14 = 0) → wb_R_refused_504 Q x1 x3 x4 u_15) ∧ ((¬ r_14 = 0) → w_R_back  u_15 (fun r_17 u_18 => ((¬ r_17 = (-1001 : Int32)) → wb_R_refused_504 Q x1 x3 x4 u_18) ∧ ((r_17 = (-1001 : Int32)) → w_R_is (8 : Int32) (0 : Int32) (0 : Int32) u_18 (fun r_20 u_21 => ((r_20 = 0) → wb_R_refused_504 Q x1 x3 x4 u_21) ∧ ((¬ r_20 = 0) → wb_R_refused_505 Q x1 x3 x4 (1 : Int32) u_21)))))))))))))))
set_option maxHeartbeats 4000000 in
set_option maxRecDepth 100000 in
theorem vb_R_refused_420 {p : Program} {l : Launch} {e : Env} {s : State} {m : MethodId} {args : Array Value} {below : List Frame} {meth : Method} {c : Code} {g : GE} {W : MU × ((Nat → Int64) × (Nat → UInt64))} {Q : Int32 → MU → Prop} (C : zCx p l s m args meth c g RL cL_refused 6) (hr : meth.sig.returnType = (Option.some Jvm.ClassFile.FieldType.boolean)) (hstk : l.stackTraces = false) (x1 : Int64) (x3 : Int32) (x4 : Int32) (s0 : Int32) (u : MU) (cz sz : Nat) (hz : cz + 944 + 0 ≤ 1702) (hs : sz + 6 * (944 + 0) ≤ 10212) (h : wb_R_refused_420 Q x1 x3 x4 s0 u) : WM p l e rm_L_refused s m args below meth c g 6 cz sz (MQ below (zQi g (zPx W Q)) args s 1702 10212 (zA g)) 420 [(0, .ref (g.2.2.1 0)), (1, .long x1), (3, .int x3), (4, .int x4)] [.int s0] (u, W) := by
  unfold wb_R_refused_420 at h
  refine zm_istore (lv' := [(5, .int s0), (0, .ref (g.2.2.1 0)), (1, .long x1), (3, .int x3), (4, .int x4)]) C dL_refused_420 (by decide) rfl ?_
  refine zm_aload_n C dL_refused_422 rfl 1 rfl ?_
  refine zm_ci (zr_SW (As := [.ref (g.2.2.1 0)]) (rest := []) C (c_L_now l hstk _ u W  h) wd_1086 wd_1087 wd_0 wd_1088 hz_L_now rfl rfl ⟨by decide, by decide⟩ ⟨(show cz + 1 ≤ 1702 by omega), (show sz + 6 ≤ 10212 by omega)⟩ rfl rfl (Nat.le_of_ble_eq_true rfl) dL_refused_423) (fun r_1 M1 hq => ?_)
  obtain ⟨u_2, rfl, h⟩ := hq
  refine zm_if_ge (tgt := 507) C dL_refused_426 (by decide) (fun hc_3 => ?_) (fun hc_3 => ?_)
  · have h := h.1 hc_3
    exact zm_sub [1, 2, 3, 4, 0] rfl (vb_R_refused_507 C hr hstk  _ _ _ _ _ _ _ (by omega) (by omega) h)
  · have h := h.2 hc_3
    refine zm_iload C dL_refused_429 0 rfl ?_
    refine zm_if_eq (tgt := 504) C dL_refused_431 (by decide) (fun hc_4 => ?_) (fun hc_4 => ?_)
    · have h := h.1 hc_4
      exact zm_sub [1, 2, 3, 4] rfl (vb_R_refused_504 C hr hstk  _ _ _ _ _ _ (by omega) (by omega) h)
    · have h := h.2 hc_4
      refine zm_aload_n C dL_refused_434 rfl 1 rfl ?_
      refine zm_iconst (v := 0) C dL_refused_435 (by decide) ?_
      refine zm_iconst (v := 1) C dL_refused_436 (by decide) ?_
      refine zm_ci (zr_SW (As := [.ref (g.2.2.1 0), .int (0 : Int32), .int (1 : Int32)]) (rest := []) C (c_L_move l hstk _ u_2 W (0 : Int32) (1 : Int32) h) wd_1383 wd_1384 wd_0 wd_1385 hz_L_move rfl rfl ⟨by decide, by decide⟩ ⟨(show (cz + 1) + 1 ≤ 1702 by omega), (show (sz + 6) + 6 ≤ 10212 by omega)⟩ rfl rfl (Nat.le_of_ble_eq_true rfl) dL_refused_437) (fun r_5 M1 hq => ?_)
      obtain ⟨u_6, rfl, h⟩ := hq
      refine zm_sipush (v := -1001) C dL_refused_440 (by decide) ?_
      refine zm_icmp_ne (tgt := 504) C dL_refused_443 (by decide) (fun hc_7 => ?_) (fun hc_7 => ?_)
      · have h := h.1 hc_7
        exact zm_sub [1, 2, 3, 4] rfl (vb_R_refused_504 C hr hstk  _ _ _ _ _ _ (by omega) (by omega) h)
      · have h := h.2 hc_7
        refine zm_aload_n C dL_refused_446 rfl 1 rfl ?_
        refine zm_bipush (v := 8) C dL_refused_447 (by decide) ?_
        refine zm_iconst (v := 0) C dL_refused_449 (by decide) ?_
        refine zm_iconst (v := 0) C dL_refused_450 (by decide) ?_
        refine zm_ci (zr_S (As := [.ref (g.2.2.1 0), .int (8 : Int32), .int (0 : Int32), .int (0 : Int32)]) (rest := []) C (c_L_is l hstk _ u_6 W (8 : Int32) (0 : Int32) (0 : Int32) h) wd_863 wd_864 wd_0 wd_865 hy_L_is rfl rfl ⟨by decide, by decide⟩ ⟨(show (cz + 2) + 3 ≤ 1702 by omega), (show (sz + 12) + 18 ≤ 10212 by omega)⟩ rfl rfl (Nat.le_of_ble_eq_true rfl) dL_refused_451) (fun r_8 M1 hq => ?_)
        obtain ⟨u_9, rfl, h⟩ := hq
        refine zm_if_eq (tgt := 504) C dL_refused_454 (by decide) (fun hc_10 => ?_) (fun hc_10 => ?_)
        · have h := h.1 hc_10
          exact zm_sub [1, 2, 3, 4] rfl (vb_R_refused_504 C hr hstk  _ _ _ _ _ _ (by omega) (by omega) h)
        · have h := h.2 hc_10
          refine zm_aload_n C dL_refused_457 rfl 1 rfl ?_
          refine zm_iconst (v := 1) C dL_refused_458 (by decide) ?_
          refine zm_ci (zr_SW (As := [.ref (g.2.2.1 0), .int (1 : Int32)]) (rest := []) C (c_L_play l hstk _ u_9 W (1 : Int32) h) wd_1104 wd_1105 wd_0 wd_1106 hz_L_play rfl rfl ⟨by decide, by decide⟩ ⟨(show (cz + 5) + 1 ≤ 1702 by omega), (show (sz + 30) + 6 ≤ 10212 by omega)⟩ rfl rfl (Nat.le_of_ble_eq_true rfl) dL_refused_459) (fun r_11 M1 hq => ?_)
          obtain ⟨u_12, rfl, h⟩ := hq
          refine zm_sipush (v := -1001) C dL_refused_462 (by decide) ?_
          refine zm_icmp_ne (tgt := 504) C dL_refused_465 (by decide) (fun hc_13 => ?_) (fun hc_13 => ?_)
          · have h := h.1 hc_13
            exact zm_sub [1, 2, 3, 4] rfl (vb_R_refused_504 C hr hstk  _ _ _ _ _ _ (by omega) (by omega) h)
          · have h := h.2 hc_13
            refine zm_aload_n C dL_refused_468 rfl 1 rfl ?_
            refine zm_bipush (v := 8) C dL_refused_469 (by decide) ?_
            refine zm_iconst (v := 0) C dL_refused_471 (by decide) ?_
            refine zm_iconst (v := 0) C dL_refused_472 (by decide) ?_
            refine zm_ci (zr_S (As := [.ref (g.2.2.1 0), .int (8 : Int32), .int (0 : Int32), .int (0 : Int32)]) (rest := []) C (c_L_is l hstk _ u_12 W (8 : Int32) (0 : Int32) (0 : Int32) h) wd_863 wd_864 wd_0 wd_865 hy_L_is rfl rfl ⟨by decide, by decide⟩ ⟨(show (cz + 6) + 3 ≤ 1702 by omega), (show (sz + 36) + 18 ≤ 10212 by omega)⟩ rfl rfl (Nat.le_of_ble_eq_true rfl) dL_refused_473) (fun r_14 M1 hq => ?_)
            obtain ⟨u_15, rfl, h⟩ := hq
            refine zm_if_eq (tgt := 504) C dL_refused_476 (by decide) (fun hc_16 => ?_) (fun hc_16 => ?_)
            · have h := h.1 hc_16
              exact zm_sub [1, 2, 3, 4] rfl (vb_R_refused_504 C hr hstk  _ _ _ _ _ _ (by omega) (by omega) h)
            · have h := h.2 hc_16
              refine zm_aload_n C dL_refused_479 rfl 1 rfl ?_
              refine zm_ci (zr_SW (As := [.ref (g.2.2.1 0)]) (rest := []) C (c_L_back l hstk _ u_15 W  h) wd_1111 wd_1112 wd_0 wd_1113 hz_L_back rfl rfl ⟨by decide, by decide⟩ ⟨(show (cz + 9) + 1 ≤ 1702 by omega), (show (sz + 54) + 6 ≤ 10212 by omega)⟩ rfl rfl (Nat.le_of_ble_eq_true rfl) dL_refused_480) (fun r_17 M1 hq => ?_)
              obtain ⟨u_18, rfl, h⟩ := hq
              refine zm_sipush (v := -1001) C dL_refused_483 (by decide) ?_
              refine zm_icmp_ne (tgt := 504) C dL_refused_486 (by decide) (fun hc_19 => ?_) (fun hc_19 => ?_)
              · have h := h.1 hc_19
                exact zm_sub [1, 2, 3, 4] rfl (vb_R_refused_504 C hr hstk  _ _ _ _ _ _ (by omega) (by omega) h)
              · have h := h.2 hc_19
                refine zm_aload_n C dL_refused_489 rfl 1 rfl ?_
                refine zm_bipush (v := 8) C dL_refused_490 (by decide) ?_
                refine zm_iconst (v := 0) C dL_refused_492 (by decide) ?_
                refine zm_iconst (v := 0) C dL_refused_493 (by decide) ?_
                refine zm_ci (zr_S (As := [.ref (g.2.2.1 0), .int (8 : Int32), .int (0 : Int32), .int (0 : Int32)]) (rest := []) C (c_L_is l hstk _ u_18 W (8 : Int32) (0 : Int32) (0 : Int32) h) wd_863 wd_864 wd_0 wd_865 hy_L_is rfl rfl ⟨by decide, by decide⟩ ⟨(show (cz + 10) + 3 ≤ 1702 by omega), (show (sz + 60) + 18 ≤ 10212 by omega)⟩ rfl rfl (Nat.le_of_ble_eq_true rfl) dL_refused_494) (fun r_20 M1 hq => ?_)
                obtain ⟨u_21, rfl, h⟩ := hq
                refine zm_if_eq (tgt := 504) C dL_refused_497 (by decide) (fun hc_22 => ?_) (fun hc_22 => ?_)
                · have h := h.1 hc_22
                  exact zm_sub [1, 2, 3, 4] rfl (vb_R_refused_504 C hr hstk  _ _ _ _ _ _ (by omega) (by omega) h)
                · have h := h.2 hc_22
                  refine zm_iconst (v := 1) C dL_refused_500 (by decide) ?_
                  refine zm_goto (tgt := 505) C dL_refused_501 (by decide) ?_
                  exact zm_sub [1, 2, 3, 4] rfl (vb_R_refused_505 C hr hstk  _ _ _ _ _ _ _ (by omega) (by omega) h)
def wb_R_refused_419 (Q : Int32 → MU → Prop) (x1 : Int64) (x3 : Int32) (x4 : Int32) (u : MU) : Prop := wb_R_refused_420 Q x1 x3 x4 (0 : Int32) u
set_option maxHeartbeats 4000000 in
set_option maxRecDepth 100000 in
theorem vb_R_refused_419 {p : Program} {l : Launch} {e : Env} {s : State} {m : MethodId} {args : Array Value} {below : List Frame} {meth : Method} {c : Code} {g : GE} {W : MU × ((Nat → Int64) × (Nat → UInt64))} {Q : Int32 → MU → Prop} (C : zCx p l s m args meth c g RL cL_refused 6) (hr : meth.sig.returnType = (Option.some Jvm.ClassFile.FieldType.boolean)) (hstk : l.stackTraces = false) (x1 : Int64) (x3 : Int32) (x4 : Int32) (u : MU) (cz sz : Nat) (hz : cz + 944 + 0 ≤ 1702) (hs : sz + 6 * (944 + 0) ≤ 10212) (h : wb_R_refused_419 Q x1 x3 x4 u) : WM p l e rm_L_refused s m args below meth c g 6 cz sz (MQ below (zQi g (zPx W Q)) args s 1702 10212 (zA g)) 419 [(0, .ref (g.2.2.1 0)), (1, .long x1), (3, .int x3), (4, .int x4)] [] (u, W) := by
  unfold wb_R_refused_419 at h
  refine zm_iconst (v := 0) C dL_refused_419 (by decide) ?_
  exact zm_sub [0, 1, 2, 3] rfl (vb_R_refused_420 C hr hstk  _ _ _ _ _ _ _ (by omega) (by omega) h)
def wb_R_refused_213 (Q : Int32 → MU → Prop) (x1 : Int64) (x3 : Int32) (x4 : Int32) (s0 : Int32) (s1 : Int32) (u : MU) : Prop := w_R_trap s1 s0 u (fun r_1 u_2 => ((¬ r_1 = (-1001 : Int32)) → wb_R_refused_419 Q x1 x3 x4 u_2) ∧ ((r_1 = (-1001 : Int32)) → w_R_is (5 : Int32) (0 : Int32) (0 : Int32) u_2 (fun r_4 u_5 => ((r_4 = 0) → wb_R_refused_419 Q x1 x3 x4 u_5) ∧ ((¬ r_4 = 0) → w_R_flock (0 : Int32) u_5 (fun r_7 u_8 => ((¬ r_7 = (-1001 : Int32)) → wb_R_refused_419 Q x1 x3 x4 u_8) ∧ ((r_7 = (-1001 : Int32)) → w_R_is (1 : Int32) (0 : Int32) (0 : Int32) u_8 (fun r_10 u_11 => ((r_10 = 0) → wb_R_refused_419 Q x1 x3 x4 u_11) ∧ ((¬ r_10 = 0) → w_R_flock (3 : Int32) u_11 (fun r_13 u_14 => ((¬ r_13 = (-1001 : Int32)) → wb_R_refused_419 Q x1 x3 x4 u_14) ∧ ((r_13 = (-1001 : Int32)) → w_R_is (1 : Int32) (0 : Int32) (0 : Int32) u_14 (fun r_16 u_17 => ((r_16 = 0) → wb_R_refused_419 Q x1 x3 x4 u_17) ∧ ((¬ r_16 = 0) → w_R_flock x4 u_17 (fun r_19 u_20 => ((¬ r_19 = (-1001 : Int32)) → wb_R_refused_419 Q x1 x3 x4 u_20) ∧ ((r_19 = (-1001 : Int32)) → w_R_is (5 : Int32) (0 : Int32) (0 : Int32) u_20 (fun r_22 u_23 => ((r_22 = 0) → wb_R_refused_419 Q x1 x3 x4 u_23) ∧ ((¬ r_22 = 0) → w_R_begin (0 : Int32) u_23 (fun r_25 u_26 => ((¬ r_25 = (-1001 : Int32)) → wb_R_refused_419 Q x1 x3 x4 u_26) ∧ ((r_25 = (-1001 : Int32)) → w_R_is (7 : Int32) (0 : Int32) (0 : Int32) u_26 (fun r_28 u_29 => ((r_28 = 0) → wb_R_refused_419 Q x1 x3 x4 u_29) ∧ ((¬ r_28 = 0) → w_R_begin (-5 : Int32) u_29 (fun r_31 u_32 => ((¬ r_31 = (-1001 : Int32)) → wb_R_refused_419 Q x1 x3 x4 u_32) ∧ ((r_31 = (-1001 : Int32)) → w_R_is (7 : Int32) (-5 : Int32) (0 : Int32) u_32 (fun r_34 u_35 => ((r_34 = 0) → wb_R_refused_419 Q x1 x3 x4 u_35) ∧ ((¬ r_34 = 0) → w_R_begin ((162 : Int32) * x3) u_35 (fun r_37 u_38 => ((¬ r_37 = (-1001 : Int32)) → wb_R_refused_419 Q x1 x3 x4 u_38) ∧ ((r_37 = (-1001 : Int32)) → w_R_is (7 : Int32) ((162 : Int32) * x3) (0 : Int32) u_38 (fun r_40 u_41 => ((r_40 = 0) → wb_R_refused_419 Q x1 x3 x4 u_41) ∧ ((¬ r_40 = 0) → w_R_play (0 : Int32) u_41 (fun r_43 u_44 => ((¬ r_43 = (-1001 : Int32)) → wb_R_refused_419 Q x1 x3 x4 u_44) ∧ ((r_43 = (-1001 : Int32)) → w_R_is (1 : Int32) (0 : Int32) (0 : Int32) u_44 (fun r_46 u_47 => ((r_46 = 0) → wb_R_refused_419 Q x1 x3 x4 u_47) ∧ ((¬ r_46 = 0) → w_R_play (41 : Int32) u_47 (fun r_49 u_50 => ((¬ r_49 = (-1001 : Int32)) → wb_R_refused_419 Q x1 x3 x4 u_50) ∧ ((r_49 = (-1001 : Int32)) → w_R_is (1 : Int32) (0 : Int32) (0 : Int32) u_50 (fun r_52 u_53 => ((r_52 = 0) → wb_R_refused_419 Q x1 x3 x4 u_53) ∧ ((¬ r_52 = 0) → wb_R_refused_420 Q x1 x3 x4 (1 : Int32) u_53))))))))))))))))))))))))))))))))))))
set_option maxHeartbeats 4000000 in
set_option maxRecDepth 100000 in
theorem vb_R_refused_213 {p : Program} {l : Launch} {e : Env} {s : State} {m : MethodId} {args : Array Value} {below : List Frame} {meth : Method} {c : Code} {g : GE} {W : MU × ((Nat → Int64) × (Nat → UInt64))} {Q : Int32 → MU → Prop} (C : zCx p l s m args meth c g RL cL_refused 6) (hr : meth.sig.returnType = (Option.some Jvm.ClassFile.FieldType.boolean)) (hstk : l.stackTraces = false) (x1 : Int64) (x3 : Int32) (x4 : Int32) (s0 : Int32) (s1 : Int32) (u : MU) (cz sz : Nat) (hz : cz + 980 + 0 ≤ 1702) (hs : sz + 6 * (980 + 0) ≤ 10212) (h : wb_R_refused_213 Q x1 x3 x4 s0 s1 u) : WM p l e rm_L_refused s m args below meth c g 6 cz sz (MQ below (zQi g (zPx W Q)) args s 1702 10212 (zA g)) 213 [(0, .ref (g.2.2.1 0)), (1, .long x1), (3, .int x3), (4, .int x4)] [.int s0, .int s1, .ref (g.2.2.1 0)] (u, W) := by
  unfold wb_R_refused_213 at h
  refine zm_ci (zr_SW (As := [.ref (g.2.2.1 0), .int s1, .int s0]) (rest := []) C (c_L_trap l hstk _ u W s1 s0 h) wd_897 wd_898 wd_0 wd_899 hz_L_trap rfl rfl ⟨by decide, by decide⟩ ⟨(show cz + 1 ≤ 1702 by omega), (show sz + 6 ≤ 10212 by omega)⟩ rfl rfl (Nat.le_of_ble_eq_true rfl) dL_refused_213) (fun r_1 M1 hq => ?_)
  obtain ⟨u_2, rfl, h⟩ := hq
  refine zm_sipush (v := -1001) C dL_refused_216 (by decide) ?_
  refine zm_icmp_ne (tgt := 419) C dL_refused_219 (by decide) (fun hc_3 => ?_) (fun hc_3 => ?_)
  · have h := h.1 hc_3
    exact zm_sub [0, 1, 2, 3] rfl (vb_R_refused_419 C hr hstk  _ _ _ _ _ _ (by omega) (by omega) h)
  · have h := h.2 hc_3
    refine zm_aload_n C dL_refused_222 rfl 0 rfl ?_
    refine zm_iconst (v := 5) C dL_refused_223 (by decide) ?_
    refine zm_iconst (v := 0) C dL_refused_224 (by decide) ?_
    refine zm_iconst (v := 0) C dL_refused_225 (by decide) ?_
    refine zm_ci (zr_S (As := [.ref (g.2.2.1 0), .int (5 : Int32), .int (0 : Int32), .int (0 : Int32)]) (rest := []) C (c_L_is l hstk _ u_2 W (5 : Int32) (0 : Int32) (0 : Int32) h) wd_863 wd_864 wd_0 wd_865 hy_L_is rfl rfl ⟨by decide, by decide⟩ ⟨(show (cz + 1) + 3 ≤ 1702 by omega), (show (sz + 6) + 18 ≤ 10212 by omega)⟩ rfl rfl (Nat.le_of_ble_eq_true rfl) dL_refused_226) (fun r_4 M1 hq => ?_)
    obtain ⟨u_5, rfl, h⟩ := hq
    refine zm_if_eq (tgt := 419) C dL_refused_229 (by decide) (fun hc_6 => ?_) (fun hc_6 => ?_)
    · have h := h.1 hc_6
      exact zm_sub [0, 1, 2, 3] rfl (vb_R_refused_419 C hr hstk  _ _ _ _ _ _ (by omega) (by omega) h)
    · have h := h.2 hc_6
      refine zm_aload_n C dL_refused_232 rfl 0 rfl ?_
      refine zm_iconst (v := 0) C dL_refused_233 (by decide) ?_
      refine zm_ci (zr_SW (As := [.ref (g.2.2.1 0), .int (0 : Int32)]) (rest := []) C (c_L_flock l hstk _ u_5 W (0 : Int32) h) wd_504 wd_505 wd_0 wd_506 hz_L_flock rfl rfl ⟨by decide, by decide⟩ ⟨(show (cz + 4) + 1 ≤ 1702 by omega), (show (sz + 24) + 6 ≤ 10212 by omega)⟩ rfl rfl (Nat.le_of_ble_eq_true rfl) dL_refused_234) (fun r_7 M1 hq => ?_)
      obtain ⟨u_8, rfl, h⟩ := hq
      refine zm_sipush (v := -1001) C dL_refused_237 (by decide) ?_
      refine zm_icmp_ne (tgt := 419) C dL_refused_240 (by decide) (fun hc_9 => ?_) (fun hc_9 => ?_)
      · have h := h.1 hc_9
        exact zm_sub [0, 1, 2, 3] rfl (vb_R_refused_419 C hr hstk  _ _ _ _ _ _ (by omega) (by omega) h)
      · have h := h.2 hc_9
        refine zm_aload_n C dL_refused_243 rfl 0 rfl ?_
        refine zm_iconst (v := 1) C dL_refused_244 (by decide) ?_
        refine zm_iconst (v := 0) C dL_refused_245 (by decide) ?_
        refine zm_iconst (v := 0) C dL_refused_246 (by decide) ?_
        refine zm_ci (zr_S (As := [.ref (g.2.2.1 0), .int (1 : Int32), .int (0 : Int32), .int (0 : Int32)]) (rest := []) C (c_L_is l hstk _ u_8 W (1 : Int32) (0 : Int32) (0 : Int32) h) wd_863 wd_864 wd_0 wd_865 hy_L_is rfl rfl ⟨by decide, by decide⟩ ⟨(show (cz + 5) + 3 ≤ 1702 by omega), (show (sz + 30) + 18 ≤ 10212 by omega)⟩ rfl rfl (Nat.le_of_ble_eq_true rfl) dL_refused_247) (fun r_10 M1 hq => ?_)
        obtain ⟨u_11, rfl, h⟩ := hq
        refine zm_if_eq (tgt := 419) C dL_refused_250 (by decide) (fun hc_12 => ?_) (fun hc_12 => ?_)
        · have h := h.1 hc_12
          exact zm_sub [0, 1, 2, 3] rfl (vb_R_refused_419 C hr hstk  _ _ _ _ _ _ (by omega) (by omega) h)
        · have h := h.2 hc_12
          refine zm_aload_n C dL_refused_253 rfl 0 rfl ?_
          refine zm_iconst (v := 3) C dL_refused_254 (by decide) ?_
          refine zm_ci (zr_SW (As := [.ref (g.2.2.1 0), .int (3 : Int32)]) (rest := []) C (c_L_flock l hstk _ u_11 W (3 : Int32) h) wd_504 wd_505 wd_0 wd_506 hz_L_flock rfl rfl ⟨by decide, by decide⟩ ⟨(show (cz + 8) + 1 ≤ 1702 by omega), (show (sz + 48) + 6 ≤ 10212 by omega)⟩ rfl rfl (Nat.le_of_ble_eq_true rfl) dL_refused_255) (fun r_13 M1 hq => ?_)
          obtain ⟨u_14, rfl, h⟩ := hq
          refine zm_sipush (v := -1001) C dL_refused_258 (by decide) ?_
          refine zm_icmp_ne (tgt := 419) C dL_refused_261 (by decide) (fun hc_15 => ?_) (fun hc_15 => ?_)
          · have h := h.1 hc_15
            exact zm_sub [0, 1, 2, 3] rfl (vb_R_refused_419 C hr hstk  _ _ _ _ _ _ (by omega) (by omega) h)
          · have h := h.2 hc_15
            refine zm_aload_n C dL_refused_264 rfl 0 rfl ?_
            refine zm_iconst (v := 1) C dL_refused_265 (by decide) ?_
            refine zm_iconst (v := 0) C dL_refused_266 (by decide) ?_
            refine zm_iconst (v := 0) C dL_refused_267 (by decide) ?_
            refine zm_ci (zr_S (As := [.ref (g.2.2.1 0), .int (1 : Int32), .int (0 : Int32), .int (0 : Int32)]) (rest := []) C (c_L_is l hstk _ u_14 W (1 : Int32) (0 : Int32) (0 : Int32) h) wd_863 wd_864 wd_0 wd_865 hy_L_is rfl rfl ⟨by decide, by decide⟩ ⟨(show (cz + 9) + 3 ≤ 1702 by omega), (show (sz + 54) + 18 ≤ 10212 by omega)⟩ rfl rfl (Nat.le_of_ble_eq_true rfl) dL_refused_268) (fun r_16 M1 hq => ?_)
            obtain ⟨u_17, rfl, h⟩ := hq
            refine zm_if_eq (tgt := 419) C dL_refused_271 (by decide) (fun hc_18 => ?_) (fun hc_18 => ?_)
            · have h := h.1 hc_18
              exact zm_sub [0, 1, 2, 3] rfl (vb_R_refused_419 C hr hstk  _ _ _ _ _ _ (by omega) (by omega) h)
            · have h := h.2 hc_18
              refine zm_aload_n C dL_refused_274 rfl 0 rfl ?_
              refine zm_iload C dL_refused_275 3 rfl ?_
              refine zm_ci (zr_SW (As := [.ref (g.2.2.1 0), .int x4]) (rest := []) C (c_L_flock l hstk _ u_17 W x4 h) wd_504 wd_505 wd_0 wd_506 hz_L_flock rfl rfl ⟨by decide, by decide⟩ ⟨(show (cz + 12) + 1 ≤ 1702 by omega), (show (sz + 72) + 6 ≤ 10212 by omega)⟩ rfl rfl (Nat.le_of_ble_eq_true rfl) dL_refused_277) (fun r_19 M1 hq => ?_)
              obtain ⟨u_20, rfl, h⟩ := hq
              refine zm_sipush (v := -1001) C dL_refused_280 (by decide) ?_
              refine zm_icmp_ne (tgt := 419) C dL_refused_283 (by decide) (fun hc_21 => ?_) (fun hc_21 => ?_)
              · have h := h.1 hc_21
                exact zm_sub [0, 1, 2, 3] rfl (vb_R_refused_419 C hr hstk  _ _ _ _ _ _ (by omega) (by omega) h)
              · have h := h.2 hc_21
                refine zm_aload_n C dL_refused_286 rfl 0 rfl ?_
                refine zm_iconst (v := 5) C dL_refused_287 (by decide) ?_
                refine zm_iconst (v := 0) C dL_refused_288 (by decide) ?_
                refine zm_iconst (v := 0) C dL_refused_289 (by decide) ?_
                refine zm_ci (zr_S (As := [.ref (g.2.2.1 0), .int (5 : Int32), .int (0 : Int32), .int (0 : Int32)]) (rest := []) C (c_L_is l hstk _ u_20 W (5 : Int32) (0 : Int32) (0 : Int32) h) wd_863 wd_864 wd_0 wd_865 hy_L_is rfl rfl ⟨by decide, by decide⟩ ⟨(show (cz + 13) + 3 ≤ 1702 by omega), (show (sz + 78) + 18 ≤ 10212 by omega)⟩ rfl rfl (Nat.le_of_ble_eq_true rfl) dL_refused_290) (fun r_22 M1 hq => ?_)
                obtain ⟨u_23, rfl, h⟩ := hq
                refine zm_if_eq (tgt := 419) C dL_refused_293 (by decide) (fun hc_24 => ?_) (fun hc_24 => ?_)
                · have h := h.1 hc_24
                  exact zm_sub [0, 1, 2, 3] rfl (vb_R_refused_419 C hr hstk  _ _ _ _ _ _ (by omega) (by omega) h)
                · have h := h.2 hc_24
                  refine zm_aload_n C dL_refused_296 rfl 0 rfl ?_
                  refine zm_iconst (v := 0) C dL_refused_297 (by decide) ?_
                  refine zm_ci (zr_SW (As := [.ref (g.2.2.1 0), .int (0 : Int32)]) (rest := []) C (c_L_begin l hstk _ u_23 W (0 : Int32) h) wd_1097 wd_1098 wd_0 wd_1099 hz_L_begin rfl rfl ⟨by decide, by decide⟩ ⟨(show (cz + 16) + 1 ≤ 1702 by omega), (show (sz + 96) + 6 ≤ 10212 by omega)⟩ rfl rfl (Nat.le_of_ble_eq_true rfl) dL_refused_298) (fun r_25 M1 hq => ?_)
                  obtain ⟨u_26, rfl, h⟩ := hq
                  refine zm_sipush (v := -1001) C dL_refused_301 (by decide) ?_
                  refine zm_icmp_ne (tgt := 419) C dL_refused_304 (by decide) (fun hc_27 => ?_) (fun hc_27 => ?_)
                  · have h := h.1 hc_27
                    exact zm_sub [0, 1, 2, 3] rfl (vb_R_refused_419 C hr hstk  _ _ _ _ _ _ (by omega) (by omega) h)
                  · have h := h.2 hc_27
                    refine zm_aload_n C dL_refused_307 rfl 0 rfl ?_
                    refine zm_bipush (v := 7) C dL_refused_308 (by decide) ?_
                    refine zm_iconst (v := 0) C dL_refused_310 (by decide) ?_
                    refine zm_iconst (v := 0) C dL_refused_311 (by decide) ?_
                    refine zm_ci (zr_S (As := [.ref (g.2.2.1 0), .int (7 : Int32), .int (0 : Int32), .int (0 : Int32)]) (rest := []) C (c_L_is l hstk _ u_26 W (7 : Int32) (0 : Int32) (0 : Int32) h) wd_863 wd_864 wd_0 wd_865 hy_L_is rfl rfl ⟨by decide, by decide⟩ ⟨(show (cz + 17) + 3 ≤ 1702 by omega), (show (sz + 102) + 18 ≤ 10212 by omega)⟩ rfl rfl (Nat.le_of_ble_eq_true rfl) dL_refused_312) (fun r_28 M1 hq => ?_)
                    obtain ⟨u_29, rfl, h⟩ := hq
                    refine zm_if_eq (tgt := 419) C dL_refused_315 (by decide) (fun hc_30 => ?_) (fun hc_30 => ?_)
                    · have h := h.1 hc_30
                      exact zm_sub [0, 1, 2, 3] rfl (vb_R_refused_419 C hr hstk  _ _ _ _ _ _ (by omega) (by omega) h)
                    · have h := h.2 hc_30
                      refine zm_aload_n C dL_refused_318 rfl 0 rfl ?_
                      refine zm_bipush (v := -5) C dL_refused_319 (by decide) ?_
                      refine zm_ci (zr_SW (As := [.ref (g.2.2.1 0), .int (-5 : Int32)]) (rest := []) C (c_L_begin l hstk _ u_29 W (-5 : Int32) h) wd_1097 wd_1098 wd_0 wd_1099 hz_L_begin rfl rfl ⟨by decide, by decide⟩ ⟨(show (cz + 20) + 1 ≤ 1702 by omega), (show (sz + 120) + 6 ≤ 10212 by omega)⟩ rfl rfl (Nat.le_of_ble_eq_true rfl) dL_refused_321) (fun r_31 M1 hq => ?_)
                      obtain ⟨u_32, rfl, h⟩ := hq
                      refine zm_sipush (v := -1001) C dL_refused_324 (by decide) ?_
                      refine zm_icmp_ne (tgt := 419) C dL_refused_327 (by decide) (fun hc_33 => ?_) (fun hc_33 => ?_)
                      · have h := h.1 hc_33
                        exact zm_sub [0, 1, 2, 3] rfl (vb_R_refused_419 C hr hstk  _ _ _ _ _ _ (by omega) (by omega) h)
                      · have h := h.2 hc_33
                        refine zm_aload_n C dL_refused_330 rfl 0 rfl ?_
                        refine zm_bipush (v := 7) C dL_refused_331 (by decide) ?_
                        refine zm_bipush (v := -5) C dL_refused_333 (by decide) ?_
                        refine zm_iconst (v := 0) C dL_refused_335 (by decide) ?_
                        refine zm_ci (zr_S (As := [.ref (g.2.2.1 0), .int (7 : Int32), .int (-5 : Int32), .int (0 : Int32)]) (rest := []) C (c_L_is l hstk _ u_32 W (7 : Int32) (-5 : Int32) (0 : Int32) h) wd_863 wd_864 wd_0 wd_865 hy_L_is rfl rfl ⟨by decide, by decide⟩ ⟨(show (cz + 21) + 3 ≤ 1702 by omega), (show (sz + 126) + 18 ≤ 10212 by omega)⟩ rfl rfl (Nat.le_of_ble_eq_true rfl) dL_refused_336) (fun r_34 M1 hq => ?_)
                        obtain ⟨u_35, rfl, h⟩ := hq
                        refine zm_if_eq (tgt := 419) C dL_refused_339 (by decide) (fun hc_36 => ?_) (fun hc_36 => ?_)
                        · have h := h.1 hc_36
                          exact zm_sub [0, 1, 2, 3] rfl (vb_R_refused_419 C hr hstk  _ _ _ _ _ _ (by omega) (by omega) h)
                        · have h := h.2 hc_36
                          refine zm_aload_n C dL_refused_342 rfl 0 rfl ?_
                          refine zm_sipush (v := 162) C dL_refused_343 (by decide) ?_
                          refine zm_iload_n C dL_refused_346 rfl 2 rfl ?_
                          refine zm_imul C dL_refused_347 ?_
                          refine zm_ci (zr_SW (As := [.ref (g.2.2.1 0), .int ((162 : Int32) * x3)]) (rest := []) C (c_L_begin l hstk _ u_35 W ((162 : Int32) * x3) h) wd_1097 wd_1098 wd_0 wd_1099 hz_L_begin rfl rfl ⟨by decide, by decide⟩ ⟨(show (cz + 24) + 1 ≤ 1702 by omega), (show (sz + 144) + 6 ≤ 10212 by omega)⟩ rfl rfl (Nat.le_of_ble_eq_true rfl) dL_refused_348) (fun r_37 M1 hq => ?_)
                          obtain ⟨u_38, rfl, h⟩ := hq
                          refine zm_sipush (v := -1001) C dL_refused_351 (by decide) ?_
                          refine zm_icmp_ne (tgt := 419) C dL_refused_354 (by decide) (fun hc_39 => ?_) (fun hc_39 => ?_)
                          · have h := h.1 hc_39
                            exact zm_sub [0, 1, 2, 3] rfl (vb_R_refused_419 C hr hstk  _ _ _ _ _ _ (by omega) (by omega) h)
                          · have h := h.2 hc_39
                            refine zm_aload_n C dL_refused_357 rfl 0 rfl ?_
                            refine zm_bipush (v := 7) C dL_refused_358 (by decide) ?_
                            refine zm_sipush (v := 162) C dL_refused_360 (by decide) ?_
                            refine zm_iload_n C dL_refused_363 rfl 2 rfl ?_
                            refine zm_imul C dL_refused_364 ?_
                            refine zm_iconst (v := 0) C dL_refused_365 (by decide) ?_
                            refine zm_ci (zr_S (As := [.ref (g.2.2.1 0), .int (7 : Int32), .int ((162 : Int32) * x3), .int (0 : Int32)]) (rest := []) C (c_L_is l hstk _ u_38 W (7 : Int32) ((162 : Int32) * x3) (0 : Int32) h) wd_863 wd_864 wd_0 wd_865 hy_L_is rfl rfl ⟨by decide, by decide⟩ ⟨(show (cz + 25) + 3 ≤ 1702 by omega), (show (sz + 150) + 18 ≤ 10212 by omega)⟩ rfl rfl (Nat.le_of_ble_eq_true rfl) dL_refused_366) (fun r_40 M1 hq => ?_)
                            obtain ⟨u_41, rfl, h⟩ := hq
                            refine zm_if_eq (tgt := 419) C dL_refused_369 (by decide) (fun hc_42 => ?_) (fun hc_42 => ?_)
                            · have h := h.1 hc_42
                              exact zm_sub [0, 1, 2, 3] rfl (vb_R_refused_419 C hr hstk  _ _ _ _ _ _ (by omega) (by omega) h)
                            · have h := h.2 hc_42
                              refine zm_aload_n C dL_refused_372 rfl 0 rfl ?_
                              refine zm_iconst (v := 0) C dL_refused_373 (by decide) ?_
                              refine zm_ci (zr_SW (As := [.ref (g.2.2.1 0), .int (0 : Int32)]) (rest := []) C (c_L_play l hstk _ u_41 W (0 : Int32) h) wd_1104 wd_1105 wd_0 wd_1106 hz_L_play rfl rfl ⟨by decide, by decide⟩ ⟨(show (cz + 28) + 1 ≤ 1702 by omega), (show (sz + 168) + 6 ≤ 10212 by omega)⟩ rfl rfl (Nat.le_of_ble_eq_true rfl) dL_refused_374) (fun r_43 M1 hq => ?_)
                              obtain ⟨u_44, rfl, h⟩ := hq
                              refine zm_sipush (v := -1001) C dL_refused_377 (by decide) ?_
                              refine zm_icmp_ne (tgt := 419) C dL_refused_380 (by decide) (fun hc_45 => ?_) (fun hc_45 => ?_)
                              · have h := h.1 hc_45
                                exact zm_sub [0, 1, 2, 3] rfl (vb_R_refused_419 C hr hstk  _ _ _ _ _ _ (by omega) (by omega) h)
                              · have h := h.2 hc_45
                                refine zm_aload_n C dL_refused_383 rfl 0 rfl ?_
                                refine zm_iconst (v := 1) C dL_refused_384 (by decide) ?_
                                refine zm_iconst (v := 0) C dL_refused_385 (by decide) ?_
                                refine zm_iconst (v := 0) C dL_refused_386 (by decide) ?_
                                refine zm_ci (zr_S (As := [.ref (g.2.2.1 0), .int (1 : Int32), .int (0 : Int32), .int (0 : Int32)]) (rest := []) C (c_L_is l hstk _ u_44 W (1 : Int32) (0 : Int32) (0 : Int32) h) wd_863 wd_864 wd_0 wd_865 hy_L_is rfl rfl ⟨by decide, by decide⟩ ⟨(show (cz + 29) + 3 ≤ 1702 by omega), (show (sz + 174) + 18 ≤ 10212 by omega)⟩ rfl rfl (Nat.le_of_ble_eq_true rfl) dL_refused_387) (fun r_46 M1 hq => ?_)
                                obtain ⟨u_47, rfl, h⟩ := hq
                                refine zm_if_eq (tgt := 419) C dL_refused_390 (by decide) (fun hc_48 => ?_) (fun hc_48 => ?_)
                                · have h := h.1 hc_48
                                  exact zm_sub [0, 1, 2, 3] rfl (vb_R_refused_419 C hr hstk  _ _ _ _ _ _ (by omega) (by omega) h)
                                · have h := h.2 hc_48
                                  refine zm_aload_n C dL_refused_393 rfl 0 rfl ?_
                                  refine zm_bipush (v := 41) C dL_refused_394 (by decide) ?_
                                  refine zm_ci (zr_SW (As := [.ref (g.2.2.1 0), .int (41 : Int32)]) (rest := []) C (c_L_play l hstk _ u_47 W (41 : Int32) h) wd_1104 wd_1105 wd_0 wd_1106 hz_L_play rfl rfl ⟨by decide, by decide⟩ ⟨(show (cz + 32) + 1 ≤ 1702 by omega), (show (sz + 192) + 6 ≤ 10212 by omega)⟩ rfl rfl (Nat.le_of_ble_eq_true rfl) dL_refused_396) (fun r_49 M1 hq => ?_)
                                  obtain ⟨u_50, rfl, h⟩ := hq
                                  refine zm_sipush (v := -1001) C dL_refused_399 (by decide) ?_
                                  refine zm_icmp_ne (tgt := 419) C dL_refused_402 (by decide) (fun hc_51 => ?_) (fun hc_51 => ?_)
                                  · have h := h.1 hc_51
                                    exact zm_sub [0, 1, 2, 3] rfl (vb_R_refused_419 C hr hstk  _ _ _ _ _ _ (by omega) (by omega) h)
                                  · have h := h.2 hc_51
                                    refine zm_aload_n C dL_refused_405 rfl 0 rfl ?_
                                    refine zm_iconst (v := 1) C dL_refused_406 (by decide) ?_
                                    refine zm_iconst (v := 0) C dL_refused_407 (by decide) ?_
                                    refine zm_iconst (v := 0) C dL_refused_408 (by decide) ?_
                                    refine zm_ci (zr_S (As := [.ref (g.2.2.1 0), .int (1 : Int32), .int (0 : Int32), .int (0 : Int32)]) (rest := []) C (c_L_is l hstk _ u_50 W (1 : Int32) (0 : Int32) (0 : Int32) h) wd_863 wd_864 wd_0 wd_865 hy_L_is rfl rfl ⟨by decide, by decide⟩ ⟨(show (cz + 33) + 3 ≤ 1702 by omega), (show (sz + 198) + 18 ≤ 10212 by omega)⟩ rfl rfl (Nat.le_of_ble_eq_true rfl) dL_refused_409) (fun r_52 M1 hq => ?_)
                                    obtain ⟨u_53, rfl, h⟩ := hq
                                    refine zm_if_eq (tgt := 419) C dL_refused_412 (by decide) (fun hc_54 => ?_) (fun hc_54 => ?_)
                                    · have h := h.1 hc_54
                                      exact zm_sub [0, 1, 2, 3] rfl (vb_R_refused_419 C hr hstk  _ _ _ _ _ _ (by omega) (by omega) h)
                                    · have h := h.2 hc_54
                                      refine zm_iconst (v := 1) C dL_refused_415 (by decide) ?_
                                      refine zm_goto (tgt := 420) C dL_refused_416 (by decide) ?_
                                      exact zm_sub [0, 1, 2, 3] rfl (vb_R_refused_420 C hr hstk  _ _ _ _ _ _ _ (by omega) (by omega) h)
def w_R_refused (u : MU) (Q : Int32 → MU → Prop) : Prop := w_R_asks  u (fun r_1 u_2 => w_R_account (0 : Int32) u_2 (fun r_3 u_4 => w_R_account (3 : Int32) u_4 (fun r_5 u_6 => w_R_tread r_3 (9 : Int32) u_6 (fun r_7 u_8 => ((¬ r_7 = (-1001 : Int32)) → wb_R_refused_419 Q r_1 r_3 r_5 u_8) ∧ ((r_7 = (-1001 : Int32)) → w_R_is (3 : Int32) r_3 (0 : Int32) u_8 (fun r_10 u_11 => ((r_10 = 0) → wb_R_refused_419 Q r_1 r_3 r_5 u_11) ∧ ((¬ r_10 = 0) → w_R_tread (0 : Int32) (-1 : Int32) u_11 (fun r_13 u_14 => ((¬ r_13 = (-1001 : Int32)) → wb_R_refused_419 Q r_1 r_3 r_5 u_14) ∧ ((r_13 = (-1001 : Int32)) → w_R_is (3 : Int32) (-1 : Int32) (0 : Int32) u_14 (fun r_16 u_17 => ((r_16 = 0) → wb_R_refused_419 Q r_1 r_3 r_5 u_17) ∧ ((¬ r_16 = 0) → w_R_tread (2 : Int32) (2 : Int32) u_17 (fun r_19 u_20 => ((¬ r_19 = (-1001 : Int32)) → wb_R_refused_419 Q r_1 r_3 r_5 u_20) ∧ ((r_19 = (-1001 : Int32)) → w_R_is (4 : Int32) (2 : Int32) (0 : Int32) u_20 (fun r_22 u_23 => ((r_22 = 0) → wb_R_refused_419 Q r_1 r_3 r_5 u_23) ∧ ((¬ r_22 = 0) → w_R_tread (1 : Int32) (0 : Int32) u_23 (fun r_25 u_26 => ((¬ r_25 = (-1001 : Int32)) → wb_R_refused_419 Q r_1 r_3 r_5 u_26) ∧ ((r_25 = (-1001 : Int32)) → w_R_is (5 : Int32) (0 : Int32) (0 : Int32) u_26 (fun r_28 u_29 => ((r_28 = 0) → wb_R_refused_419 Q r_1 r_3 r_5 u_29) ∧ ((¬ r_28 = 0) → w_R_grow (-1 : Int32) (0 : Int32) u_29 (fun r_31 u_32 => ((¬ r_31 = (-1001 : Int32)) → wb_R_refused_419 Q r_1 r_3 r_5 u_32) ∧ ((r_31 = (-1001 : Int32)) → w_R_is (3 : Int32) (-1 : Int32) (0 : Int32) u_32 (fun r_34 u_35 => ((r_34 = 0) → wb_R_refused_419 Q r_1 r_3 r_5 u_35) ∧ ((¬ r_34 = 0) → w_R_grow (0 : Int32) r_3 u_35 (fun r_37 u_38 => ((¬ r_37 = (-1001 : Int32)) → wb_R_refused_419 Q r_1 r_3 r_5 u_38) ∧ ((r_37 = (-1001 : Int32)) → w_R_is (3 : Int32) r_3 (0 : Int32) u_38 (fun r_40 u_41 => ((r_40 = 0) → wb_R_refused_419 Q r_1 r_3 r_5 u_41) ∧ ((¬ r_40 = 0) → w_R_grow (1 : Int32) (1 : Int32) u_41 (fun r_43 u_44 => ((¬ r_43 = (-1001 : Int32)) → wb_R_refused_419 Q r_1 r_3 r_5 u_44) ∧ ((r_43 = (-1001 : Int32)) → w_R_is (6 : Int32) (1 : Int32) (0 : Int32) u_44 (fun r_46 u_47 => ((r_46 = 0) → wb_R_refused_419 Q r_1 r_3 r_5 u_47) ∧ ((¬ r_46 = 0) → w_R_trap r_3 (1 : Int32) u_47 (fun r_49 u_50 => ((¬ r_49 = (-1001 : Int32)) → wb_R_refused_419 Q r_1 r_3 r_5 u_50) ∧ ((r_49 = (-1001 : Int32)) → w_R_is (3 : Int32) r_3 (0 : Int32) u_50 (fun r_52 u_53 => ((r_52 = 0) → wb_R_refused_419 Q r_1 r_3 r_5 u_53) ∧ ((¬ r_52 = 0) → w_R_burrowOf (0 : Int32) (2 : Int32) u_53 (fun r_55 u_56 => ((¬ r_55 = (1 : Int32)) → wb_R_refused_213 Q r_1 r_3 r_5 (0 : Int32) (0 : Int32) u_56) ∧ ((r_55 = (1 : Int32)) → wb_R_refused_213 Q r_1 r_3 r_5 (1 : Int32) (0 : Int32) u_56)))))))))))))))))))))))))))))))))))))
set_option maxHeartbeats 4000000 in
set_option maxRecDepth 100000 in
theorem c_L_refused (l : Launch) (hstk : l.stackTraces = false) (g : GE) (u : MU) (W : MU × ((Nat → Int64) × (Nat → UInt64))) {Q : Int32 → MU → Prop} (h : w_R_refused u Q) : Met l yL_refused (.code yL_refused cL_refused 6 (Option.some Jvm.ClassFile.FieldType.boolean) :: TB) rm_L_refused (zPc g (u, W) [.ref (g.2.2.1 0)]) (zQi g (zPx W Q)) 1702 10212 (zA g) := by
  unfold w_R_refused at h
  refine zMet (own := RL) [(0, .ref (g.2.2.1 0))] (by decide +kernel) rfl (Nat.le_of_ble_eq_true rfl) rfl (fun p e s m args below meth c C hr => ?_)
  refine zm_aload_n C dL_refused_0 rfl 0 rfl ?_
  refine zm_cl (zr_S (As := [.ref (g.2.2.1 0)]) (rest := []) C (c_L_asks l hstk _ u W  h) wd_904 wd_905 wd_0 wd_906 hy_L_asks rfl rfl ⟨by decide, by decide⟩ ⟨(show 0 + 687 ≤ 1702 by omega), (show 0 + 4122 ≤ 10212 by omega)⟩ rfl rfl (Nat.le_of_ble_eq_true rfl) dL_refused_1) (fun r_1 M1 hq => ?_)
  obtain ⟨u_2, rfl, h⟩ := hq
  refine zm_lstore_n (lv' := [(1, .long r_1), (0, .ref (g.2.2.1 0))]) C dL_refused_4 rfl (by decide) rfl ?_
  refine zm_aload_n C dL_refused_5 rfl 1 rfl ?_
  refine zm_iconst (v := 0) C dL_refused_6 (by decide) ?_
  refine zm_ci (zr_SW (As := [.ref (g.2.2.1 0), .int (0 : Int32)]) (rest := []) C (c_L_account l hstk _ u_2 W (0 : Int32) h) wd_823 wd_824 wd_0 wd_825 hz_L_account rfl rfl ⟨by decide, by decide⟩ ⟨(show (0 + 687) + 1 ≤ 1702 by omega), (show (0 + 4122) + 6 ≤ 10212 by omega)⟩ rfl rfl (Nat.le_of_ble_eq_true rfl) dL_refused_7) (fun r_3 M1 hq => ?_)
  obtain ⟨u_4, rfl, h⟩ := hq
  refine zm_istore_n (lv' := [(3, .int r_3), (1, .long r_1), (0, .ref (g.2.2.1 0))]) C dL_refused_10 rfl (by decide) rfl ?_
  refine zm_aload_n C dL_refused_11 rfl 2 rfl ?_
  refine zm_iconst (v := 3) C dL_refused_12 (by decide) ?_
  refine zm_ci (zr_SW (As := [.ref (g.2.2.1 0), .int (3 : Int32)]) (rest := []) C (c_L_account l hstk _ u_4 W (3 : Int32) h) wd_823 wd_824 wd_0 wd_825 hz_L_account rfl rfl ⟨by decide, by decide⟩ ⟨(show (0 + 688) + 1 ≤ 1702 by omega), (show (0 + 4128) + 6 ≤ 10212 by omega)⟩ rfl rfl (Nat.le_of_ble_eq_true rfl) dL_refused_13) (fun r_5 M1 hq => ?_)
  obtain ⟨u_6, rfl, h⟩ := hq
  refine zm_istore (lv' := [(4, .int r_5), (3, .int r_3), (1, .long r_1), (0, .ref (g.2.2.1 0))]) C dL_refused_16 (by decide) rfl ?_
  refine zm_aload_n C dL_refused_18 rfl 3 rfl ?_
  refine zm_iload_n C dL_refused_19 rfl 1 rfl ?_
  refine zm_bipush (v := 9) C dL_refused_20 (by decide) ?_
  refine zm_ci (zr_SW (As := [.ref (g.2.2.1 0), .int r_3, .int (9 : Int32)]) (rest := []) C (c_L_tread l hstk _ u_6 W r_3 (9 : Int32) h) wd_449 wd_450 wd_0 wd_451 hz_L_tread rfl rfl ⟨by decide, by decide⟩ ⟨(show (0 + 689) + 1 ≤ 1702 by omega), (show (0 + 4134) + 6 ≤ 10212 by omega)⟩ rfl rfl (Nat.le_of_ble_eq_true rfl) dL_refused_22) (fun r_7 M1 hq => ?_)
  obtain ⟨u_8, rfl, h⟩ := hq
  refine zm_sipush (v := -1001) C dL_refused_25 (by decide) ?_
  refine zm_icmp_ne (tgt := 419) C dL_refused_28 (by decide) (fun hc_9 => ?_) (fun hc_9 => ?_)
  · have h := h.1 hc_9
    exact zm_sub [3, 2, 1, 0] rfl (vb_R_refused_419 C hr hstk  _ _ _ _ _ _ (by omega) (by omega) h)
  · have h := h.2 hc_9
    refine zm_aload_n C dL_refused_31 rfl 3 rfl ?_
    refine zm_iconst (v := 3) C dL_refused_32 (by decide) ?_
    refine zm_iload_n C dL_refused_33 rfl 1 rfl ?_
    refine zm_iconst (v := 0) C dL_refused_34 (by decide) ?_
    refine zm_ci (zr_S (As := [.ref (g.2.2.1 0), .int (3 : Int32), .int r_3, .int (0 : Int32)]) (rest := []) C (c_L_is l hstk _ u_8 W (3 : Int32) r_3 (0 : Int32) h) wd_863 wd_864 wd_0 wd_865 hy_L_is rfl rfl ⟨by decide, by decide⟩ ⟨(show (0 + 690) + 3 ≤ 1702 by omega), (show (0 + 4140) + 18 ≤ 10212 by omega)⟩ rfl rfl (Nat.le_of_ble_eq_true rfl) dL_refused_35) (fun r_10 M1 hq => ?_)
    obtain ⟨u_11, rfl, h⟩ := hq
    refine zm_if_eq (tgt := 419) C dL_refused_38 (by decide) (fun hc_12 => ?_) (fun hc_12 => ?_)
    · have h := h.1 hc_12
      exact zm_sub [3, 2, 1, 0] rfl (vb_R_refused_419 C hr hstk  _ _ _ _ _ _ (by omega) (by omega) h)
    · have h := h.2 hc_12
      refine zm_aload_n C dL_refused_41 rfl 3 rfl ?_
      refine zm_iconst (v := 0) C dL_refused_42 (by decide) ?_
      refine zm_iconst (v := -1) C dL_refused_43 (by decide) ?_
      refine zm_ci (zr_SW (As := [.ref (g.2.2.1 0), .int (0 : Int32), .int (-1 : Int32)]) (rest := []) C (c_L_tread l hstk _ u_11 W (0 : Int32) (-1 : Int32) h) wd_449 wd_450 wd_0 wd_451 hz_L_tread rfl rfl ⟨by decide, by decide⟩ ⟨(show (0 + 693) + 1 ≤ 1702 by omega), (show (0 + 4158) + 6 ≤ 10212 by omega)⟩ rfl rfl (Nat.le_of_ble_eq_true rfl) dL_refused_44) (fun r_13 M1 hq => ?_)
      obtain ⟨u_14, rfl, h⟩ := hq
      refine zm_sipush (v := -1001) C dL_refused_47 (by decide) ?_
      refine zm_icmp_ne (tgt := 419) C dL_refused_50 (by decide) (fun hc_15 => ?_) (fun hc_15 => ?_)
      · have h := h.1 hc_15
        exact zm_sub [3, 2, 1, 0] rfl (vb_R_refused_419 C hr hstk  _ _ _ _ _ _ (by omega) (by omega) h)
      · have h := h.2 hc_15
        refine zm_aload_n C dL_refused_53 rfl 3 rfl ?_
        refine zm_iconst (v := 3) C dL_refused_54 (by decide) ?_
        refine zm_iconst (v := -1) C dL_refused_55 (by decide) ?_
        refine zm_iconst (v := 0) C dL_refused_56 (by decide) ?_
        refine zm_ci (zr_S (As := [.ref (g.2.2.1 0), .int (3 : Int32), .int (-1 : Int32), .int (0 : Int32)]) (rest := []) C (c_L_is l hstk _ u_14 W (3 : Int32) (-1 : Int32) (0 : Int32) h) wd_863 wd_864 wd_0 wd_865 hy_L_is rfl rfl ⟨by decide, by decide⟩ ⟨(show (0 + 694) + 3 ≤ 1702 by omega), (show (0 + 4164) + 18 ≤ 10212 by omega)⟩ rfl rfl (Nat.le_of_ble_eq_true rfl) dL_refused_57) (fun r_16 M1 hq => ?_)
        obtain ⟨u_17, rfl, h⟩ := hq
        refine zm_if_eq (tgt := 419) C dL_refused_60 (by decide) (fun hc_18 => ?_) (fun hc_18 => ?_)
        · have h := h.1 hc_18
          exact zm_sub [3, 2, 1, 0] rfl (vb_R_refused_419 C hr hstk  _ _ _ _ _ _ (by omega) (by omega) h)
        · have h := h.2 hc_18
          refine zm_aload_n C dL_refused_63 rfl 3 rfl ?_
          refine zm_iconst (v := 2) C dL_refused_64 (by decide) ?_
          refine zm_iconst (v := 2) C dL_refused_65 (by decide) ?_
          refine zm_ci (zr_SW (As := [.ref (g.2.2.1 0), .int (2 : Int32), .int (2 : Int32)]) (rest := []) C (c_L_tread l hstk _ u_17 W (2 : Int32) (2 : Int32) h) wd_449 wd_450 wd_0 wd_451 hz_L_tread rfl rfl ⟨by decide, by decide⟩ ⟨(show (0 + 697) + 1 ≤ 1702 by omega), (show (0 + 4182) + 6 ≤ 10212 by omega)⟩ rfl rfl (Nat.le_of_ble_eq_true rfl) dL_refused_66) (fun r_19 M1 hq => ?_)
          obtain ⟨u_20, rfl, h⟩ := hq
          refine zm_sipush (v := -1001) C dL_refused_69 (by decide) ?_
          refine zm_icmp_ne (tgt := 419) C dL_refused_72 (by decide) (fun hc_21 => ?_) (fun hc_21 => ?_)
          · have h := h.1 hc_21
            exact zm_sub [3, 2, 1, 0] rfl (vb_R_refused_419 C hr hstk  _ _ _ _ _ _ (by omega) (by omega) h)
          · have h := h.2 hc_21
            refine zm_aload_n C dL_refused_75 rfl 3 rfl ?_
            refine zm_iconst (v := 4) C dL_refused_76 (by decide) ?_
            refine zm_iconst (v := 2) C dL_refused_77 (by decide) ?_
            refine zm_iconst (v := 0) C dL_refused_78 (by decide) ?_
            refine zm_ci (zr_S (As := [.ref (g.2.2.1 0), .int (4 : Int32), .int (2 : Int32), .int (0 : Int32)]) (rest := []) C (c_L_is l hstk _ u_20 W (4 : Int32) (2 : Int32) (0 : Int32) h) wd_863 wd_864 wd_0 wd_865 hy_L_is rfl rfl ⟨by decide, by decide⟩ ⟨(show (0 + 698) + 3 ≤ 1702 by omega), (show (0 + 4188) + 18 ≤ 10212 by omega)⟩ rfl rfl (Nat.le_of_ble_eq_true rfl) dL_refused_79) (fun r_22 M1 hq => ?_)
            obtain ⟨u_23, rfl, h⟩ := hq
            refine zm_if_eq (tgt := 419) C dL_refused_82 (by decide) (fun hc_24 => ?_) (fun hc_24 => ?_)
            · have h := h.1 hc_24
              exact zm_sub [3, 2, 1, 0] rfl (vb_R_refused_419 C hr hstk  _ _ _ _ _ _ (by omega) (by omega) h)
            · have h := h.2 hc_24
              refine zm_aload_n C dL_refused_85 rfl 3 rfl ?_
              refine zm_iconst (v := 1) C dL_refused_86 (by decide) ?_
              refine zm_iconst (v := 0) C dL_refused_87 (by decide) ?_
              refine zm_ci (zr_SW (As := [.ref (g.2.2.1 0), .int (1 : Int32), .int (0 : Int32)]) (rest := []) C (c_L_tread l hstk _ u_23 W (1 : Int32) (0 : Int32) h) wd_449 wd_450 wd_0 wd_451 hz_L_tread rfl rfl ⟨by decide, by decide⟩ ⟨(show (0 + 701) + 1 ≤ 1702 by omega), (show (0 + 4206) + 6 ≤ 10212 by omega)⟩ rfl rfl (Nat.le_of_ble_eq_true rfl) dL_refused_88) (fun r_25 M1 hq => ?_)
              obtain ⟨u_26, rfl, h⟩ := hq
              refine zm_sipush (v := -1001) C dL_refused_91 (by decide) ?_
              refine zm_icmp_ne (tgt := 419) C dL_refused_94 (by decide) (fun hc_27 => ?_) (fun hc_27 => ?_)
              · have h := h.1 hc_27
                exact zm_sub [3, 2, 1, 0] rfl (vb_R_refused_419 C hr hstk  _ _ _ _ _ _ (by omega) (by omega) h)
              · have h := h.2 hc_27
                refine zm_aload_n C dL_refused_97 rfl 3 rfl ?_
                refine zm_iconst (v := 5) C dL_refused_98 (by decide) ?_
                refine zm_iconst (v := 0) C dL_refused_99 (by decide) ?_
                refine zm_iconst (v := 0) C dL_refused_100 (by decide) ?_
                refine zm_ci (zr_S (As := [.ref (g.2.2.1 0), .int (5 : Int32), .int (0 : Int32), .int (0 : Int32)]) (rest := []) C (c_L_is l hstk _ u_26 W (5 : Int32) (0 : Int32) (0 : Int32) h) wd_863 wd_864 wd_0 wd_865 hy_L_is rfl rfl ⟨by decide, by decide⟩ ⟨(show (0 + 702) + 3 ≤ 1702 by omega), (show (0 + 4212) + 18 ≤ 10212 by omega)⟩ rfl rfl (Nat.le_of_ble_eq_true rfl) dL_refused_101) (fun r_28 M1 hq => ?_)
                obtain ⟨u_29, rfl, h⟩ := hq
                refine zm_if_eq (tgt := 419) C dL_refused_104 (by decide) (fun hc_30 => ?_) (fun hc_30 => ?_)
                · have h := h.1 hc_30
                  exact zm_sub [3, 2, 1, 0] rfl (vb_R_refused_419 C hr hstk  _ _ _ _ _ _ (by omega) (by omega) h)
                · have h := h.2 hc_30
                  refine zm_aload_n C dL_refused_107 rfl 3 rfl ?_
                  refine zm_iconst (v := -1) C dL_refused_108 (by decide) ?_
                  refine zm_iconst (v := 0) C dL_refused_109 (by decide) ?_
                  refine zm_ci (zr_SW (As := [.ref (g.2.2.1 0), .int (-1 : Int32), .int (0 : Int32)]) (rest := []) C (c_L_grow l hstk _ u_29 W (-1 : Int32) (0 : Int32) h) wd_489 wd_490 wd_0 wd_491 hz_L_grow rfl rfl ⟨by decide, by decide⟩ ⟨(show (0 + 705) + 1 ≤ 1702 by omega), (show (0 + 4230) + 6 ≤ 10212 by omega)⟩ rfl rfl (Nat.le_of_ble_eq_true rfl) dL_refused_110) (fun r_31 M1 hq => ?_)
                  obtain ⟨u_32, rfl, h⟩ := hq
                  refine zm_sipush (v := -1001) C dL_refused_113 (by decide) ?_
                  refine zm_icmp_ne (tgt := 419) C dL_refused_116 (by decide) (fun hc_33 => ?_) (fun hc_33 => ?_)
                  · have h := h.1 hc_33
                    exact zm_sub [3, 2, 1, 0] rfl (vb_R_refused_419 C hr hstk  _ _ _ _ _ _ (by omega) (by omega) h)
                  · have h := h.2 hc_33
                    refine zm_aload_n C dL_refused_119 rfl 3 rfl ?_
                    refine zm_iconst (v := 3) C dL_refused_120 (by decide) ?_
                    refine zm_iconst (v := -1) C dL_refused_121 (by decide) ?_
                    refine zm_iconst (v := 0) C dL_refused_122 (by decide) ?_
                    refine zm_ci (zr_S (As := [.ref (g.2.2.1 0), .int (3 : Int32), .int (-1 : Int32), .int (0 : Int32)]) (rest := []) C (c_L_is l hstk _ u_32 W (3 : Int32) (-1 : Int32) (0 : Int32) h) wd_863 wd_864 wd_0 wd_865 hy_L_is rfl rfl ⟨by decide, by decide⟩ ⟨(show (0 + 706) + 3 ≤ 1702 by omega), (show (0 + 4236) + 18 ≤ 10212 by omega)⟩ rfl rfl (Nat.le_of_ble_eq_true rfl) dL_refused_123) (fun r_34 M1 hq => ?_)
                    obtain ⟨u_35, rfl, h⟩ := hq
                    refine zm_if_eq (tgt := 419) C dL_refused_126 (by decide) (fun hc_36 => ?_) (fun hc_36 => ?_)
                    · have h := h.1 hc_36
                      exact zm_sub [3, 2, 1, 0] rfl (vb_R_refused_419 C hr hstk  _ _ _ _ _ _ (by omega) (by omega) h)
                    · have h := h.2 hc_36
                      refine zm_aload_n C dL_refused_129 rfl 3 rfl ?_
                      refine zm_iconst (v := 0) C dL_refused_130 (by decide) ?_
                      refine zm_iload_n C dL_refused_131 rfl 1 rfl ?_
                      refine zm_ci (zr_SW (As := [.ref (g.2.2.1 0), .int (0 : Int32), .int r_3]) (rest := []) C (c_L_grow l hstk _ u_35 W (0 : Int32) r_3 h) wd_489 wd_490 wd_0 wd_491 hz_L_grow rfl rfl ⟨by decide, by decide⟩ ⟨(show (0 + 709) + 1 ≤ 1702 by omega), (show (0 + 4254) + 6 ≤ 10212 by omega)⟩ rfl rfl (Nat.le_of_ble_eq_true rfl) dL_refused_132) (fun r_37 M1 hq => ?_)
                      obtain ⟨u_38, rfl, h⟩ := hq
                      refine zm_sipush (v := -1001) C dL_refused_135 (by decide) ?_
                      refine zm_icmp_ne (tgt := 419) C dL_refused_138 (by decide) (fun hc_39 => ?_) (fun hc_39 => ?_)
                      · have h := h.1 hc_39
                        exact zm_sub [3, 2, 1, 0] rfl (vb_R_refused_419 C hr hstk  _ _ _ _ _ _ (by omega) (by omega) h)
                      · have h := h.2 hc_39
                        refine zm_aload_n C dL_refused_141 rfl 3 rfl ?_
                        refine zm_iconst (v := 3) C dL_refused_142 (by decide) ?_
                        refine zm_iload_n C dL_refused_143 rfl 1 rfl ?_
                        refine zm_iconst (v := 0) C dL_refused_144 (by decide) ?_
                        refine zm_ci (zr_S (As := [.ref (g.2.2.1 0), .int (3 : Int32), .int r_3, .int (0 : Int32)]) (rest := []) C (c_L_is l hstk _ u_38 W (3 : Int32) r_3 (0 : Int32) h) wd_863 wd_864 wd_0 wd_865 hy_L_is rfl rfl ⟨by decide, by decide⟩ ⟨(show (0 + 710) + 3 ≤ 1702 by omega), (show (0 + 4260) + 18 ≤ 10212 by omega)⟩ rfl rfl (Nat.le_of_ble_eq_true rfl) dL_refused_145) (fun r_40 M1 hq => ?_)
                        obtain ⟨u_41, rfl, h⟩ := hq
                        refine zm_if_eq (tgt := 419) C dL_refused_148 (by decide) (fun hc_42 => ?_) (fun hc_42 => ?_)
                        · have h := h.1 hc_42
                          exact zm_sub [3, 2, 1, 0] rfl (vb_R_refused_419 C hr hstk  _ _ _ _ _ _ (by omega) (by omega) h)
                        · have h := h.2 hc_42
                          refine zm_aload_n C dL_refused_151 rfl 3 rfl ?_
                          refine zm_iconst (v := 1) C dL_refused_152 (by decide) ?_
                          refine zm_iconst (v := 1) C dL_refused_153 (by decide) ?_
                          refine zm_ci (zr_SW (As := [.ref (g.2.2.1 0), .int (1 : Int32), .int (1 : Int32)]) (rest := []) C (c_L_grow l hstk _ u_41 W (1 : Int32) (1 : Int32) h) wd_489 wd_490 wd_0 wd_491 hz_L_grow rfl rfl ⟨by decide, by decide⟩ ⟨(show (0 + 713) + 1 ≤ 1702 by omega), (show (0 + 4278) + 6 ≤ 10212 by omega)⟩ rfl rfl (Nat.le_of_ble_eq_true rfl) dL_refused_154) (fun r_43 M1 hq => ?_)
                          obtain ⟨u_44, rfl, h⟩ := hq
                          refine zm_sipush (v := -1001) C dL_refused_157 (by decide) ?_
                          refine zm_icmp_ne (tgt := 419) C dL_refused_160 (by decide) (fun hc_45 => ?_) (fun hc_45 => ?_)
                          · have h := h.1 hc_45
                            exact zm_sub [3, 2, 1, 0] rfl (vb_R_refused_419 C hr hstk  _ _ _ _ _ _ (by omega) (by omega) h)
                          · have h := h.2 hc_45
                            refine zm_aload_n C dL_refused_163 rfl 3 rfl ?_
                            refine zm_bipush (v := 6) C dL_refused_164 (by decide) ?_
                            refine zm_iconst (v := 1) C dL_refused_166 (by decide) ?_
                            refine zm_iconst (v := 0) C dL_refused_167 (by decide) ?_
                            refine zm_ci (zr_S (As := [.ref (g.2.2.1 0), .int (6 : Int32), .int (1 : Int32), .int (0 : Int32)]) (rest := []) C (c_L_is l hstk _ u_44 W (6 : Int32) (1 : Int32) (0 : Int32) h) wd_863 wd_864 wd_0 wd_865 hy_L_is rfl rfl ⟨by decide, by decide⟩ ⟨(show (0 + 714) + 3 ≤ 1702 by omega), (show (0 + 4284) + 18 ≤ 10212 by omega)⟩ rfl rfl (Nat.le_of_ble_eq_true rfl) dL_refused_168) (fun r_46 M1 hq => ?_)
                            obtain ⟨u_47, rfl, h⟩ := hq
                            refine zm_if_eq (tgt := 419) C dL_refused_171 (by decide) (fun hc_48 => ?_) (fun hc_48 => ?_)
                            · have h := h.1 hc_48
                              exact zm_sub [3, 2, 1, 0] rfl (vb_R_refused_419 C hr hstk  _ _ _ _ _ _ (by omega) (by omega) h)
                            · have h := h.2 hc_48
                              refine zm_aload_n C dL_refused_174 rfl 3 rfl ?_
                              refine zm_iload_n C dL_refused_175 rfl 1 rfl ?_
                              refine zm_iconst (v := 1) C dL_refused_176 (by decide) ?_
                              refine zm_ci (zr_SW (As := [.ref (g.2.2.1 0), .int r_3, .int (1 : Int32)]) (rest := []) C (c_L_trap l hstk _ u_47 W r_3 (1 : Int32) h) wd_897 wd_898 wd_0 wd_899 hz_L_trap rfl rfl ⟨by decide, by decide⟩ ⟨(show (0 + 717) + 1 ≤ 1702 by omega), (show (0 + 4302) + 6 ≤ 10212 by omega)⟩ rfl rfl (Nat.le_of_ble_eq_true rfl) dL_refused_177) (fun r_49 M1 hq => ?_)
                              obtain ⟨u_50, rfl, h⟩ := hq
                              refine zm_sipush (v := -1001) C dL_refused_180 (by decide) ?_
                              refine zm_icmp_ne (tgt := 419) C dL_refused_183 (by decide) (fun hc_51 => ?_) (fun hc_51 => ?_)
                              · have h := h.1 hc_51
                                exact zm_sub [3, 2, 1, 0] rfl (vb_R_refused_419 C hr hstk  _ _ _ _ _ _ (by omega) (by omega) h)
                              · have h := h.2 hc_51
                                refine zm_aload_n C dL_refused_186 rfl 3 rfl ?_
                                refine zm_iconst (v := 3) C dL_refused_187 (by decide) ?_
                                refine zm_iload_n C dL_refused_188 rfl 1 rfl ?_
                                refine zm_iconst (v := 0) C dL_refused_189 (by decide) ?_
                                refine zm_ci (zr_S (As := [.ref (g.2.2.1 0), .int (3 : Int32), .int r_3, .int (0 : Int32)]) (rest := []) C (c_L_is l hstk _ u_50 W (3 : Int32) r_3 (0 : Int32) h) wd_863 wd_864 wd_0 wd_865 hy_L_is rfl rfl ⟨by decide, by decide⟩ ⟨(show (0 + 718) + 3 ≤ 1702 by omega), (show (0 + 4308) + 18 ≤ 10212 by omega)⟩ rfl rfl (Nat.le_of_ble_eq_true rfl) dL_refused_190) (fun r_52 M1 hq => ?_)
                                obtain ⟨u_53, rfl, h⟩ := hq
                                refine zm_if_eq (tgt := 419) C dL_refused_193 (by decide) (fun hc_54 => ?_) (fun hc_54 => ?_)
                                · have h := h.1 hc_54
                                  exact zm_sub [3, 2, 1, 0] rfl (vb_R_refused_419 C hr hstk  _ _ _ _ _ _ (by omega) (by omega) h)
                                · have h := h.2 hc_54
                                  refine zm_aload_n C dL_refused_196 rfl 3 rfl ?_
                                  refine zm_iconst (v := 0) C dL_refused_197 (by decide) ?_
                                  refine zm_aload_n C dL_refused_198 rfl 3 rfl ?_
                                  refine zm_iconst (v := 0) C dL_refused_199 (by decide) ?_
                                  refine zm_iconst (v := 2) C dL_refused_200 (by decide) ?_
                                  refine zm_ci (zr_SW (As := [.ref (g.2.2.1 0), .int (0 : Int32), .int (2 : Int32)]) (rest := [.int (0 : Int32), .ref (g.2.2.1 0)]) C (c_L_burrowOf l hstk _ u_53 W (0 : Int32) (2 : Int32) h) wd_515 wd_516 wd_0 wd_517 hz_L_burrowOf rfl rfl ⟨by decide, by decide⟩ ⟨(show (0 + 721) + 1 ≤ 1702 by omega), (show (0 + 4326) + 6 ≤ 10212 by omega)⟩ rfl rfl (Nat.le_of_ble_eq_true rfl) dL_refused_201) (fun r_55 M1 hq => ?_)
                                  obtain ⟨u_56, rfl, h⟩ := hq
                                  refine zm_iconst (v := 1) C dL_refused_204 (by decide) ?_
                                  refine zm_icmp_ne (tgt := 212) C dL_refused_205 (by decide) (fun hc_57 => ?_) (fun hc_57 => ?_)
                                  · have h := h.1 hc_57
                                    refine zm_iconst (v := 0) C dL_refused_212 (by decide) ?_
                                    exact zm_sub [3, 2, 1, 0] rfl (vb_R_refused_213 C hr hstk  _ _ _ _ _ _ _ _ (by omega) (by omega) h)
                                  · have h := h.2 hc_57
                                    refine zm_iconst (v := 1) C dL_refused_208 (by decide) ?_
                                    refine zm_goto (tgt := 213) C dL_refused_209 (by decide) ?_
                                    exact zm_sub [3, 2, 1, 0] rfl (vb_R_refused_213 C hr hstk  _ _ _ _ _ _ _ _ (by omega) (by omega) h)
