theorem wd_0 : (Jvm.Cond.initialized "FoxBurrowsLaw") ∈ TB := zTB 0 (by decide +kernel) (by decide +kernel)
theorem wd_302 : (Jvm.Cond.methodLink "FoxBurrowsLaw" (286 : Nat) ({ cls := "FoxBurrows", name := "faultPosition", desc := "()I" } : Jvm.MethodName)) ∈ TB := zTB 302 (by decide +kernel) (by decide +kernel)
theorem wd_303 : (Jvm.Cond.instanceMethod ({ cls := "FoxBurrows", name := "faultPosition", desc := "()I" } : Jvm.MethodName)) ∈ TB := zTB 303 (by decide +kernel) (by decide +kernel)
theorem wd_304 : (Jvm.Cond.selects "FoxBurrows" ({ cls := "FoxBurrows", name := "faultPosition", desc := "()I" } : Jvm.MethodName) ({ cls := "FoxBurrows", name := "faultPosition", desc := "()I" } : Jvm.MethodName)) ∈ TB := zTB 304 (by decide +kernel) (by decide +kernel)
theorem wd_305 : (Jvm.Cond.code ({ cls := "FoxBurrows", name := "faultPosition", desc := "()I" } : Jvm.MethodName) prog_1_method_31_code (1 : Nat) (Option.some Jvm.ClassFile.FieldType.int)) ∈ TB := zTB 305 (by decide +kernel) (by decide +kernel)
theorem wd_704 : (Jvm.Cond.methodLink "FoxBurrowsLaw" (143 : Nat) ({ cls := "FoxBurrowsLaw", name := "append", desc := "(LFoxBurrows;C)I" } : Jvm.MethodName)) ∈ TB := zTB 704 (by decide +kernel) (by decide +kernel)
theorem wd_705 : (Jvm.Cond.static ({ cls := "FoxBurrowsLaw", name := "append", desc := "(LFoxBurrows;C)I" } : Jvm.MethodName)) ∈ TB := zTB 705 (by decide +kernel) (by decide +kernel)
theorem wd_706 : (Jvm.Cond.codeWith ({ cls := "FoxBurrowsLaw", name := "append", desc := "(LFoxBurrows;C)I" } : Jvm.MethodName) method_28_code (3 : Nat) (Option.some Jvm.ClassFile.FieldType.int) [((0 : Nat), (5 : Nat), (6 : Nat), (101 : Nat))]) ∈ TB := zTB 706 (by decide +kernel) (by decide +kernel)
theorem wd_732 : (Jvm.Cond.methodLink "FoxBurrowsLaw" (148 : Nat) ({ cls := "FoxBurrowsLaw", name := "commands", desc := "(LFoxBurrows;)I" } : Jvm.MethodName)) ∈ TB := zTB 732 (by decide +kernel) (by decide +kernel)
theorem wd_733 : (Jvm.Cond.static ({ cls := "FoxBurrowsLaw", name := "commands", desc := "(LFoxBurrows;)I" } : Jvm.MethodName)) ∈ TB := zTB 733 (by decide +kernel) (by decide +kernel)
theorem wd_734 : (Jvm.Cond.codeWith ({ cls := "FoxBurrowsLaw", name := "commands", desc := "(LFoxBurrows;)I" } : Jvm.MethodName) method_29_code (2 : Nat) (Option.some Jvm.ClassFile.FieldType.int) [((0 : Nat), (4 : Nat), (5 : Nat), (51 : Nat)), ((0 : Nat), (4 : Nat), (10 : Nat), (13 : Nat))]) ∈ TB := zTB 734 (by decide +kernel) (by decide +kernel)
theorem wd_866 : (Jvm.Cond.methodLink "FoxBurrowsLaw" (151 : Nat) ({ cls := "FoxBurrowsLaw", name := "reason", desc := "(LFoxBurrows;I)I" } : Jvm.MethodName)) ∈ TB := zTB 866 (by decide +kernel) (by decide +kernel)
theorem wd_867 : (Jvm.Cond.static ({ cls := "FoxBurrowsLaw", name := "reason", desc := "(LFoxBurrows;I)I" } : Jvm.MethodName)) ∈ TB := zTB 867 (by decide +kernel) (by decide +kernel)
theorem wd_868 : (Jvm.Cond.codeWith ({ cls := "FoxBurrowsLaw", name := "reason", desc := "(LFoxBurrows;I)I" } : Jvm.MethodName) method_30_code (3 : Nat) (Option.some Jvm.ClassFile.FieldType.int) [((0 : Nat), (5 : Nat), (6 : Nat), (51 : Nat)), ((0 : Nat), (5 : Nat), (11 : Nat), (46 : Nat))]) ∈ TB := zTB 868 (by decide +kernel) (by decide +kernel)
theorem wd_1358 : (Jvm.Cond.methodLink "FoxBurrowsLaw" (135 : Nat) ({ cls := "java/lang/String", name := "length", desc := "()I" } : Jvm.MethodName)) ∈ TB := zTB 1358 (by decide +kernel) (by decide +kernel)
theorem wd_1359 : (Jvm.Cond.methodLink "FoxBurrowsLaw" (140 : Nat) ({ cls := "java/lang/String", name := "charAt", desc := "(I)C" } : Jvm.MethodName)) ∈ TB := zTB 1359 (by decide +kernel) (by decide +kernel)
theorem wd_1360 : (Jvm.Cond.instanceMethod ({ cls := "java/lang/String", name := "charAt", desc := "(I)C" } : Jvm.MethodName)) ∈ TB := zTB 1360 (by decide +kernel) (by decide +kernel)
theorem wd_1361 : (Jvm.Cond.selects "java/lang/String" ({ cls := "java/lang/String", name := "charAt", desc := "(I)C" } : Jvm.MethodName) ({ cls := "java/lang/String", name := "charAt", desc := "(I)C" } : Jvm.MethodName)) ∈ TB := zTB 1361 (by decide +kernel) (by decide +kernel)
theorem wd_1362 : (Jvm.Cond.code ({ cls := "java/lang/String", name := "charAt", desc := "(I)C" } : Jvm.MethodName) prog_32_method_56_code (2 : Nat) (Option.some Jvm.ClassFile.FieldType.char)) ∈ TB := zTB 1362 (by decide +kernel) (by decide +kernel)
theorem hz_L_append : (yL_append.cls ≠ "java/lang/invoke/MethodHandle" ∧ yL_append.cls ≠ "java/lang/invoke/VarHandle" ∧ (parseMethodDescriptor yL_append.desc).map (fun d => d.parameters.length) = some 2) := ⟨by decide +kernel, by decide +kernel, by decide +kernel⟩
theorem hy_L_append : yL_append.cls = RL ∧ (yL_append.cls ≠ "java/lang/invoke/MethodHandle" ∧ yL_append.cls ≠ "java/lang/invoke/VarHandle" ∧ (parseMethodDescriptor yL_append.desc).map (fun d => d.parameters.length) = some 2) := ⟨rfl, hz_L_append⟩
theorem hz_L_commands : (yL_commands.cls ≠ "java/lang/invoke/MethodHandle" ∧ yL_commands.cls ≠ "java/lang/invoke/VarHandle" ∧ (parseMethodDescriptor yL_commands.desc).map (fun d => d.parameters.length) = some 1) := ⟨by decide +kernel, by decide +kernel, by decide +kernel⟩
theorem hy_L_commands : yL_commands.cls = RL ∧ (yL_commands.cls ≠ "java/lang/invoke/MethodHandle" ∧ yL_commands.cls ≠ "java/lang/invoke/VarHandle" ∧ (parseMethodDescriptor yL_commands.desc).map (fun d => d.parameters.length) = some 1) := ⟨rfl, hz_L_commands⟩
theorem hz_L_reason : (yL_reason.cls ≠ "java/lang/invoke/MethodHandle" ∧ yL_reason.cls ≠ "java/lang/invoke/VarHandle" ∧ (parseMethodDescriptor yL_reason.desc).map (fun d => d.parameters.length) = some 2) := ⟨by decide +kernel, by decide +kernel, by decide +kernel⟩
theorem hy_L_reason : yL_reason.cls = RL ∧ (yL_reason.cls ≠ "java/lang/invoke/MethodHandle" ∧ yL_reason.cls ≠ "java/lang/invoke/VarHandle" ∧ (parseMethodDescriptor yL_reason.desc).map (fun d => d.parameters.length) = some 2) := ⟨rfl, hz_L_reason⟩
theorem hz_X9_faultPosition : (yX9_faultPosition.cls ≠ "java/lang/invoke/MethodHandle" ∧ yX9_faultPosition.cls ≠ "java/lang/invoke/VarHandle" ∧ (parseMethodDescriptor yX9_faultPosition.desc).map (fun d => d.parameters.length) = some 0) := ⟨by decide +kernel, by decide +kernel, by decide +kernel⟩
theorem hy_X9_faultPosition : yX9_faultPosition.cls = RX9 ∧ (yX9_faultPosition.cls ≠ "java/lang/invoke/MethodHandle" ∧ yX9_faultPosition.cls ≠ "java/lang/invoke/VarHandle" ∧ (parseMethodDescriptor yX9_faultPosition.desc).map (fun d => d.parameters.length) = some 0) := ⟨rfl, hz_X9_faultPosition⟩
abbrev rm_L_at : Room := { frames := 0, cells := 0, slots := 0, locals := 0 }
def w_R_at (xs : Nat → Int32) (L : Nat) (x1 : Int32) (Q : Int32 → Prop) : Prop := (((Int32.ofNat L) ≤ x1) → Q (0 : Int32)) ∧ ((¬ (Int32.ofNat L) ≤ x1) → vp_in x1 L ∧ (Q (xs (x1).toNatClampNeg)))
set_option maxHeartbeats 4000000 in
set_option maxRecDepth 100000 in
theorem c_L_at (l : Launch) (g : GE) (M : Mem) {xs : Nat → Int32} {L : Nat} (hxs : g.2.2.2.2.2.1.2.2 = xs) (hLL : g.2.2.2.2.2.1.2.1 = L) (x1 : Int32) {Q : Int32 → Prop} (h : w_R_at xs L x1 Q) : Met l yL_at (.code yL_at cL_at 2 (Option.some Jvm.ClassFile.FieldType.int) :: TB) rm_L_at (zPc g M [.ref g.2.2.2.2.2.1.1, .int x1]) (zQi g (zP0 M Q)) 0 0 (zA g) := by
  unfold w_R_at at h
  refine zMet (own := RL) [(0, .ref g.2.2.2.2.2.1.1), (1, .int x1)] (by decide +kernel) rfl (Nat.le_of_ble_eq_true rfl) rfl (fun p e s m args below meth c C hr => ?_)
  refine zm_iload_n C dL_at_0 rfl 1 rfl ?_
  refine zm_aload_n C dL_at_1 rfl 0 rfl ?_
  refine zm_slen C dL_at_2 ?_
  rw [hLL]
  refine zm_icmp_ge (tgt := 12) C dL_at_3 (by decide) (fun hc_1 => ?_) (fun hc_1 => ?_)
  · have h := h.1 hc_1
    refine zm_iconst (v := 0) C dL_at_12 (by decide) ?_
    refine zm_widen (k1 := 0) (n1 := 0) (by omega) (by omega) ?_
    exact zm_iret C hr dL_at_13 ⟨rfl, h⟩
  · have h := h.2 hc_1
    refine zm_aload_n C dL_at_6 rfl 0 rfl ?_
    refine zm_iload_n C dL_at_7 rfl 1 rfl ?_
    obtain ⟨hg_2, h⟩ := h
    refine zm_sld C (by rw [hLL]; exact hg_2) dL_at_8 ?_
    rw [hxs]
    refine zm_goto (tgt := 13) C dL_at_9 (by decide) ?_
    refine zm_widen (k1 := 0) (n1 := 0) (by omega) (by omega) ?_
    exact zm_iret C hr dL_at_13 ⟨rfl, h⟩
abbrev rm_L_some : Room := { frames := 0, cells := 0, slots := 0, locals := 0 }
def w_R_some (x0 : Int32) (x1 : Int32) (Q : Int32 → Prop) : Prop := (¬ x1 = 0) ∧ (∀ x2_2, x2_2 = (x0 - x0 / x1 * x1) → ((0 ≤ x2_2) → Q x2_2) ∧ ((¬ 0 ≤ x2_2) → Q (x2_2 + x1)))
set_option maxHeartbeats 4000000 in
set_option maxRecDepth 100000 in
theorem c_L_some (l : Launch) (g : GE) (M : Mem) (x0 : Int32) (x1 : Int32) {Q : Int32 → Prop} (h : w_R_some x0 x1 Q) : Met l yL_some (.code yL_some cL_some 3 (Option.some Jvm.ClassFile.FieldType.int) :: TB) rm_L_some (zPc g M [.int x0, .int x1]) (zQi g (zP0 M Q)) 0 0 (zA g) := by
  unfold w_R_some at h
  refine zMet (own := RL) [(0, .int x0), (1, .int x1)] (by decide +kernel) rfl (Nat.le_of_ble_eq_true rfl) rfl (fun p e s m args below meth c C hr => ?_)
  refine zm_iload_n C dL_some_0 rfl 0 rfl ?_
  refine zm_iload_n C dL_some_1 rfl 1 rfl ?_
  obtain ⟨hg_1, h⟩ := h
  refine zm_irem C dL_some_2 hg_1 ?_
  refine zm_nmI (fun x2_2 hx2_2 => ?_)
  have h := h x2_2 hx2_2
  refine zm_istore_n (lv' := [(2, .int x2_2), (0, .int x0), (1, .int x1)]) C dL_some_3 rfl (by decide) rfl ?_
  refine zm_iload_n C dL_some_4 rfl 0 rfl ?_
  refine zm_if_ge (tgt := 14) C dL_some_5 (by decide) (fun hc_3 => ?_) (fun hc_3 => ?_)
  · have h := h.1 hc_3
    refine zm_iload_n C dL_some_14 rfl 0 rfl ?_
    refine zm_widen (k1 := 0) (n1 := 0) (by omega) (by omega) ?_
    exact zm_iret C hr dL_some_15 ⟨rfl, h⟩
  · have h := h.2 hc_3
    refine zm_iload_n C dL_some_8 rfl 0 rfl ?_
    refine zm_iload_n C dL_some_9 rfl 2 rfl ?_
    refine zm_iadd C dL_some_10 ?_
    refine zm_goto (tgt := 15) C dL_some_11 (by decide) ?_
    refine zm_widen (k1 := 0) (n1 := 0) (by omega) (by omega) ?_
    exact zm_iret C hr dL_some_15 ⟨rfl, h⟩
abbrev rm_L_does : Room := { frames := 9, cells := 63, slots := 378, locals := 349 }
def wl_R_does_2 (bs : List Int32) (Q : Int32 → MU → Prop) : Nat → Int32 → (MU) → Prop
  | 0, _, _ => False
  | n + 1, x2, u => (((nI bs.length) ≤ x2) → w_R_commands  u (fun r_2 u_3 => Q r_2 u_3)) ∧ ((¬ (nI bs.length) ≤ x2) → ∃ i3, x2 = nI i3 ∧ (i3 < bs.length ∧ bs.length < 2 ^ 31) ∧ (w_R_append (zChr (bs.getD i3 0)) u (fun r_5 u_6 => ((r_5 = (x2 + (1 : Int32))) → ∀ x2_8, x2_8 = x2 + (1 : Int32) → wl_R_does_2 bs Q n x2_8 u_6) ∧ ((¬ r_5 = (x2 + (1 : Int32))) → Q (-9999 : Int32) u_6))))
set_option maxHeartbeats 4000000 in
set_option maxRecDepth 100000 in
theorem vl_R_does_2 {p : Program} {l : Launch} {e : Env} {s : State} {m : MethodId} {args : Array Value} {below : List Frame} {meth : Method} {c : Code} {g : GE} {W : MU × ((Nat → Int64) × (Nat → UInt64))} {Q : Int32 → MU → Prop} {bs : List Int32} {a : Nat} (hG : zStrG g a bs s s.heap) (C : zCx p l s m args meth c g RL cL_does 3) (hr : meth.sig.returnType = (Option.some Jvm.ClassFile.FieldType.int)) (hstk : l.stackTraces = false) : ∀ (n : Nat) (x2 : Int32) (u : MU) (cz sz : Nat), cz + (n * 1 + 2 + 0) ≤ 63 → sz + 6 * (n * 1 + 2 + 0) ≤ 378 → wl_R_does_2 bs Q n x2 u → WM p l e rm_L_does s m args below meth c g 3 cz sz (MQ below (zQi g (zPx W Q)) args s 63 378 (zA g)) 2 [(0, .ref (g.2.2.1 0)), (1, .ref a), (2, .int x2)] [] (u, W) := by
  intro n
  induction n with
  | zero => intro _ _ _ _ _ _ h; exact h.elim
  | succ n ih =>
    intro x2 u cz sz hz hs h
    unfold wl_R_does_2 at h
    rw [Nat.succ_mul] at hz hs
    refine zm_iload_n C dL_does_2 rfl 2 rfl ?_
    refine zm_aload_n C dL_does_3 rfl 1 rfl ?_
    refine zm_slenS (i := 0) C hG wd_1358 wd_1222 wd_1223 wd_25 wd_1224 (by decide) (by decide) ⟨(show cz + 0 ≤ 63 by omega), (show sz + 0 ≤ 378 by omega)⟩ (Nat.le_of_ble_eq_true rfl) dL_does_4 ?_
    refine zm_icmp_ge (tgt := 35) C dL_does_7 (by decide) (fun hc_1 => ?_) (fun hc_1 => ?_)
    · have h := h.1 hc_1
      refine zm_aload_n C dL_does_35 rfl 0 rfl ?_
      refine zm_ci (zr_SW (As := [.ref (g.2.2.1 0)]) (rest := []) C (c_L_commands l hstk _ u W  h) wd_732 wd_733 wd_0 wd_734 hz_L_commands rfl rfl ⟨by decide, by decide⟩ ⟨(show cz + 1 ≤ 63 by omega), (show sz + 6 ≤ 378 by omega)⟩ rfl rfl (Nat.le_of_ble_eq_true rfl) dL_does_36) (fun r_2 M1 hq => ?_)
      obtain ⟨u_3, rfl, h⟩ := hq
      refine zm_widen (k1 := 63) (n1 := 378) (by omega) (by omega) ?_
      exact zm_iret C hr dL_does_39 ⟨_, rfl, h⟩
    · have h := h.2 hc_1
      refine zm_aload_n C dL_does_10 rfl 0 rfl ?_
      refine zm_aload_n C dL_does_11 rfl 1 rfl ?_
      refine zm_iload_n C dL_does_12 rfl 2 rfl ?_
      obtain ⟨i3, hy3, hi3, h⟩ := h
      refine zm_nmI (fun y9 e9 => ?_)
      rw [hy3] at e9
      subst e9
      refine zm_schS C hG hi3.1 hi3.2 wd_1359 wd_1360 wd_1361 wd_25 wd_1362 (by decide) (by decide) ⟨(show cz + 0 ≤ 63 by omega), (show sz + 0 ≤ 378 by omega)⟩ (Nat.le_of_ble_eq_true rfl) dL_does_13 ?_
      refine zm_ci (zr_SW (As := [.ref (g.2.2.1 0), .int (zChr (bs.getD i3 0))]) (rest := []) C (c_L_append l hstk _ u W (zChr (bs.getD i3 0)) h) wd_704 wd_705 wd_0 wd_706 hz_L_append rfl rfl ⟨by decide, by decide⟩ ⟨(show cz + 1 ≤ 63 by omega), (show sz + 6 ≤ 378 by omega)⟩ rfl rfl (Nat.le_of_ble_eq_true rfl) dL_does_16) (fun r_5 M1 hq => ?_)
      obtain ⟨u_6, rfl, h⟩ := hq
      refine zm_iload_n C dL_does_19 rfl 2 rfl ?_
      refine zm_iconst (v := 1) C dL_does_20 (by decide) ?_
      refine zm_iadd C dL_does_21 ?_
      refine zm_icmp_eq (tgt := 29) C dL_does_22 (by decide) (fun hc_7 => ?_) (fun hc_7 => ?_)
      · have h := h.1 hc_7
        obtain ⟨x2_8, hx2_8⟩ : ∃ z, z = x2 + (1 : Int32) := ⟨_, rfl⟩
        have h := h x2_8 hx2_8
        refine zm_iinc (v := x2_8) (lv' := [(2, .int x2_8), (0, .ref (g.2.2.1 0)), (1, .ref a)]) C dL_does_29 2 rfl (by rw [hx2_8]; rfl) (by decide) rfl ?_
        refine zm_goto (tgt := 2) C dL_does_32 (by decide) ?_
        exact zm_sub [1, 2, 0] rfl (ih _ _ _ _ (by omega) (by omega) h)
      · have h := h.2 hc_7
        refine zm_sipush (v := -9999) C dL_does_25 (by decide) ?_
        refine zm_widen (k1 := 63) (n1 := 378) (by omega) (by omega) ?_
        exact zm_iret C hr dL_does_28 ⟨_, rfl, h⟩
def w_R_does (bs : List Int32) (u : MU) (Q : Int32 → MU → Prop) : Prop := ∃ nn, nn ≤ 61 ∧ wl_R_does_2 bs Q nn (0 : Int32) u
set_option maxHeartbeats 4000000 in
set_option maxRecDepth 100000 in
theorem c_L_does (l : Launch) (hstk : l.stackTraces = false) (g : GE) (u : MU) (W : MU × ((Nat → Int64) × (Nat → UInt64))) {a : Nat} {bs : List Int32} {Q : Int32 → MU → Prop} (h : w_R_does bs u Q) : Met l yL_does (.code yL_does cL_does 3 (Option.some Jvm.ClassFile.FieldType.int) :: TB) rm_L_does (zDc g (u, W) [.ref (g.2.2.1 0), .ref a] a bs) (zQi g (zPx W Q)) 63 378 (zA g) := by
  unfold w_R_does at h
  refine zMetD (own := RL) [(0, .ref (g.2.2.1 0)), (1, .ref a)] (by decide +kernel) rfl (Nat.le_of_ble_eq_true rfl) rfl (fun p e s m args below meth c C hr hG => ?_)
  refine zm_iconst (v := 0) C dL_does_0 (by decide) ?_
  refine zm_istore_n (lv' := [(2, .int (0 : Int32)), (0, .ref (g.2.2.1 0)), (1, .ref a)]) C dL_does_1 rfl (by decide) rfl ?_
  obtain ⟨nn, hnn, h⟩ := h
  exact zm_sub [1, 2, 0] rfl (vl_R_does_2 hG C hr hstk  nn _ _ _ _ (by omega) (by omega) h)
abbrev rm_L_is : Room := { frames := 8, cells := 3, slots := 18, locals := 133 }
def w_R_is (x1 : Int32) (x2 : Int32) (x3 : Int32) (u : MU) (Q : Int32 → MU → Prop) : Prop := w_R_reason (0 : Int32) u (fun r_1 u_2 => ((¬ r_1 = x1) → Q (0 : Int32) u_2) ∧ ((r_1 = x1) → w_R_reason (1 : Int32) u_2 (fun r_4 u_5 => ((¬ r_4 = x2) → Q (0 : Int32) u_5) ∧ ((r_4 = x2) → w_R_reason (2 : Int32) u_5 (fun r_7 u_8 => ((¬ r_7 = x3) → Q (0 : Int32) u_8) ∧ ((r_7 = x3) → Q (1 : Int32) u_8))))))
set_option maxHeartbeats 4000000 in
set_option maxRecDepth 100000 in
theorem c_L_is (l : Launch) (hstk : l.stackTraces = false) (g : GE) (u : MU) (W : MU × ((Nat → Int64) × (Nat → UInt64))) (x1 : Int32) (x2 : Int32) (x3 : Int32) {Q : Int32 → MU → Prop} (h : w_R_is x1 x2 x3 u Q) : Met l yL_is (.code yL_is cL_is 4 (Option.some Jvm.ClassFile.FieldType.boolean) :: TB) rm_L_is (zPc g (u, W) [.ref (g.2.2.1 0), .int x1, .int x2, .int x3]) (zQi g (zPx W Q)) 3 18 (zA g) := by
  unfold w_R_is at h
  refine zMet (own := RL) [(0, .ref (g.2.2.1 0)), (1, .int x1), (2, .int x2), (3, .int x3)] (by decide +kernel) rfl (Nat.le_of_ble_eq_true rfl) rfl (fun p e s m args below meth c C hr => ?_)
  refine zm_aload_n C dL_is_0 rfl 0 rfl ?_
  refine zm_iconst (v := 0) C dL_is_1 (by decide) ?_
  refine zm_ci (zr_SW (As := [.ref (g.2.2.1 0), .int (0 : Int32)]) (rest := []) C (c_L_reason l hstk _ u W (0 : Int32) h) wd_866 wd_867 wd_0 wd_868 hz_L_reason rfl rfl ⟨by decide, by decide⟩ ⟨(show 0 + 1 ≤ 3 by omega), (show 0 + 6 ≤ 18 by omega)⟩ rfl rfl (Nat.le_of_ble_eq_true rfl) dL_is_2) (fun r_1 M1 hq => ?_)
  obtain ⟨u_2, rfl, h⟩ := hq
  refine zm_iload_n C dL_is_5 rfl 1 rfl ?_
  refine zm_icmp_ne (tgt := 31) C dL_is_6 (by decide) (fun hc_3 => ?_) (fun hc_3 => ?_)
  · have h := h.1 hc_3
    refine zm_iconst (v := 0) C dL_is_31 (by decide) ?_
    refine zm_widen (k1 := 3) (n1 := 18) (by omega) (by omega) ?_
    exact zm_zret (ty := .boolean) C hr (by decide) dL_is_32 ⟨_, rfl, h⟩
  · have h := h.2 hc_3
    refine zm_aload_n C dL_is_9 rfl 0 rfl ?_
    refine zm_iconst (v := 1) C dL_is_10 (by decide) ?_
    refine zm_ci (zr_SW (As := [.ref (g.2.2.1 0), .int (1 : Int32)]) (rest := []) C (c_L_reason l hstk _ u_2 W (1 : Int32) h) wd_866 wd_867 wd_0 wd_868 hz_L_reason rfl rfl ⟨by decide, by decide⟩ ⟨(show (0 + 1) + 1 ≤ 3 by omega), (show (0 + 6) + 6 ≤ 18 by omega)⟩ rfl rfl (Nat.le_of_ble_eq_true rfl) dL_is_11) (fun r_4 M1 hq => ?_)
    obtain ⟨u_5, rfl, h⟩ := hq
    refine zm_iload_n C dL_is_14 rfl 2 rfl ?_
    refine zm_icmp_ne (tgt := 31) C dL_is_15 (by decide) (fun hc_6 => ?_) (fun hc_6 => ?_)
    · have h := h.1 hc_6
      refine zm_iconst (v := 0) C dL_is_31 (by decide) ?_
      refine zm_widen (k1 := 3) (n1 := 18) (by omega) (by omega) ?_
      exact zm_zret (ty := .boolean) C hr (by decide) dL_is_32 ⟨_, rfl, h⟩
    · have h := h.2 hc_6
      refine zm_aload_n C dL_is_18 rfl 0 rfl ?_
      refine zm_iconst (v := 2) C dL_is_19 (by decide) ?_
      refine zm_ci (zr_SW (As := [.ref (g.2.2.1 0), .int (2 : Int32)]) (rest := []) C (c_L_reason l hstk _ u_5 W (2 : Int32) h) wd_866 wd_867 wd_0 wd_868 hz_L_reason rfl rfl ⟨by decide, by decide⟩ ⟨(show (0 + 2) + 1 ≤ 3 by omega), (show (0 + 12) + 6 ≤ 18 by omega)⟩ rfl rfl (Nat.le_of_ble_eq_true rfl) dL_is_20) (fun r_7 M1 hq => ?_)
      obtain ⟨u_8, rfl, h⟩ := hq
      refine zm_iload_n C dL_is_23 rfl 3 rfl ?_
      refine zm_icmp_ne (tgt := 31) C dL_is_24 (by decide) (fun hc_9 => ?_) (fun hc_9 => ?_)
      · have h := h.1 hc_9
        refine zm_iconst (v := 0) C dL_is_31 (by decide) ?_
        refine zm_widen (k1 := 3) (n1 := 18) (by omega) (by omega) ?_
        exact zm_zret (ty := .boolean) C hr (by decide) dL_is_32 ⟨_, rfl, h⟩
      · have h := h.2 hc_9
        refine zm_iconst (v := 1) C dL_is_27 (by decide) ?_
        refine zm_goto (tgt := 32) C dL_is_28 (by decide) ?_
        refine zm_widen (k1 := 3) (n1 := 18) (by omega) (by omega) ?_
        exact zm_zret (ty := .boolean) C hr (by decide) dL_is_32 ⟨_, rfl, h⟩
abbrev rm_L_e : Room := { frames := 1, cells := 0, slots := 0, locals := 20 }
def w_R_e (x1 : Int32) (u : MU) (Q : Int32 → MU → Prop) : Prop := w_X9_faultPosition u  (fun r_1 => ((¬ r_1 = x1) → Q (0 : Int32) u) ∧ ((r_1 = x1) → Q (1 : Int32) u))
set_option maxHeartbeats 4000000 in
set_option maxRecDepth 100000 in
theorem c_L_e (l : Launch) (hstk : l.stackTraces = false) (g : GE) (u : MU) (W : MU × ((Nat → Int64) × (Nat → UInt64))) (x1 : Int32) {Q : Int32 → MU → Prop} (h : w_R_e x1 u Q) : Met l yL_e (.code yL_e cL_e 2 (Option.some Jvm.ClassFile.FieldType.boolean) :: TB) rm_L_e (zPc g (u, W) [.ref (g.2.2.1 0), .int x1]) (zQi g (zPx W Q)) 0 0 (zA g) := by
  unfold w_R_e at h
  refine zMet (own := RL) [(0, .ref (g.2.2.1 0)), (1, .int x1)] (by decide +kernel) rfl (Nat.le_of_ble_eq_true rfl) rfl (fun p e s m args below meth c C hr => ?_)
  refine zm_aload_n C dL_e_0 rfl 0 rfl ?_
  refine zm_ci (zr_V (As := []) (rest := []) C (c_X9_faultPosition l _ u W  h) wd_302 wd_303 wd_304 wd_1 wd_305 hy_X9_faultPosition rfl rfl ⟨by decide, by decide⟩ ⟨(show 0 + 0 ≤ 0 by omega), (show 0 + 0 ≤ 0 by omega)⟩ (ci := 9) (by decide) (zCell_k kd_0) rfl rfl rfl rfl (Nat.le_of_ble_eq_true rfl) dL_e_1) (fun r_1 M1 hq => ?_)
  obtain ⟨rfl, h⟩ := hq
  refine zm_iload_n C dL_e_4 rfl 1 rfl ?_
  refine zm_icmp_ne (tgt := 12) C dL_e_5 (by decide) (fun hc_3 => ?_) (fun hc_3 => ?_)
  · have h := h.1 hc_3
    refine zm_iconst (v := 0) C dL_e_12 (by decide) ?_
    refine zm_widen (k1 := 0) (n1 := 0) (by omega) (by omega) ?_
    exact zm_zret (ty := .boolean) C hr (by decide) dL_e_13 ⟨_, rfl, h⟩
  · have h := h.2 hc_3
    refine zm_iconst (v := 1) C dL_e_8 (by decide) ?_
    refine zm_goto (tgt := 13) C dL_e_9 (by decide) ?_
    refine zm_widen (k1 := 0) (n1 := 0) (by omega) (by omega) ?_
    exact zm_zret (ty := .boolean) C hr (by decide) dL_e_13 ⟨_, rfl, h⟩
